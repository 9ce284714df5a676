-- ===== what stays: frames =====
/-- nothing is changed outside A, nothing is made -/
def fr (A : Nat → Prop) (σ σ' : ab_H) : Prop := σ'.1 = σ.1 ∧ ∀ a, ¬ A a → σ'.2 a = σ.2 a
theorem fr_rf (A : Nat → Prop) (σ : ab_H) : fr A σ σ := ⟨rfl, fun _ _ => rfl⟩
theorem fr.tr {A : Nat → Prop} {σ τ υ : ab_H} (h : fr A σ τ) (k : fr A τ υ) : fr A σ υ := ⟨k.1.trans h.1, fun a ha => (k.2 a ha).trans (h.2 a ha)⟩
theorem fr.mono {A B : Nat → Prop} {σ τ : ab_H} (h : fr A σ τ) (k : ∀ a, A a → B a) : fr B σ τ := ⟨h.1, fun a ha => h.2 a (fun q => ha (k a q))⟩
theorem fr_st {A : Nat → Prop} {σ : ab_H} {a : Nat} {c : ab_C} (h : A a) : fr A σ (ab_st σ a c) := ⟨rfl, fun b hb => st_n (fun e => hb (e ▸ h))⟩
theorem fr.st {A : Nat → Prop} {σ τ : ab_H} {a : Nat} {c : ab_C} (h : fr A σ τ) (k : A a) : fr A σ (ab_st τ a c) := h.tr (fr_st k)
theorem IsB.fr {A : Nat → Prop} {σ σ' : ab_H} {h : Nat} {g : Nat → Nat} (hB : IsB σ h g) (hf : fr A σ σ') (h1 : ¬ A h) (h2 : ¬ A (h + 1)) : IsB σ' h g := ⟨(hf.2 _ h1).trans hB.1, (hf.2 _ h2).trans hB.2.1, hB.2.2⟩
theorem IsC.fr {A : Nat → Prop} {σ σ' : ab_H} {h : Nat} {rg : Bool} {card parts : Nat} {b va : Nat → Nat} {G : Nat → Nat → Nat} (hC : IsC σ h rg card parts b va G) (hf : fr A σ σ') (hA : ∀ a, h ≤ a → a < h + 6 + 2 * fsp rg b parts → ¬ A a) : IsC σ' h rg card parts b va G := by
  obtain ⟨h0, h1, h2, h3, h4, h5, h6⟩ := hC
  exact ⟨(hf.2 _ (hA _ (by omega) (by omega))).trans h0, (hf.2 _ (hA _ (by omega) (by omega))).trans h1, (hf.2 _ (hA _ (by omega) (by omega))).trans h2, (hf.2 _ (hA _ (by omega) (by omega))).trans h3, (hf.2 _ (hA _ (by omega) (by omega))).trans h4, (hf.2 _ (hA _ (by omega) (by omega))).trans h5, fun i hi => (h6 i hi).fr hf (hA _ (by omega) (by omega)) (hA _ (by omega) (by omega))⟩
-- ===== a column's bitmaps as its values have them =====
def pjo (rg : Bool) (b : Nat → Nat) : Nat → Nat → Nat → Nat × Nat
  | 0, p, i => (p, i)
  | n + 1, p, i => if i < nbm rg b p then (p, i) else pjo rg b n (p + 1) (i - nbm rg b p)
theorem pjo_eq {rg : Bool} {b : Nat → Nat} : ∀ (n q p j : Nat), q ≤ p → p < q + n → j < nbm rg b p → pjo rg b n q (fsp rg b p - fsp rg b q + j) = (p, j) := by
  intro n
  induction n with
  | zero => intro q p j h1 h2; omega
  | succ n ih =>
    intro q p j h1 h2 hj
    unfold pjo
    by_cases e : p = q
    · subst e
      rw [Nat.sub_self, Nat.zero_add, if_pos hj]
    · have h3 : fsp rg b (q + 1) ≤ fsp rg b p := fsp_mono (by omega)
      have h4 : fsp rg b (q + 1) = fsp rg b q + nbm rg b q := rfl
      rw [if_neg (by omega)]
      have := ih (q + 1) p j (by omega) (by omega) hj
      rw [← this]
      congr 1
      omega
/-- bitmap number i of a column -/
def cbm (rg : Bool) (b : Nat → Nat) (va : Nat → Nat) (rows i : Nat) : Nat → Nat := mk (prd rg b (pjo rg b 4 0 i).1 va rows (pjo rg b 4 0 i).2)
theorem cbm_eq {rg : Bool} {b : Nat → Nat} {va : Nat → Nat} {rows p j : Nat} (hp : p < 4) (hj : j < nbm rg b p) : cbm rg b va rows (fsp rg b p + j) = mk (prd rg b p va rows j) := by
  have := pjo_eq 4 0 p j (Nat.zero_le _) (by omega) hj
  rw [show fsp rg b 0 = 0 from rfl, Nat.sub_zero] at this
  unfold cbm
  rw [this]
theorem cbm_lt {rg : Bool} {b : Nat → Nat} {va : Nat → Nat} {rows i : Nat} : ∀ g, cbm rg b va rows i g < 32768 := fun g => mk_lt _ _
/-- groups from lo to below g are laid anew, and of group g the first k bitmaps' -/
def gst (lo g k : Nat) (N G : Nat → Nat → Nat) : Nat → Nat → Nat := fun i j => if (lo ≤ j ∧ j < g) ∨ (lo ≤ j ∧ j = g ∧ i < k) then N i j else G i j
theorem gst_0 (lo : Nat) (N G : Nat → Nat → Nat) : gst lo lo 0 N G = G := by
  funext i j
  unfold gst
  rw [if_neg (by omega)]
theorem gst_g (lo g n : Nat) (N G : Nat → Nat → Nat) {i : Nat} (hi : i < n) : gst lo g n N G i = gst lo (g + 1) 0 N G i := by
  funext j
  unfold gst
  by_cases h : (lo ≤ j ∧ j < g) ∨ (lo ≤ j ∧ j = g ∧ i < n)
  · rw [if_pos h, if_pos (by omega)]
  · rw [if_neg h, if_neg (by omega)]
theorem gst_k {lo g k : Nat} {N G : Nat → Nat → Nat} (hlo : lo ≤ g) : ab_up (gst lo g k N G) k (ab_up (gst lo g k N G k) g (N k g)) = gst lo g (k + 1) N G := by
  funext i j
  by_cases e : i = k
  · subst e
    rw [ab_up_s]
    by_cases e2 : j = g
    · subst e2
      rw [ab_up_s]
      unfold gst
      rw [if_pos (by omega)]
    · rw [ab_up_n e2]
      unfold gst
      by_cases h : (lo ≤ j ∧ j < g) ∨ (lo ≤ j ∧ j = g ∧ i < i)
      · rw [if_pos h, if_pos (by omega)]
      · rw [if_neg h, if_neg (by omega)]
  · rw [ab_up_n e]
    unfold gst
    by_cases h : (lo ≤ j ∧ j < g) ∨ (lo ≤ j ∧ j = g ∧ i < k)
    · rw [if_pos h, if_pos (by omega)]
    · rw [if_neg h, if_neg (by omega)]
section Reg
variable {σ : ab_H} {h : Nat} {rg : Bool} {card parts : Nat} {b : Nat → Nat} {va : Nat → Nat} {G : Nat → Nat → Nat}
/-- where regroup writes -/
def rgA (h n y : Nat) (a : Nat) : Prop := a = y ∨ (h + 6 ≤ a ∧ a < h + 6 + 2 * n)
set_option maxRecDepth 100000 in
set_option maxHeartbeats 1000000 in
theorem c_regroup (hC : IsC σ h rg card parts b va G) (ho : okb card parts b) (lo hi rows : Nat) (hlo : lo ≤ hi) (hhi : hi ≤ 100) (hr : rows ≤ 1500) {y : Nat} {m : Nat → Nat} (hy : σ.2 y = some (ints 200 m)) (hyc : y < h ∨ h + 6 + 2 * fsp rg b parts ≤ y) (hw : ∀ r, va r < 1000) (hm : ∀ j, m j < 32768) :
    ab_call 3 0 0 yX3_regroup [rf h, .inl lo, .inl hi, .inl rows, rf y] σ (fun r σ' => r = .inl none ∧ fr (rgA h (fsp rg b parts) y) σ σ' ∧ (∃ m' : Nat → Nat, σ'.2 y = some (ints 200 m') ∧ ∀ j, m' j < 32768) ∧ IsC σ' h rg card parts b va (gst lo hi 0 (cbm rg b va rows) G)) := by
  obtain ⟨o1, o2, o3, o4, o5, o6⟩ := id ho
  have hpos := fsp_le (rg := rg) o3 parts
  refine eX3_regroup rfl (fun At hA => ?_)
  -- what holds at every loop's head
  have LI : ∀ (τ : ab_H) (g k : Nat), (fr (rgA h (fsp rg b parts) y) σ τ ∧ (∃ m' : Nat → Nat, τ.2 y = some (ints 200 m') ∧ ∀ j, m' j < 32768) ∧ IsC τ h rg card parts b va (gst lo g k (cbm rg b va rows) G)) → True := fun _ _ _ _ => trivial
  have loopG : ∀ (n g : Nat) (τ : ab_H) (y6 y7 : Option ab_V), g + n = hi → lo ≤ g → fr (rgA h (fsp rg b parts) y) σ τ → (∃ m' : Nat → Nat, τ.2 y = some (ints 200 m') ∧ ∀ j, m' j < 32768) → IsC τ h rg card parts b va (gst lo g 0 (cbm rg b va rows) G) → At 1 [some (rf h), some (.inl lo), some (.inl hi), some (.inl rows), some (rf y), some (.inl g), y6, y7] [] τ 0 0 := by
    intro n
    induction n with
    | zero =>
      intro g τ y6 y7 hg hlg hf hm' hC'
      have hg : g = hi := by omega
      subst hg
      refine hA 1 _ rfl _ _ _ _ _ ?_
      refine And.intro (And.intro (by first | assumption | exact b2i_R _ | exact rR (by omega) (by omega) | exact rR (by simp only [Int.toNat_natCast]; omega) (by simp only [Int.toNat_natCast]; omega)) (by first | assumption | exact b2i_R _ | exact rR (by omega) (by omega) | exact rR (by simp only [Int.toNat_natCast]; omega) (by simp only [Int.toNat_natCast]; omega))) (And.intro (fun q => ?_) (fun q => ?_))
      · refine hA 9 _ rfl _ _ _ _ _ ?_
        exact ⟨rfl, hf, hm', hC'⟩
      · omega
    | succ n ih =>
      intro g τ y6 y7 hg hlg hf hm' hC'
      have loopP : ∀ (n p : Nat) (τ : ab_H) (y7 : Option ab_V), p + n = parts → fr (rgA h (fsp rg b parts) y) σ τ → (∃ m' : Nat → Nat, τ.2 y = some (ints 200 m') ∧ ∀ j, m' j < 32768) → IsC τ h rg card parts b va (gst lo g (fsp rg b p) (cbm rg b va rows) G) → At 3 [some (rf h), some (.inl lo), some (.inl hi), some (.inl rows), some (rf y), some (.inl g), some (.inl p), y7] [] τ 0 0 := by
        intro n
        induction n with
        | zero =>
          intro p τ y7 hp hf hm' hC'
          have hp : p = parts := by omega
          subst hp
          have hCn := hC'.G (G' := gst lo (g + 1) 0 (cbm rg b va rows) G) (fun i hi => gst_g _ _ _ _ _ hi)
          have h0 := hC'.1
          refine hA 3 _ rfl _ _ _ _ _ ?_
          refine Exists.intro _ (And.intro (by first | assumption | exact st_s | exact st_e (by decide) (by assumption) | exact st_e (by omega) (by assumption) | exact st_e (by decide) st_s | exact st_e (by omega) st_s | exact st_e (by decide) (st_e (by decide) (by assumption)) | exact st_e (by omega) (st_e (by omega) (by assumption))) ?_)
          refine And.intro (And.intro (by first | assumption | exact b2i_R _ | exact rR (by omega) (by omega) | exact rR (by simp only [Int.toNat_natCast]; omega) (by simp only [Int.toNat_natCast]; omega)) (by first | assumption | exact b2i_R _ | exact rR (by omega) (by omega) | exact rR (by simp only [Int.toNat_natCast]; omega) (by simp only [Int.toNat_natCast]; omega))) (And.intro (fun q => ?_) (fun q => ?_))
          · refine hA 8 _ rfl _ _ _ _ _ ?_
            exact ih (g + 1) τ _ _ (by omega) (by omega) hf hm' hCn
          · omega
        | succ n ihp =>
          intro p τ y7 hp hf hm' hC'
          obtain ⟨m1, hm1, hm2⟩ := hm'
          have hb := o3 p
          have hnb := nbm_le (rg := rg) o3 p
          have hnR : ab_R ((nbm rg b p : Nat) : Int) := rR (by omega) (by omega)
          have h0 := hC'.1
          have h4 := hC'.2.2.2.2.1
          have hlt : fsp rg b p + nbm rg b p ≤ fsp rg b parts := fsp_mono (show p + 1 ≤ parts by omega)
          have loopJ : ∀ (n j : Nat) (τ : ab_H), j + n = nbm rg b p → fr (rgA h (fsp rg b parts) y) σ τ → (∃ m' : Nat → Nat, τ.2 y = some (ints 200 m') ∧ (∀ j, m' j < 32768) ∧ ∀ i, i < b p → m' i = mk (prd rg b p va rows i) g) → IsC τ h rg card parts b va (gst lo g (fsp rg b p + j) (cbm rg b va rows) G) → At 5 [some (rf h), some (.inl lo), some (.inl hi), some (.inl rows), some (rf y), some (.inl g), some (.inl p), some (.inl j)] [] τ 0 0 := by
            intro n
            induction n with
            | zero =>
              intro j τ hj hf hm' hC'
              have hj : j = nbm rg b p := by omega
              subst hj
              obtain ⟨m3, hm3, hm4, hm5⟩ := hm'
              have h0 := hC'.1
              refine hA 5 _ rfl _ _ _ _ _ ?_
              refine Exists.intro _ (And.intro (by first | assumption | exact st_s | exact st_e (by decide) (by assumption) | exact st_e (by omega) (by assumption) | exact st_e (by decide) st_s | exact st_e (by omega) st_s | exact st_e (by decide) (st_e (by decide) (by assumption)) | exact st_e (by omega) (st_e (by omega) (by assumption))) (And.intro rfl (ab_inv_ev (c_bitmapsOfPart hC' ho p (by omega)) (by decide) (Nat.le_refl _) (Nat.le_refl _) ?_)))
              refine And.intro (And.intro (by first | assumption | exact b2i_R _ | exact rR (by omega) (by omega) | exact rR (by simp only [Int.toNat_natCast]; omega) (by simp only [Int.toNat_natCast]; omega)) (by first | assumption | exact b2i_R _ | exact rR (by omega) (by omega) | exact rR (by simp only [Int.toNat_natCast]; omega) (by simp only [Int.toNat_natCast]; omega))) (And.intro (fun q => ?_) (fun q => ?_))
              · refine hA 7 _ rfl _ _ _ _ _ ?_
                exact ihp (p + 1) τ _ (by omega) hf ⟨m3, hm3, hm4⟩ hC'
              · exact absurd (show ((nbm rg b p : Nat) : Int) < ((nbm rg b p : Nat) : Int) from q) (by omega)
            | succ n ihj =>
              intro j τ hj hf hm' hC'
              obtain ⟨m3, hm3, hm4, hm5⟩ := hm'
              have h0 := hC'.1
              have hB := hC'.2.2.2.2.2.2 (fsp rg b p + j) (by omega)
              have hB1 := hB.1
              have hB2 := hB.2.1
              refine hA 5 _ rfl _ _ _ _ _ ?_
              refine Exists.intro _ (And.intro (by first | assumption | exact st_s | exact st_e (by decide) (by assumption) | exact st_e (by omega) (by assumption) | exact st_e (by decide) st_s | exact st_e (by omega) st_s | exact st_e (by decide) (st_e (by decide) (by assumption)) | exact st_e (by omega) (st_e (by omega) (by assumption))) (And.intro rfl (ab_inv_ev (c_bitmapsOfPart hC' ho p (by omega)) (by decide) (Nat.le_refl _) (Nat.le_refl _) ?_)))
              refine And.intro (And.intro (by first | assumption | exact b2i_R _ | exact rR (by omega) (by omega) | exact rR (by simp only [Int.toNat_natCast]; omega) (by simp only [Int.toNat_natCast]; omega)) (by first | assumption | exact b2i_R _ | exact rR (by omega) (by omega) | exact rR (by simp only [Int.toNat_natCast]; omega) (by simp only [Int.toNat_natCast]; omega))) (And.intro (fun q => ?_) (fun q => ?_))
              · exact absurd (show ((nbm rg b p : Nat) : Int) ≤ (j : Int) from q) (by omega)
              · refine hA 6 _ rfl _ _ _ _ _ ?_
                refine Exists.intro _ (And.intro (by first | assumption | exact st_s | exact st_e (by decide) (by assumption) | exact st_e (by omega) (by assumption) | exact st_e (by decide) st_s | exact st_e (by omega) st_s | exact st_e (by decide) (st_e (by decide) (by assumption)) | exact st_e (by omega) (st_e (by omega) (by assumption))) (And.intro rfl (ab_inv_ev (c_bitmapAt hC' ho p j (by omega) (by omega)) (by decide) (Nat.le_refl _) (Nat.le_refl _) ?_)))
                refine Exists.intro _ (And.intro (by first | assumption | exact st_s | exact st_e (by decide) (by assumption) | exact st_e (by omega) (by assumption) | exact st_e (by decide) st_s | exact st_e (by omega) st_s | exact st_e (by decide) (st_e (by decide) (by assumption)) | exact st_e (by omega) (st_e (by omega) (by assumption))) ?_)
                refine Exists.intro _ (Exists.intro _ (And.intro (by first | assumption | exact st_s | exact st_e (by decide) (by assumption) | exact st_e (by omega) (by assumption) | exact st_e (by decide) st_s | exact st_e (by omega) st_s | exact st_e (by decide) (st_e (by decide) (by assumption)) | exact st_e (by omega) (st_e (by omega) (by assumption))) (And.intro (by omega) ?_)))
                refine Exists.intro _ (Exists.intro _ (And.intro (by first | assumption | exact st_s | exact st_e (by decide) (by assumption) | exact st_e (by omega) (by assumption) | exact st_e (by decide) st_s | exact st_e (by omega) st_s | exact st_e (by decide) (st_e (by decide) (by assumption)) | exact st_e (by omega) (st_e (by omega) (by assumption))) (And.intro (by omega) ?_)))
                have ev : m3 j = cbm rg b va rows (fsp rg b p + j) g := by
                  rw [hm5 j (by omega), cbm_eq (by omega) (by omega)]
                show At 5 _ _ (ab_st τ (h + 6 + 2 * (fsp rg b p + j) + 1) (.inr (.inl (0, 100, ab_up (fun i => ((gst lo g (fsp rg b p + j) (cbm rg b va rows) G (fsp rg b p + j) i : Nat) : Int)) g ((m3 j : Nat) : Int))))) _ _
                rw [ev, ints_up]
                have hfl : ∀ i, ab_up (gst lo g (fsp rg b p + j) (cbm rg b va rows) G (fsp rg b p + j)) g (cbm rg b va rows (fsp rg b p + j) g) i < 32768 := fun i => by
                  unfold ab_up
                  split
                  · exact cbm_lt _
                  · exact hB.2.2 i
                have hC2 := hC'.stB (k := fsp rg b p + j) (by omega) hfl
                rw [gst_k hlg] at hC2
                exact ihj (j + 1) _ (by omega) (hf.st (Or.inr ⟨by omega, by omega⟩)) ⟨m3, st_e (by omega) hm3, hm4, hm5⟩ hC2
          refine hA 3 _ rfl _ _ _ _ _ ?_
          refine Exists.intro _ (And.intro (by first | assumption | exact st_s | exact st_e (by decide) (by assumption) | exact st_e (by omega) (by assumption) | exact st_e (by decide) st_s | exact st_e (by omega) st_s | exact st_e (by decide) (st_e (by decide) (by assumption)) | exact st_e (by omega) (st_e (by omega) (by assumption))) ?_)
          refine And.intro (And.intro (by first | assumption | exact b2i_R _ | exact rR (by omega) (by omega) | exact rR (by simp only [Int.toNat_natCast]; omega) (by simp only [Int.toNat_natCast]; omega)) (by first | assumption | exact b2i_R _ | exact rR (by omega) (by omega) | exact rR (by simp only [Int.toNat_natCast]; omega) (by simp only [Int.toNat_natCast]; omega))) (And.intro (fun q => ?_) (fun q => ?_))
          · omega
          · refine hA 4 _ rfl _ _ _ _ _ ?_
            refine Exists.intro _ (And.intro (by first | assumption | exact st_s | exact st_e (by decide) (by assumption) | exact st_e (by omega) (by assumption) | exact st_e (by decide) st_s | exact st_e (by omega) st_s | exact st_e (by decide) (st_e (by decide) (by assumption)) | exact st_e (by omega) (st_e (by omega) (by assumption))) ?_)
            refine Exists.intro _ (And.intro (by first | assumption | exact st_s | exact st_e (by decide) (by assumption) | exact st_e (by omega) (by assumption) | exact st_e (by decide) st_s | exact st_e (by omega) st_s | exact st_e (by decide) (st_e (by decide) (by assumption)) | exact st_e (by omega) (st_e (by omega) (by assumption))) (And.intro rfl (ab_inv_ev (c_gatherMasks hC' ho p g rows (by omega) (by omega) hr h4 hm1 (by omega) hyc hw hm2) (by decide) (Nat.le_refl _) (Nat.le_refl _) ?_)))
            refine loopJ (nbm rg b p) 0 _ (by omega) (hf.st (Or.inl rfl)) ⟨_, st_s, fun j => ?_, fun i hi => mix_lt hi⟩ (hC'.ne hyc)
            unfold mix
            split
            · exact mk_lt _ _
            · exact hm2 j
      refine hA 1 _ rfl _ _ _ _ _ ?_
      refine And.intro (And.intro (by first | assumption | exact b2i_R _ | exact rR (by omega) (by omega) | exact rR (by simp only [Int.toNat_natCast]; omega) (by simp only [Int.toNat_natCast]; omega)) (by first | assumption | exact b2i_R _ | exact rR (by omega) (by omega) | exact rR (by simp only [Int.toNat_natCast]; omega) (by simp only [Int.toNat_natCast]; omega))) (And.intro (fun q => ?_) (fun q => ?_))
      · omega
      · refine hA 2 _ rfl _ _ _ _ _ ?_
        exact loopP parts 0 τ y7 (by omega) hf hm' hC'
  refine hA 0 _ rfl _ _ _ _ _ ?_
  exact loopG (hi - lo) lo σ _ _ (by omega) (Nat.le_refl _) (fr_rf _ _) ⟨m, hy, hm⟩ (by rw [gst_0]; exact hC)
/-- those that are kept, moved up -/
def cmp {α : Type} (p : Nat → Bool) (w : Nat → α) : Nat → Nat → α
  | 0 => w
  | n + 1 => if p n then ab_up (cmp p w n) (cnt p n) (w n) else cmp p w n
theorem cmp_ge {α : Type} (p : Nat → Bool) (w : Nat → α) : ∀ n j, cnt p n ≤ j → cmp p w n j = w j := by
  intro n
  induction n with
  | zero => intro j _; rfl
  | succ n ih =>
    intro j hj
    have hj : cnt p n + (p n).toNat ≤ j := hj
    show (if p n then ab_up (cmp p w n) (cnt p n) (w n) else cmp p w n) j = w j
    by_cases h : p n = true
    · rw [h] at hj
      have hj : cnt p n + 1 ≤ j := hj
      rw [if_pos h, ab_up_n (by omega), ih j (by omega)]
    · rw [if_neg h, ih j (by omega)]
theorem cmp_lt {p : Nat → Bool} {w : Nat → Nat} {N : Nat} (h : ∀ r, w r < N) : ∀ n r, cmp p w n r < N := by
  intro n
  induction n with
  | zero => exact h
  | succ n ih =>
    intro r
    show (if p n then ab_up (cmp p w n) (cnt p n) (w n) else cmp p w n) r < N
    split
    · unfold ab_up
      split
      · exact h n
      · exact ih r
    · exact ih r
theorem cnt_s1 {p : Nat → Bool} {n : Nat} (h : p n = true) : cnt p (n + 1) = cnt p n + 1 := by show cnt p n + (p n).toNat = _; rw [h]; rfl
theorem cnt_s0 {p : Nat → Bool} {n : Nat} (h : p n = false) : cnt p (n + 1) = cnt p n := by show cnt p n + (p n).toNat = _; rw [h]; rfl
set_option maxRecDepth 100000 in
set_option maxHeartbeats 1000000 in
theorem c_colKeep (hC : IsC σ h rg card parts b va G) {o : Nat} {g : Nat → Nat} (hO : IsB σ o g) (hoc : o + 1 < h ∨ h + 6 + 2 * fsp rg b parts ≤ o) (rows : Nat) (hr : rows ≤ 1500) : ab_ev 2 yX3_keepRowsOf [rf h, rf o, .inl rows] σ none (ab_st σ (h + 4) (ints 1500 (cmp (bit g) va rows))) := by
  have h0 := hC.1
  refine eX3_keepRowsOf rfl (fun At hA => ?_)
  have loop : ∀ (n i : Nat), i + n = rows → At 1 [some (rf h), some (rf o), some (.inl rows), some (.inl (cnt (bit g) i)), some (.inl i)] [] (ab_st σ (h + 4) (ints 1500 (cmp (bit g) va i))) 0 0 := by
    intro n
    induction n with
    | zero =>
      intro i hi
      refine hA 1 _ rfl _ _ _ _ _ ?_
      refine And.intro (And.intro (by first | assumption | exact b2i_R _ | exact rR (by omega) (by omega) | exact rR (by simp only [Int.toNat_natCast]; omega) (by simp only [Int.toNat_natCast]; omega)) (by first | assumption | exact b2i_R _ | exact rR (by omega) (by omega) | exact rR (by simp only [Int.toNat_natCast]; omega) (by simp only [Int.toNat_natCast]; omega))) (And.intro (fun q => ?_) (fun q => ?_))
      · refine hA 5 _ rfl _ _ _ _ _ ?_
        exact ⟨rfl, by rw [show i = rows by omega]⟩
      · omega
    | succ n ih =>
      intro i hi
      have hO' : IsB (ab_st σ (h + 4) (ints 1500 (cmp (bit g) va i))) o g := hO.ne (by omega) (by omega)
      have hO1 := hO'.1
      have hci := cnt_le (bit g) i
      refine hA 1 _ rfl _ _ _ _ _ ?_
      refine And.intro (And.intro (by first | assumption | exact b2i_R _ | exact rR (by omega) (by omega) | exact rR (by simp only [Int.toNat_natCast]; omega) (by simp only [Int.toNat_natCast]; omega)) (by first | assumption | exact b2i_R _ | exact rR (by omega) (by omega) | exact rR (by simp only [Int.toNat_natCast]; omega) (by simp only [Int.toNat_natCast]; omega))) (And.intro (fun q => ?_) (fun q => ?_))
      · omega
      · refine hA 2 _ rfl _ _ _ _ _ ?_
        refine Exists.intro _ (And.intro (by first | assumption | exact st_s | exact st_e (by decide) (by assumption) | exact st_e (by omega) (by assumption) | exact st_e (by decide) st_s | exact st_e (by omega) st_s | exact st_e (by decide) (st_e (by decide) (by assumption)) | exact st_e (by omega) (st_e (by omega) (by assumption))) (And.intro rfl (ab_inv_ev (c_contains hO' i (by omega)) (by decide) (Nat.le_refl _) (Nat.le_refl _) ?_)))
        refine And.intro (by first | assumption | exact b2i_R _ | exact rR (by omega) (by omega) | exact rR (by simp only [Int.toNat_natCast]; omega) (by simp only [Int.toNat_natCast]; omega)) (And.intro (fun q => ?_) (fun q => ?_))
        · refine hA 4 _ rfl _ _ _ _ _ ?_
          have := ih (i + 1) (by omega)
          rw [cnt_s0 (b2i_0 q), show cmp (bit g) va (i + 1) = cmp (bit g) va i from if_neg (by rw [b2i_0 q]; decide)] at this
          exact this
        · refine hA 3 _ rfl _ _ _ _ _ ?_
          refine Exists.intro _ (And.intro (by first | assumption | exact st_s | exact st_e (by decide) (by assumption) | exact st_e (by omega) (by assumption) | exact st_e (by decide) st_s | exact st_e (by omega) st_s | exact st_e (by decide) (st_e (by decide) (by assumption)) | exact st_e (by omega) (st_e (by omega) (by assumption))) ?_)
          refine Exists.intro _ (And.intro (by first | assumption | exact st_s | exact st_e (by decide) (by assumption) | exact st_e (by omega) (by assumption) | exact st_e (by decide) st_s | exact st_e (by omega) st_s | exact st_e (by decide) (st_e (by decide) (by assumption)) | exact st_e (by omega) (st_e (by omega) (by assumption))) ?_)
          refine Exists.intro _ (Exists.intro _ (And.intro (by first | assumption | exact st_s | exact st_e (by decide) (by assumption) | exact st_e (by omega) (by assumption) | exact st_e (by decide) st_s | exact st_e (by omega) st_s | exact st_e (by decide) (st_e (by decide) (by assumption)) | exact st_e (by omega) (st_e (by omega) (by assumption))) (And.intro (by omega) ?_)))
          refine Exists.intro _ (Exists.intro _ (And.intro (by first | assumption | exact st_s | exact st_e (by decide) (by assumption) | exact st_e (by omega) (by assumption) | exact st_e (by decide) st_s | exact st_e (by omega) st_s | exact st_e (by decide) (st_e (by decide) (by assumption)) | exact st_e (by omega) (st_e (by omega) (by assumption))) (And.intro (by omega) ?_)))
          refine hA 4 _ rfl _ _ _ _ _ ?_
          have := ih (i + 1) (by omega)
          rw [cnt_s1 (b2i_1 q), show cmp (bit g) va (i + 1) = ab_up (cmp (bit g) va i) (cnt (bit g) i) (va i) from if_pos (b2i_1 q), ← cmp_ge (bit g) va i i hci, ← ints_up, ← st_st] at this
          exact this
  refine hA 0 _ rfl _ _ _ _ _ ?_
  have := loop rows 0 (by omega)
  rw [show cmp (bit g) va 0 = va from rfl, st_id hC.2.2.2.2.1] at this
  exact this
theorem pt_cmp {p q : Nat → Bool} {f : Nat → Nat} {n : Nat} (h : ∀ r, bit f r = cmp p q n r) (hp : p n = true) : ∀ r, bit (pt f (cnt p n) (q n)) r = cmp p q (n + 1) r := by
  intro r
  rw [pt_bit, show cmp p q (n + 1) = ab_up (cmp p q n) (cnt p n) (q n) from if_pos hp]
  unfold ab_up
  split
  · rfl
  · exact h r
set_option maxRecDepth 100000 in
set_option maxHeartbeats 1000000 in
theorem c_bmKeep {o : Nat} {g f : Nat → Nat} (hB : IsB σ h f) (hO : IsB σ o g) (hoc : o ≠ h ∧ o ≠ h + 1 ∧ o + 1 ≠ h) (rows : Nat) (hr : rows ≤ 1500) : ab_ev 2 yX2_keepRowsOf [rf h, rf o, .inl rows] σ none (ab_st σ (h + 1) (bmc (mk (fun r => if r < rows then decide (r < cnt (bit g) rows) && cmp (bit g) (bit f) rows r else bit f r)))) := by
  have h0 := hB.1
  have hcr := cnt_le (bit g) rows
  refine eX2_keepRowsOf rfl (fun At hA => ?_)
  have loop2 : ∀ (n i : Nat) (f' : Nat → Nat), i + n = rows → cnt (bit g) rows ≤ i → (∀ i, f' i < 32768) → (∀ r, bit f' r = if cnt (bit g) rows ≤ r ∧ r < i then false else cmp (bit g) (bit f) rows r) → At 6 [some (rf h), some (rf o), some (.inl rows), some (.inl (cnt (bit g) rows)), some (.inl i)] [] (ab_st σ (h + 1) (bmc f')) 0 0 := by
    intro n
    induction n with
    | zero =>
      intro i f' hi hci hf' hb
      refine hA 6 _ rfl _ _ _ _ _ ?_
      refine And.intro (And.intro (by first | assumption | exact b2i_R _ | exact rR (by omega) (by omega) | exact rR (by simp only [Int.toNat_natCast]; omega) (by simp only [Int.toNat_natCast]; omega)) (by first | assumption | exact b2i_R _ | exact rR (by omega) (by omega) | exact rR (by simp only [Int.toNat_natCast]; omega) (by simp only [Int.toNat_natCast]; omega))) (And.intro (fun q => ?_) (fun q => ?_))
      · refine hA 8 _ rfl _ _ _ _ _ ?_
        refine ⟨rfl, ?_⟩
        rw [mk_of hf' (p := fun r => if r < rows then decide (r < cnt (bit g) rows) && cmp (bit g) (bit f) rows r else bit f r) (fun r => ?_)]
        rw [hb r]
        by_cases h1 : r < rows
        · rw [if_pos h1]
          by_cases h2 : cnt (bit g) rows ≤ r
          · rw [if_pos ⟨h2, by omega⟩, decide_eq_false (by omega)]; rfl
          · rw [if_neg (by omega), decide_eq_true (by omega)]; rfl
        · rw [if_neg h1, if_neg (by omega), cmp_ge _ _ _ _ (by omega)]
      · omega
    | succ n ih =>
      intro i f' hi hci hf' hb
      have hB' := hB.st hf'
      have hB1 := hB'.1
      refine hA 6 _ rfl _ _ _ _ _ ?_
      refine And.intro (And.intro (by first | assumption | exact b2i_R _ | exact rR (by omega) (by omega) | exact rR (by simp only [Int.toNat_natCast]; omega) (by simp only [Int.toNat_natCast]; omega)) (by first | assumption | exact b2i_R _ | exact rR (by omega) (by omega) | exact rR (by simp only [Int.toNat_natCast]; omega) (by simp only [Int.toNat_natCast]; omega))) (And.intro (fun q => ?_) (fun q => ?_))
      · omega
      · refine hA 7 _ rfl _ _ _ _ _ ?_
        refine Exists.intro _ (And.intro (by first | assumption | exact st_s | exact st_e (by decide) (by assumption) | exact st_e (by omega) (by assumption) | exact st_e (by decide) st_s | exact st_e (by omega) st_s | exact st_e (by decide) (st_e (by decide) (by assumption)) | exact st_e (by omega) (st_e (by omega) (by assumption))) (And.intro rfl (ab_inv_ev (c_put hB' i (by omega) false) (by decide) (Nat.le_refl _) (Nat.le_refl _) ?_)))
        rw [st_st]
        refine ih (i + 1) _ (by omega) (by omega) (pt_lt hf' _ _) (fun r => ?_)
        rw [pt_bit]
        by_cases h1 : r = i
        · rw [if_pos h1, if_pos (by omega)]
        · rw [if_neg h1, hb r]
          by_cases h2 : cnt (bit g) rows ≤ r ∧ r < i
          · rw [if_pos h2, if_pos (by omega)]
          · rw [if_neg h2, if_neg (by omega)]
  have loop : ∀ (n i : Nat) (f' : Nat → Nat), i + n = rows → (∀ i, f' i < 32768) → (∀ r, bit f' r = cmp (bit g) (bit f) i r) → At 1 [some (rf h), some (rf o), some (.inl rows), some (.inl (cnt (bit g) i)), some (.inl i)] [] (ab_st σ (h + 1) (bmc f')) 0 0 := by
    intro n
    induction n with
    | zero =>
      intro i f' hi hf' hb
      have hi : i = rows := by omega
      subst hi
      refine hA 1 _ rfl _ _ _ _ _ ?_
      refine And.intro (And.intro (by first | assumption | exact b2i_R _ | exact rR (by omega) (by omega) | exact rR (by simp only [Int.toNat_natCast]; omega) (by simp only [Int.toNat_natCast]; omega)) (by first | assumption | exact b2i_R _ | exact rR (by omega) (by omega) | exact rR (by simp only [Int.toNat_natCast]; omega) (by simp only [Int.toNat_natCast]; omega))) (And.intro (fun q => ?_) (fun q => ?_))
      · refine hA 5 _ rfl _ _ _ _ _ ?_
        exact loop2 (i - cnt (bit g) i) (cnt (bit g) i) f' (by omega) (Nat.le_refl _) hf' (fun r => by rw [hb r, if_neg (by omega)])
      · omega
    | succ n ih =>
      intro i f' hi hf' hb
      have hB' := hB.st hf'
      have hB1 := hB'.1
      have hO' : IsB (ab_st σ (h + 1) (bmc f')) o g := hO.ne (by omega) (by omega)
      have hO1 := hO'.1
      have hci := cnt_le (bit g) i
      refine hA 1 _ rfl _ _ _ _ _ ?_
      refine And.intro (And.intro (by first | assumption | exact b2i_R _ | exact rR (by omega) (by omega) | exact rR (by simp only [Int.toNat_natCast]; omega) (by simp only [Int.toNat_natCast]; omega)) (by first | assumption | exact b2i_R _ | exact rR (by omega) (by omega) | exact rR (by simp only [Int.toNat_natCast]; omega) (by simp only [Int.toNat_natCast]; omega))) (And.intro (fun q => ?_) (fun q => ?_))
      · omega
      · refine hA 2 _ rfl _ _ _ _ _ ?_
        refine Exists.intro _ (And.intro (by first | assumption | exact st_s | exact st_e (by decide) (by assumption) | exact st_e (by omega) (by assumption) | exact st_e (by decide) st_s | exact st_e (by omega) st_s | exact st_e (by decide) (st_e (by decide) (by assumption)) | exact st_e (by omega) (st_e (by omega) (by assumption))) (And.intro rfl (ab_inv_ev (c_contains hO' i (by omega)) (by decide) (Nat.le_refl _) (Nat.le_refl _) ?_)))
        refine And.intro (by first | assumption | exact b2i_R _ | exact rR (by omega) (by omega) | exact rR (by simp only [Int.toNat_natCast]; omega) (by simp only [Int.toNat_natCast]; omega)) (And.intro (fun q => ?_) (fun q => ?_))
        · refine hA 4 _ rfl _ _ _ _ _ ?_
          have := ih (i + 1) f' (by omega) hf' (fun r => by rw [hb r, show cmp (bit g) (bit f) (i + 1) = cmp (bit g) (bit f) i from if_neg (by rw [b2i_0 q]; decide)])
          rw [cnt_s0 (b2i_0 q)] at this
          exact this
        · refine hA 3 _ rfl _ _ _ _ _ ?_
          refine Exists.intro _ (And.intro (by first | assumption | exact st_s | exact st_e (by decide) (by assumption) | exact st_e (by omega) (by assumption) | exact st_e (by decide) st_s | exact st_e (by omega) st_s | exact st_e (by decide) (st_e (by decide) (by assumption)) | exact st_e (by omega) (st_e (by omega) (by assumption))) (And.intro rfl (ab_inv_ev (c_contains hB' i (by omega)) (by decide) (Nat.le_refl _) (Nat.le_refl _) ?_)))
          refine Exists.intro _ (And.intro (by first | assumption | exact st_s | exact st_e (by decide) (by assumption) | exact st_e (by omega) (by assumption) | exact st_e (by decide) st_s | exact st_e (by omega) st_s | exact st_e (by decide) (st_e (by decide) (by assumption)) | exact st_e (by omega) (st_e (by omega) (by assumption))) (And.intro rfl (ab_inv_ev (c_put hB' (cnt (bit g) i) (by omega) (bit f' i)) (by decide) (Nat.le_refl _) (Nat.le_refl _) ?_)))
          rw [st_st]
          refine hA 4 _ rfl _ _ _ _ _ ?_
          have e : bit f' i = bit f i := by rw [hb i, cmp_ge _ _ _ _ hci]
          have := ih (i + 1) (pt f' (cnt (bit g) i) (bit f' i)) (by omega) (pt_lt hf' _ _) (by rw [e]; exact pt_cmp hb (b2i_1 q))
          rw [cnt_s1 (b2i_1 q)] at this
          exact this
  refine hA 0 _ rfl _ _ _ _ _ ?_
  have := loop rows 0 f (by omega) hB.2.2 (fun r => rfl)
  rw [st_id hB.2.1] at this
  exact this
end Reg
