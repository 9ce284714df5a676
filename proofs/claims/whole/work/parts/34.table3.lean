-- ===== the table: append, closeUp =====
/-- the cells of column c -/
def inC (K : Nat → CT) (ad : Nat → Nat) (c a : Nat) : Prop := ad c ≤ a ∧ a < ad c + 6 + 2 * fsp (K c).1 (K c).2.2.2 (K c).2.2.1
abbrev IsCc (σ : ab_H) (K : Nat → CT) (ad : Nat → Nat) (c : Nat) (w : Nat → Nat) (G : Nat → Nat → Nat) : Prop := IsC σ (ad c) (K c).1 (K c).2.1 (K c).2.2.1 (K c).2.2.2 w G
abbrev cbK (K : Nat → CT) (c : Nat) (w : Nat → Nat) (rows : Nat) : Nat → Nat → Nat := cbm (K c).1 (K c).2.2.2 w rows
theorem gst_cbm {ρ : Bool} {b va va' : Nat → Nat} {rows rows' lo hi : Nat} (h1 : ∀ r, r < 15 * lo → va r = va' r) (h2 : 15 * lo ≤ rows) (h3 : rows ≤ 15 * hi) (h4 : rows' ≤ 15 * hi) (h5 : 15 * lo ≤ rows') : gst lo hi 0 (cbm ρ b va' rows') (cbm ρ b va rows) = cbm ρ b va' rows' := by
  funext i g
  unfold gst
  by_cases h : (lo ≤ g ∧ g < hi) ∨ (lo ≤ g ∧ g = hi ∧ i < 0)
  · rw [if_pos h]
  · rw [if_neg h]
    refine mk_eq (fun r k1 k2 => ?_)
    unfold prd
    by_cases e : g < lo
    · rw [decide_eq_true (show r < rows by omega), decide_eq_true (show r < rows' by omega), h1 r (by omega)]
    · rw [decide_eq_false (show ¬ r < rows by omega), decide_eq_false (show ¬ r < rows' by omega)]
      rfl
theorem IsCs.dis {σ : ab_H} {cc rows : Nat} {K : Nat → CT} {va : Nat → Nat → Nat} {ad : Nat → Nat} (hC : IsCs σ cc rows K va ad) {c c' : Nat} (h : c < cc) (h' : c' < cc) (hn : c ≠ c') : ∀ a, inC K ad c a → ¬ inC K ad c' a := by
  intro a ha hb
  obtain ⟨-, -, h3⟩ := hC
  unfold inC at ha hb
  rcases Nat.lt_or_ge c c' with h4 | h4
  · have := (h3 c' h').2.2.2.2.2 c h4
    omega
  · have := (h3 c h).2.2.2.2.2 c' (by omega)
    omega
/-- where append writes -/
def apA (a : Nat) : Prop := a = 3 ∨ a = 10 ∨ a = 25 ∨ 320 ≤ a
def vaN (va : Nat → Nat → Nat) (v : Nat → Int) (rows k c : Nat) : Nat → Nat := fun r => if rows ≤ r ∧ r < k then (v c).toNat else va c r
section Table3
variable {σ : ab_H} {cc rows : Nat} {K : Nat → CT} {va : Nat → Nat → Nat} {ad : Nat → Nat}
set_option maxRecDepth 100000 in
set_option maxHeartbeats 1000000 in
theorem c_append (h3 : σ.2 3 = some (tbc cc rows)) (h5 : σ.2 5 = some rsc) (hC : IsCs σ cc rows K va ad) {lv m : Nat → Nat} (hL : IsB σ 24 lv) (h10 : σ.2 10 = some (ints 200 m)) (hm : ∀ j, m j < 32768) {x : Nat} {v : Nat → Int} (hx : σ.2 x = some (.inr (.inl (0, 4, v)))) (hxA : ¬ apA x) (hfit : fitI K v cc = true) (n : Nat) (hn : rows + n ≤ 1500) :
    ab_call 4 0 0 yX6_append [rf 3, .inl n, rf x] σ (fun r σ' => r = .inl none ∧ fr apA σ σ' ∧ σ'.2 3 = some (tbc cc (rows + n)) ∧ (∃ lv' : Nat → Nat, IsB σ' 24 lv' ∧ ∀ r, bit lv' r = (decide (rows ≤ r ∧ r < rows + n) || bit lv r)) ∧ (∃ m' : Nat → Nat, σ'.2 10 = some (ints 200 m') ∧ ∀ j, m' j < 32768) ∧ IsCs σ' cc (rows + n) K (vaN va v rows (rows + n)) ad) := by
  have hdis := fun {c c' : Nat} => hC.dis (c := c) (c' := c')
  obtain ⟨hcc, ⟨A, h4, hAd⟩, hcol⟩ := id hC
  have hfv := fitI_at cc hfit
  have n4 : ¬ apA 4 := by unfold apA; omega
  have n5 : ¬ apA 5 := by unfold apA; omega
  have nI : ∀ c, c < cc → ∀ a, inC K ad c a → apA a := fun c hc a ha => by
    have := (hcol c hc).2.2.2.1
    unfold inC at ha
    unfold apA
    omega
  have vaN_lt : ∀ c, c < cc → ∀ k r, vaN va v rows k c r < 200 := fun c hc k r => by
    unfold vaN
    split
    · have h1 := hfv c hc
      have h2 := (hcol c hc).1.2.2.2.2.1
      omega
    · exact (hcol c hc).2.1 r
  refine eX6_append rfl (fun At hA => ?_)
  -- columns below i are done
  have loopC : ∀ (k i : Nat) (τ : ab_H) (y5 : Option ab_V), i + k = cc → fr apA σ τ → τ.2 3 = some (tbc cc (rows + n)) → (∃ lv' : Nat → Nat, IsB τ 24 lv' ∧ ∀ r, bit lv' r = (decide (rows ≤ r ∧ r < rows + n) || bit lv r)) → (∃ m' : Nat → Nat, τ.2 10 = some (ints 200 m') ∧ ∀ j, m' j < 32768) → (∀ c, c < i → IsCc τ K ad c (vaN va v rows (rows + n) c) (cbK K c (vaN va v rows (rows + n) c) (rows + n))) → (∀ c, i ≤ c → c < cc → IsCc τ K ad c (va c) (cbK K c (va c) rows)) → At 4 [some (rf 3), some (.inl n), some (rf x), some (.inl rows), some (.inl i), y5] [] τ 0 0 := by
    intro k
    induction k with
    | zero =>
      intro i τ y5 hi hf q3 qL qM hd hu
      have hi : i = cc := by omega
      subst hi
      refine hA 4 _ rfl _ _ _ _ _ ?_
      refine Exists.intro _ (And.intro (by first | assumption | exact st_s | exact st_e (by decide) (by assumption) | exact st_e (by omega) (by assumption) | exact st_e (by decide) st_s | exact st_e (by omega) st_s | exact st_e (by decide) (st_e (by decide) (by assumption)) | exact st_e (by omega) (st_e (by omega) (by assumption))) ?_)
      refine And.intro (And.intro (by first | assumption | exact b2i_R _ | exact rR (by omega) (by omega) | exact rR (by simp only [Int.toNat_natCast]; omega) (by simp only [Int.toNat_natCast]; omega)) (by first | assumption | exact b2i_R _ | exact rR (by omega) (by omega) | exact rR (by simp only [Int.toNat_natCast]; omega) (by simp only [Int.toNat_natCast]; omega))) (And.intro (fun q => ?_) (fun q => ?_))
      · refine hA 9 _ rfl _ _ _ _ _ ?_
        refine ⟨rfl, hf, q3, qL, qM, hcc, ⟨A, (hf.2 4 n4).trans h4, hAd⟩, fun c hc => ?_⟩
        obtain ⟨k1, k2, k3, k4, k5, k6⟩ := hcol c hc
        exact ⟨k1, vaN_lt c hc _, hd c hc, k4, by rw [hf.1]; exact k5, k6⟩
      · omega
    | succ k ih =>
      intro i τ y5 hi hf q3 qL qM hd hu
      obtain ⟨k1, k2, k3, k4, k5, k6⟩ := hcol i (by omega)
      have hAi := hAd i (by omega)
      have hCi := hu i (Nat.le_refl _) (by omega)
      -- the values of column i are written below r
      have loopV : ∀ (l r : Nat) (υ : ab_H), r + l = rows + n → rows ≤ r → fr apA σ υ → fr (inC K ad i) τ υ → IsCc υ K ad i (vaN va v rows r i) (cbK K i (va i) rows) → At 6 [some (rf 3), some (.inl n), some (rf x), some (.inl rows), some (.inl i), some (.inl r)] [] υ 0 0 := by
        intro l
        induction l with
        | zero =>
          intro r υ hr hr2 hf2 hg hCv
          have hr : r = rows + n := by omega
          subst hr
          have p3 : υ.2 3 = some (tbc cc (rows + n)) := (hg.2 3 (by unfold inC; omega)).trans q3
          have p4 := (hf2.2 4 n4).trans h4
          obtain ⟨m1, m2, m3⟩ := qM
          have p10 : υ.2 10 = some (ints 200 m1) := (hg.2 10 (by unfold inC; omega)).trans m2
          have hCv0 := hCv.1
          refine hA 6 _ rfl _ _ _ _ _ ?_
          refine Exists.intro _ (And.intro (by first | assumption | exact st_s | exact st_e (by decide) (by assumption) | exact st_e (by omega) (by assumption) | exact st_e (by decide) st_s | exact st_e (by omega) st_s | exact st_e (by decide) (st_e (by decide) (by assumption)) | exact st_e (by omega) (st_e (by omega) (by assumption))) ?_)
          refine And.intro (And.intro (by first | assumption | exact b2i_R _ | exact rR (by omega) (by omega) | exact rR (by simp only [Int.toNat_natCast]; omega) (by simp only [Int.toNat_natCast]; omega)) (by first | assumption | exact b2i_R _ | exact rR (by omega) (by omega) | exact rR (by simp only [Int.toNat_natCast]; omega) (by simp only [Int.toNat_natCast]; omega))) (And.intro (fun q => ?_) (fun q => ?_))
          · refine hA 8 _ rfl _ _ _ _ _ ?_
            refine Exists.intro _ (And.intro (p3) ?_)
            refine Exists.intro _ (Exists.intro _ (And.intro (p4) (And.intro (by omega) ?_)))
            simp only [Int.toNat_natCast, hAi]
            refine And.intro ⟨by omega, rR (by omega) (by omega), by decide, rR (by omega) (by omega)⟩ ?_
            refine Exists.intro _ (And.intro p3 (And.intro rfl (ab_inv_ev (c_groupsUsed p3 hn) (by decide) (Nat.le_refl _) (Nat.le_refl _) ?_)))
            refine Exists.intro _ (And.intro (p3) ?_)
            refine Exists.intro _ (And.intro (p3) ?_)
            have hcall := c_regroup hCv k1 (rows / 15) (gu (rows + n)) (rows + n) (by unfold gu; omega) (gu_le hn) hn p10 (by omega) (fun r => by have := vaN_lt i (by omega) (rows + n) r; omega) m3
            refine Exists.intro _ (And.intro hCv0 (And.intro rfl (ab_inv_of hcall (by decide) (by omega) (by omega) ?_)))
            intro r υ2 hpost
            obtain ⟨rfl, hg2, ⟨m4, m5, m6⟩, hC2⟩ := hpost
            rw [gst_cbm (fun r hr => by unfold vaN; rw [if_neg (by omega)]) (by omega) (by unfold gu; omega) (by unfold gu; omega) (by omega)] at hC2
            have hg3 : fr (fun a => inC K ad i a ∨ a = 10) τ υ2 := (hg.mono (fun a h => Or.inl h)).tr (hg2.mono (fun a h => by
              rcases h with h | h
              · exact Or.inr h
              · exact Or.inl ⟨by omega, h.2⟩))
            have hoth : ∀ c, c < cc → c ≠ i → ∀ a, inC K ad c a → ¬ (inC K ad i a ∨ a = 10) := fun c hc hne a ha h => by
              rcases h with h | h
              · exact hdis hc (by omega) hne a ha h
              · have := (hcol c hc).2.2.2.1
                unfold inC at ha
                omega
            obtain ⟨lv', l1, l2⟩ := qL
            refine ih (i + 1) υ2 _ (by omega) ((hf.tr (hg3.mono (fun a h => ?_)))) ?_ ⟨lv', l1.fr hg3 (by unfold inC; omega) (by unfold inC; omega), l2⟩ ⟨m4, m5, m6⟩ (fun c hc => ?_) (fun c hc hc2 => ?_)
            · rcases h with h | h
              · exact nI i (by omega) a h
              · exact Or.inr (Or.inl h)
            · exact (hg3.2 3 (by unfold inC; omega)).trans q3
            · by_cases e : c = i
              · subst e; exact hC2
              · exact (hd c (by omega)).fr hg3 (fun a h1 h2 => hoth c (by omega) e a ⟨h1, h2⟩)
            · exact (hu c (by omega) hc2).fr hg3 (fun a h1 h2 => hoth c hc2 (by omega) a ⟨h1, h2⟩)
          · omega
        | succ l ihl =>
          intro r υ hr hr2 hf2 hg hCv
          have p3 : υ.2 3 = some (tbc cc (rows + n)) := (hg.2 3 (by unfold inC; omega)).trans q3
          have p4 := (hf2.2 4 n4).trans h4
          have px := (hf2.2 x hxA).trans hx
          have hCv0 := hCv.1
          have hCv4 := hCv.2.2.2.2.1
          have hvi := hfv i (by omega)
          refine hA 6 _ rfl _ _ _ _ _ ?_
          refine Exists.intro _ (And.intro (by first | assumption | exact st_s | exact st_e (by decide) (by assumption) | exact st_e (by omega) (by assumption) | exact st_e (by decide) st_s | exact st_e (by omega) st_s | exact st_e (by decide) (st_e (by decide) (by assumption)) | exact st_e (by omega) (st_e (by omega) (by assumption))) ?_)
          refine And.intro (And.intro (by first | assumption | exact b2i_R _ | exact rR (by omega) (by omega) | exact rR (by simp only [Int.toNat_natCast]; omega) (by simp only [Int.toNat_natCast]; omega)) (by first | assumption | exact b2i_R _ | exact rR (by omega) (by omega) | exact rR (by simp only [Int.toNat_natCast]; omega) (by simp only [Int.toNat_natCast]; omega))) (And.intro (fun q => ?_) (fun q => ?_))
          · omega
          · refine hA 7 _ rfl _ _ _ _ _ ?_
            refine Exists.intro _ (And.intro (p3) ?_)
            refine Exists.intro _ (Exists.intro _ (And.intro (p4) (And.intro (by omega) ?_)))
            simp only [Int.toNat_natCast, hAi]
            refine Exists.intro _ (And.intro (hCv0) ?_)
            refine Exists.intro _ (Exists.intro _ (And.intro (px) (And.intro (by omega) ?_)))
            refine Exists.intro _ (Exists.intro _ (And.intro (hCv4) (And.intro (by omega) ?_)))
            have hz : ab_up (vaN va v rows r i) r (v i).toNat = vaN va v rows (r + 1) i := by
              funext s
              by_cases e : s = r
              · rw [e, ab_up_s]
                unfold vaN
                rw [if_pos (by omega)]
              · rw [ab_up_n e]
                unfold vaN
                by_cases e2 : rows ≤ s ∧ s < r
                · rw [if_pos e2, if_pos (by omega)]
                · rw [if_neg e2, if_neg (by omega)]
            have e3 := ints_up 1500 (vaN va v rows r i) r (v i).toNat
            rw [hz, show (((v i).toNat : Nat) : Int) = v i by omega] at e3
            have := ihl (r + 1) (ab_st υ (ad i + 4) (ints 1500 (vaN va v rows (r + 1) i))) (by omega) (by omega) (hf2.st (nI i (by omega) _ ⟨by omega, by omega⟩)) (hg.st ⟨by omega, by omega⟩) hCv.stV
            rw [← e3] at this
            exact this
      refine hA 4 _ rfl _ _ _ _ _ ?_
      refine Exists.intro _ (And.intro (by first | assumption | exact st_s | exact st_e (by decide) (by assumption) | exact st_e (by omega) (by assumption) | exact st_e (by decide) st_s | exact st_e (by omega) st_s | exact st_e (by decide) (st_e (by decide) (by assumption)) | exact st_e (by omega) (st_e (by omega) (by assumption))) ?_)
      refine And.intro (And.intro (by first | assumption | exact b2i_R _ | exact rR (by omega) (by omega) | exact rR (by simp only [Int.toNat_natCast]; omega) (by simp only [Int.toNat_natCast]; omega)) (by first | assumption | exact b2i_R _ | exact rR (by omega) (by omega) | exact rR (by simp only [Int.toNat_natCast]; omega) (by simp only [Int.toNat_natCast]; omega))) (And.intro (fun q => ?_) (fun q => ?_))
      · omega
      · refine hA 5 _ rfl _ _ _ _ _ ?_
        refine loopV n rows τ (by omega) (Nat.le_refl _) hf (fr_rf _ _) ?_
        have e : vaN va v rows rows i = va i := by
          funext s
          unfold vaN
          rw [if_neg (by omega)]
        rw [e]
        exact hCi
  have loopL : ∀ (l i : Nat) (τ : ab_H) (lv' : Nat → Nat), i + l = rows + n → rows ≤ i → fr (fun a => a = 3 ∨ a = 25) σ τ → τ.2 3 = some (tbc cc (rows + n)) → IsB τ 24 lv' → (∀ r, bit lv' r = (decide (rows ≤ r ∧ r < i) || bit lv r)) → At 1 [some (rf 3), some (.inl n), some (rf x), some (.inl rows), some (.inl i), none] [] τ 0 0 := by
    intro l
    induction l with
    | zero =>
      intro i τ lv' hi hi2 hf q3 qL hb
      have hi : i = rows + n := by omega
      subst hi
      refine hA 1 _ rfl _ _ _ _ _ ?_
      refine Exists.intro _ (And.intro (by first | assumption | exact st_s | exact st_e (by decide) (by assumption) | exact st_e (by omega) (by assumption) | exact st_e (by decide) st_s | exact st_e (by omega) st_s | exact st_e (by decide) (st_e (by decide) (by assumption)) | exact st_e (by omega) (st_e (by omega) (by assumption))) ?_)
      refine And.intro (And.intro (by first | assumption | exact b2i_R _ | exact rR (by omega) (by omega) | exact rR (by simp only [Int.toNat_natCast]; omega) (by simp only [Int.toNat_natCast]; omega)) (by first | assumption | exact b2i_R _ | exact rR (by omega) (by omega) | exact rR (by simp only [Int.toNat_natCast]; omega) (by simp only [Int.toNat_natCast]; omega))) (And.intro (fun q => ?_) (fun q => ?_))
      · refine hA 3 _ rfl _ _ _ _ _ ?_
        refine loopC cc 0 τ none (by omega) (hf.mono (fun a h => by unfold apA; omega)) q3 ⟨lv', qL, hb⟩ ⟨m, (hf.2 10 (by omega)).trans h10, hm⟩ (fun c hc => by omega) (fun c _ hc => ?_)
        have := (hcol c hc).2.2.2.1
        exact (hcol c hc).2.2.1.fr hf (fun a h1 h2 => by omega)
      · omega
    | succ l ih =>
      intro i τ lv' hi hi2 hf q3 qL hb
      have q5 := (hf.2 5 (by omega)).trans h5
      have qL1 := qL.1
      refine hA 1 _ rfl _ _ _ _ _ ?_
      refine Exists.intro _ (And.intro (by first | assumption | exact st_s | exact st_e (by decide) (by assumption) | exact st_e (by omega) (by assumption) | exact st_e (by decide) st_s | exact st_e (by omega) st_s | exact st_e (by decide) (st_e (by decide) (by assumption)) | exact st_e (by omega) (st_e (by omega) (by assumption))) ?_)
      refine And.intro (And.intro (by first | assumption | exact b2i_R _ | exact rR (by omega) (by omega) | exact rR (by simp only [Int.toNat_natCast]; omega) (by simp only [Int.toNat_natCast]; omega)) (by first | assumption | exact b2i_R _ | exact rR (by omega) (by omega) | exact rR (by simp only [Int.toNat_natCast]; omega) (by simp only [Int.toNat_natCast]; omega))) (And.intro (fun q => ?_) (fun q => ?_))
      · omega
      · refine hA 2 _ rfl _ _ _ _ _ ?_
        refine Exists.intro _ (And.intro (by first | assumption | exact st_s | exact st_e (by decide) (by assumption) | exact st_e (by omega) (by assumption) | exact st_e (by decide) st_s | exact st_e (by omega) st_s | exact st_e (by decide) (st_e (by decide) (by assumption)) | exact st_e (by omega) (st_e (by omega) (by assumption))) (And.intro rfl (ab_inv_ev (c_live q3 q5) (by decide) (Nat.le_refl _) (Nat.le_refl _) ?_)))
        refine Exists.intro _ (And.intro (by first | assumption | exact st_s | exact st_e (by decide) (by assumption) | exact st_e (by omega) (by assumption) | exact st_e (by decide) st_s | exact st_e (by omega) st_s | exact st_e (by decide) (st_e (by decide) (by assumption)) | exact st_e (by omega) (st_e (by omega) (by assumption))) (And.intro rfl (ab_inv_ev (c_put qL i (by omega) true) (by decide) (Nat.le_refl _) (Nat.le_refl _) ?_)))
        refine ih (i + 1) _ _ (by omega) (by omega) (hf.st (Or.inr rfl)) (st_e (by decide) q3) (qL.st (pt_lt qL.2.2 _ _)) (fun r => ?_)
        rw [pt_bit]
        by_cases e : r = i
        · rw [if_pos e, decide_eq_true (show rows ≤ r ∧ r < i + 1 by omega)]
          rfl
        · rw [if_neg e, hb r]
          congr 1
          rw [Bool.eq_iff_iff, decide_eq_true_iff, decide_eq_true_iff]
          omega
  refine hA 0 _ rfl _ _ _ _ _ ?_
  refine Exists.intro _ (And.intro (by first | assumption | exact st_s | exact st_e (by decide) (by assumption) | exact st_e (by omega) (by assumption) | exact st_e (by decide) st_s | exact st_e (by omega) st_s | exact st_e (by decide) (st_e (by decide) (by assumption)) | exact st_e (by omega) (st_e (by omega) (by assumption))) ?_)
  refine Exists.intro _ (And.intro (by first | assumption | exact st_s | exact st_e (by decide) (by assumption) | exact st_e (by omega) (by assumption) | exact st_e (by decide) st_s | exact st_e (by omega) st_s | exact st_e (by decide) (st_e (by decide) (by assumption)) | exact st_e (by omega) (st_e (by omega) (by assumption))) ?_)
  refine Exists.intro _ (And.intro (by first | assumption | exact st_s | exact st_e (by decide) (by assumption) | exact st_e (by omega) (by assumption) | exact st_e (by decide) st_s | exact st_e (by omega) st_s | exact st_e (by decide) (st_e (by decide) (by assumption)) | exact st_e (by omega) (st_e (by omega) (by assumption))) ?_)
  have := loopL n rows (ab_st σ 3 (tbc cc (rows + n))) lv (by omega) (Nat.le_refl _) (fr_st (Or.inl rfl)) st_s (hL.ne (by decide) (by decide)) (fun r => by rw [decide_eq_false (by omega)]; rfl)
  rw [show tbc cc (rows + n) = (.inl (6, [rf 4, rf 5, rf 6, rf 8, rf 9, rf 10, rf 11, .inl cc, .inl ((rows : Int) + (n : Int))]) : ab_C) from rfl] at this
  exact this
theorem cmp_id {α : Type} {p : Nat → Bool} {w : Nat → α} : ∀ n, (∀ r, r < n → p r = true) → cmp p w n = w := by
  intro n
  induction n with
  | zero => intro _; rfl
  | succ n ih =>
    intro h
    show (if p n then ab_up (cmp p w n) (cnt p n) (w n) else cmp p w n) = w
    rw [if_pos (h n (by omega)), ih (fun r hr => h r (by omega)), cnt_all n (fun r hr => h r (by omega))]
    funext j
    by_cases e : j = n
    · rw [e, ab_up_s]
    · rw [ab_up_n e]
theorem cnt_full {p : Nat → Bool} : ∀ n, cnt p n = n → ∀ r, r < n → p r = true := by
  intro n
  induction n with
  | zero => intro _ r hr; omega
  | succ n ih =>
    intro h r hr
    have h1 := cnt_le p n
    have h2 : cnt p n + (p n).toNat = n + 1 := h
    have h3 := Bool.toNat_le (p n)
    by_cases e : r = n
    · subst e
      cases hp : p r with
      | true => rfl
      | false => rw [hp] at h2; have h2 : cnt p r + 0 = r + 1 := h2; omega
    · exact ih (by omega) r (by omega)
/-- a result without the rows that go -/
def RK (lv R : Nat → Nat) (rows : Nat) : Nat → Nat := mk (fun r => decide (r < cnt (bit lv) rows) && cmp (bit lv) (bit R) rows r)
/-- where closeUp writes -/
def clA (a : Nat) : Prop := a = 3 ∨ a = 10 ∨ (13 ≤ a ∧ a ≤ 25) ∨ 320 ≤ a
set_option maxRecDepth 100000 in
set_option maxHeartbeats 1000000 in
theorem c_closeUp (h3 : σ.2 3 = some (tbc cc rows)) (hr : rows ≤ 1500) (h5 : σ.2 5 = some rsc) (hC : IsCs σ cc rows K va ad) {lv m : Nat → Nat} (hL : IsB σ 24 lv) (hLr : ∀ r, rows ≤ r → bit lv r = false) (h10 : σ.2 10 = some (ints 200 m)) (hm : ∀ j, m j < 32768) {R : Nat → Nat → Nat} (hR : ∀ i, i < 6 → IsB σ (12 + 2 * i) (R i)) (hRr : ∀ i, i < 6 → ∀ r, rows ≤ r → bit (R i) r = false) :
    ab_call 4 0 0 yX6_closeUp [rf 3] σ (fun r σ' => r = .inl (some (.inl ((rows : Int) - cnt (bit lv) rows))) ∧ fr clA σ σ' ∧ σ'.2 3 = some (tbc cc (cnt (bit lv) rows)) ∧ IsB σ' 24 (fun i => rg i (cnt (bit lv) rows)) ∧ (∃ m' : Nat → Nat, σ'.2 10 = some (ints 200 m') ∧ ∀ j, m' j < 32768) ∧ (∀ i, i < 6 → IsB σ' (12 + 2 * i) (RK lv (R i) rows)) ∧ IsCs σ' cc (cnt (bit lv) rows) K (fun c => cmp (bit lv) (va c) rows) ad) := by
  have hdis := fun {c c' : Nat} => hC.dis (c := c) (c' := c')
  obtain ⟨hcc, ⟨A, h4, hAd⟩, hcol⟩ := id hC
  have hk : cnt (bit lv) 1500 = cnt (bit lv) rows := cnt_cut 1500 hr (fun r _ => by
    by_cases e : r < rows
    · rw [decide_eq_true e, Bool.and_true]
    · rw [hLr r (by omega), decide_eq_false e]; rfl)
  have hkl := cnt_le (bit lv) rows
  generalize hkk : cnt (bit lv) rows = kept at hk hkl
  have n4 : ¬ clA 4 := by unfold clA; omega
  have n5 : ¬ clA 5 := by unfold clA; omega
  have nI : ∀ c, c < cc → ∀ a, inC K ad c a → clA a := fun c hc a ha => by
    have := (hcol c hc).2.2.2.1
    unfold inC at ha
    unfold clA
    omega
  have hL1 := hL.1
  refine eX6_closeUp rfl (fun At hA => ?_)
  have loopR : ∀ (k i : Nat) (τ : ab_H), i + k = 6 → fr clA σ τ → τ.2 3 = some (tbc cc rows) → IsB τ 24 lv → (∃ m' : Nat → Nat, τ.2 10 = some (ints 200 m') ∧ ∀ j, m' j < 32768) → (∀ j, j < i → IsB τ (12 + 2 * j) (RK lv (R j) rows)) → (∀ j, i ≤ j → j < 6 → IsB τ (12 + 2 * j) (R j)) → (∀ c, c < cc → IsCc τ K ad c (cmp (bit lv) (va c) rows) (cbK K c (cmp (bit lv) (va c) rows) kept)) → At 6 [some (rf 3), some (.inl kept), some (.inl ((rows : Int) - kept)), some (.inl (gu rows)), some (.inl i)] [] τ 0 0 := by
    intro k
    induction k with
    | zero =>
      intro i τ hi hf q3 qL qM hd hu hcs
      have q5 := (hf.2 5 n5).trans h5
      have qL1 := qL.1
      have hi : i = 6 := by omega
      subst hi
      refine hA 6 _ rfl _ _ _ _ _ ?_
      refine And.intro (And.intro (by first | assumption | exact b2i_R _ | exact rR (by omega) (by omega) | exact rR (by simp only [Int.toNat_natCast]; omega) (by simp only [Int.toNat_natCast]; omega)) (by first | assumption | exact b2i_R _ | exact rR (by omega) (by omega) | exact rR (by simp only [Int.toNat_natCast]; omega) (by simp only [Int.toNat_natCast]; omega))) (And.intro (fun q => ?_) (fun q => ?_))
      · refine hA 8 _ rfl _ _ _ _ _ ?_
        refine Exists.intro _ (And.intro (by first | assumption | exact st_s | exact st_e (by decide) (by assumption) | exact st_e (by omega) (by assumption) | exact st_e (by decide) st_s | exact st_e (by omega) st_s | exact st_e (by decide) (st_e (by decide) (by assumption)) | exact st_e (by omega) (st_e (by omega) (by assumption))) (And.intro rfl (ab_inv_ev (c_live q3 q5) (by decide) (Nat.le_refl _) (Nat.le_refl _) ?_)))
        refine Exists.intro _ (And.intro (by first | assumption | exact st_s | exact st_e (by decide) (by assumption) | exact st_e (by omega) (by assumption) | exact st_e (by decide) st_s | exact st_e (by omega) st_s | exact st_e (by decide) (st_e (by decide) (by assumption)) | exact st_e (by omega) (st_e (by omega) (by assumption))) (And.intro rfl (ab_inv_ev (c_fillTo qL kept (by omega)) (by decide) (Nat.le_refl _) (Nat.le_refl _) ?_)))
        refine Exists.intro _ (And.intro (by first | assumption | exact st_s | exact st_e (by decide) (by assumption) | exact st_e (by omega) (by assumption) | exact st_e (by decide) st_s | exact st_e (by omega) st_s | exact st_e (by decide) (st_e (by decide) (by assumption)) | exact st_e (by omega) (st_e (by omega) (by assumption))) ?_)
        have hf2 : fr clA σ (ab_st (ab_st τ (24 + 1) (bmc fun i => rg i kept)) 3 (tbc cc kept)) := (hf.st (Or.inr (Or.inr (Or.inl ⟨by omega, by omega⟩)))).st (Or.inl rfl)
        obtain ⟨m', m1, m2⟩ := qM
        refine ⟨rfl, hf2, st_s, (qL.st (fun i => rg_lt i kept)).ne (by decide) (by decide), ⟨m', st_e (by decide) (st_e (by decide) m1), m2⟩, fun j hj => ((hd j hj).ne (by omega) (by omega)).ne (by omega) (by omega), hcc, ⟨A, (hf2.2 4 n4).trans h4, hAd⟩, fun c hc => ?_⟩
        obtain ⟨k1, k2, k3, k4, k5, k6⟩ := hcol c hc
        exact ⟨k1, fun r => cmp_lt k2 rows r, ((hcs c hc).ne (by omega)).ne (by omega), k4, Nat.le_trans k5 (Nat.le_of_eq hf2.1.symm), k6⟩
      · exact absurd (show (6 : Int) ≤ 5 from q) (by decide)
    | succ k ih =>
      intro i τ hi hf q3 qL qM hd hu hcs
      have q5 := (hf.2 5 n5).trans h5
      have qL1 := qL.1
      have hRi := hu i (Nat.le_refl _) (by omega)
      have hRi1 := hRi.1
      refine hA 6 _ rfl _ _ _ _ _ ?_
      refine And.intro (And.intro (by first | assumption | exact b2i_R _ | exact rR (by omega) (by omega) | exact rR (by simp only [Int.toNat_natCast]; omega) (by simp only [Int.toNat_natCast]; omega)) (by first | assumption | exact b2i_R _ | exact rR (by omega) (by omega) | exact rR (by simp only [Int.toNat_natCast]; omega) (by simp only [Int.toNat_natCast]; omega))) (And.intro (fun q => ?_) (fun q => ?_))
      · omega
      · refine hA 7 _ rfl _ _ _ _ _ ?_
        refine Exists.intro _ (And.intro (by first | assumption | exact st_s | exact st_e (by decide) (by assumption) | exact st_e (by omega) (by assumption) | exact st_e (by decide) st_s | exact st_e (by omega) st_s | exact st_e (by decide) (st_e (by decide) (by assumption)) | exact st_e (by omega) (st_e (by omega) (by assumption))) ?_)
        refine Exists.intro _ (Exists.intro _ (And.intro (by first | assumption | exact st_s | exact st_e (by decide) (by assumption) | exact st_e (by omega) (by assumption) | exact st_e (by decide) st_s | exact st_e (by omega) st_s | exact st_e (by decide) (st_e (by decide) (by assumption)) | exact st_e (by omega) (st_e (by omega) (by assumption))) (And.intro (by first | omega | (simp only [Int.toNat_natCast]; omega)) ?_)))
        refine Exists.intro _ (And.intro (by first | assumption | exact st_s | exact st_e (by decide) (by assumption) | exact st_e (by omega) (by assumption) | exact st_e (by decide) st_s | exact st_e (by omega) st_s | exact st_e (by decide) (st_e (by decide) (by assumption)) | exact st_e (by omega) (st_e (by omega) (by assumption))) (And.intro rfl (ab_inv_ev (c_live q3 q5) (by decide) (Nat.le_refl _) (Nat.le_refl _) ?_)))
        refine Exists.intro _ (And.intro (by first | assumption | exact st_s | exact st_e (by decide) (by assumption) | exact st_e (by omega) (by assumption) | exact st_e (by decide) st_s | exact st_e (by omega) st_s | exact st_e (by decide) (st_e (by decide) (by assumption)) | exact st_e (by omega) (st_e (by omega) (by assumption))) ?_)
        refine Exists.intro _ (And.intro (by first | assumption | exact st_s | exact st_e (by decide) (by assumption) | exact st_e (by omega) (by assumption) | exact st_e (by decide) st_s | exact st_e (by omega) st_s | exact st_e (by decide) (st_e (by decide) (by assumption)) | exact st_e (by omega) (st_e (by omega) (by assumption))) (And.intro rfl (ab_inv_ev (c_bmKeep hRi qL (by omega) rows hr) (by decide) (Nat.le_refl _) (Nat.le_refl _) ?_)))
        have e : mk (fun r => if r < rows then decide (r < cnt (bit lv) rows) && cmp (bit lv) (bit (R i)) rows r else bit (R i) r) = RK lv (R i) rows := mk_ext (fun r => by
          by_cases h : r < rows
          · rw [if_pos h]
          · rw [if_neg h, hRr i (by omega) r (by omega), decide_eq_false (by omega)]
            rfl)
        rw [e]
        obtain ⟨m', m1, m2⟩ := qM
        refine ih (i + 1) _ (by omega) (hf.st (by unfold clA; omega)) (st_e (by omega) q3) (qL.ne (by omega) (by omega)) ⟨m', st_e (by omega) m1, m2⟩ (fun j hj => ?_) (fun j hj hj2 => (hu j (by omega) hj2).ne (by omega) (by omega)) (fun c hc => (hcs c hc).ne (by have := (hcol c hc).2.2.2.1; omega))
        by_cases e2 : j = i
        · subst e2
          exact hRi.st (fun g => mk_lt _ g)
        · exact (hd j (by omega)).ne (by omega) (by omega)
  have loopC : ∀ (k i : Nat) (τ : ab_H), i + k = cc → fr (fun a => a = 10 ∨ 320 ≤ a) σ τ → (∃ m' : Nat → Nat, τ.2 10 = some (ints 200 m') ∧ ∀ j, m' j < 32768) → (∀ c, c < i → IsCc τ K ad c (cmp (bit lv) (va c) rows) (cbK K c (cmp (bit lv) (va c) rows) kept)) → (∀ c, i ≤ c → c < cc → IsCc τ K ad c (va c) (cbK K c (va c) rows)) → At 3 [some (rf 3), some (.inl kept), some (.inl ((rows : Int) - kept)), some (.inl (gu rows)), some (.inl i)] [] τ 0 0 := by
    intro k
    induction k with
    | zero =>
      intro i τ hi hf qM hd hu
      have hi : i = cc := by omega
      subst hi
      have q3 := (hf.2 3 (by omega)).trans h3
      refine hA 3 _ rfl _ _ _ _ _ ?_
      refine Exists.intro _ (And.intro (by first | assumption | exact st_s | exact st_e (by decide) (by assumption) | exact st_e (by omega) (by assumption) | exact st_e (by decide) st_s | exact st_e (by omega) st_s | exact st_e (by decide) (st_e (by decide) (by assumption)) | exact st_e (by omega) (st_e (by omega) (by assumption))) ?_)
      refine And.intro (And.intro (by first | assumption | exact b2i_R _ | exact rR (by omega) (by omega) | exact rR (by simp only [Int.toNat_natCast]; omega) (by simp only [Int.toNat_natCast]; omega)) (by first | assumption | exact b2i_R _ | exact rR (by omega) (by omega) | exact rR (by simp only [Int.toNat_natCast]; omega) (by simp only [Int.toNat_natCast]; omega))) (And.intro (fun q => ?_) (fun q => ?_))
      · refine hA 5 _ rfl _ _ _ _ _ ?_
        exact loopR 6 0 τ (by omega) (hf.mono (fun a h => by unfold clA; omega)) q3 (hL.fr hf (by omega) (by omega)) qM (fun j hj => by omega) (fun j _ hj => (hR j hj).fr hf (by omega) (by omega)) hd
      · omega
    | succ k ih =>
      intro i τ hi hf qM hd hu
      obtain ⟨k1, k2, k3, k4, k5, k6⟩ := hcol i (by omega)
      have hAi := hAd i (by omega)
      have hCi := hu i (Nat.le_refl _) (by omega)
      have hCi0 := hCi.1
      have q3 := (hf.2 3 (by omega)).trans h3
      have q4 := (hf.2 4 (by omega)).trans h4
      have q5 := (hf.2 5 (by omega)).trans h5
      have qL := hL.fr hf (by omega) (by omega)
      obtain ⟨m1, m2, m3⟩ := qM
      refine hA 3 _ rfl _ _ _ _ _ ?_
      refine Exists.intro _ (And.intro (by first | assumption | exact st_s | exact st_e (by decide) (by assumption) | exact st_e (by omega) (by assumption) | exact st_e (by decide) st_s | exact st_e (by omega) st_s | exact st_e (by decide) (st_e (by decide) (by assumption)) | exact st_e (by omega) (st_e (by omega) (by assumption))) ?_)
      refine And.intro (And.intro (by first | assumption | exact b2i_R _ | exact rR (by omega) (by omega) | exact rR (by simp only [Int.toNat_natCast]; omega) (by simp only [Int.toNat_natCast]; omega)) (by first | assumption | exact b2i_R _ | exact rR (by omega) (by omega) | exact rR (by simp only [Int.toNat_natCast]; omega) (by simp only [Int.toNat_natCast]; omega))) (And.intro (fun q => ?_) (fun q => ?_))
      · omega
      · refine hA 4 _ rfl _ _ _ _ _ ?_
        refine Exists.intro _ (And.intro (q3) ?_)
        refine Exists.intro _ (Exists.intro _ (And.intro (q4) (And.intro (by omega) ?_)))
        simp only [Int.toNat_natCast, hAi]
        refine Exists.intro _ (And.intro q3 (And.intro rfl (ab_inv_ev (c_live q3 q5) (by decide) (Nat.le_refl _) (Nat.le_refl _) ?_)))
        refine Exists.intro _ (And.intro (q3) ?_)
        refine Exists.intro _ (And.intro hCi0 (And.intro rfl (ab_inv_ev (c_colKeep hCi qL (by omega) rows hr) (by decide) (Nat.le_refl _) (Nat.le_refl _) ?_)))
        have p3 : (ab_st τ (ad i + 4) (ints 1500 (cmp (bit lv) (va i) rows))).2 3 = some (tbc cc rows) := st_e (by omega) q3
        have p4 : (ab_st τ (ad i + 4) (ints 1500 (cmp (bit lv) (va i) rows))).2 4 = _ := st_e (by omega) q4
        have p10 : (ab_st τ (ad i + 4) (ints 1500 (cmp (bit lv) (va i) rows))).2 10 = _ := st_e (by omega) m2
        have pC : IsCc (ab_st τ (ad i + 4) (ints 1500 (cmp (bit lv) (va i) rows))) K ad i (cmp (bit lv) (va i) rows) (cbK K i (va i) rows) := hCi.stV
        refine Exists.intro _ (And.intro (p3) ?_)
        refine Exists.intro _ (Exists.intro _ (And.intro (p4) (And.intro (by omega) ?_)))
        simp only [Int.toNat_natCast, hAi]
        refine Exists.intro _ (And.intro (p3) ?_)
        refine Exists.intro _ (And.intro pC.1 (And.intro rfl (ab_inv_of (c_regroup pC k1 0 (gu rows) kept (Nat.zero_le _) (gu_le hr) (by omega) p10 (by omega) (fun r => by have := cmp_lt (p := bit lv) k2 rows r; omega) m3) (by decide) (by omega) (by omega) ?_)))
        intro r υ hpost
        obtain ⟨rfl, hg2, ⟨m4, m5, m6⟩, hC2⟩ := hpost
        rw [gst_cbm (fun r hr => by omega) (by omega) (by unfold gu; omega) (by unfold gu; omega) (by omega)] at hC2
        have hg3 : fr (fun a => inC K ad i a ∨ a = 10) τ υ := (fr_st (Or.inl ⟨by omega, by omega⟩)).tr (hg2.mono (fun a h => by
          rcases h with h | h
          · exact Or.inr h
          · exact Or.inl ⟨by omega, h.2⟩))
        have hoth : ∀ c, c < cc → c ≠ i → ∀ a, inC K ad c a → ¬ (inC K ad i a ∨ a = 10) := fun c hc hne a ha h => by
          rcases h with h | h
          · exact hdis hc (by omega) hne a ha h
          · have := (hcol c hc).2.2.2.1
            unfold inC at ha
            omega
        refine ih (i + 1) υ (by omega) (hf.tr (hg3.mono (fun a h => ?_))) ⟨m4, m5, m6⟩ (fun c hc => ?_) (fun c hc hc2 => (hu c (by omega) hc2).fr hg3 (fun a h1 h2 => hoth c hc2 (by omega) a ⟨h1, h2⟩))
        · rcases h with h | h
          · exact Or.inr (by unfold inC at h; omega)
          · exact Or.inl h
        · by_cases e : c = i
          · subst e; exact hC2
          · exact (hd c (by omega)).fr hg3 (fun a h1 h2 => hoth c (by omega) e a ⟨h1, h2⟩)
  refine hA 0 _ rfl _ _ _ _ _ ?_
  refine Exists.intro _ (And.intro (by first | assumption | exact st_s | exact st_e (by decide) (by assumption) | exact st_e (by omega) (by assumption) | exact st_e (by decide) st_s | exact st_e (by omega) st_s | exact st_e (by decide) (st_e (by decide) (by assumption)) | exact st_e (by omega) (st_e (by omega) (by assumption))) (And.intro rfl (ab_inv_ev (c_live h3 h5) (by decide) (Nat.le_refl _) (Nat.le_refl _) ?_)))
  refine Exists.intro _ (And.intro hL1 (And.intro rfl (ab_inv_ev (c_count hL) (by decide) (Nat.le_refl _) (Nat.le_refl _) ?_)))
  rw [hk]
  refine Exists.intro _ (And.intro (h3) ?_)
  refine And.intro (rR (by omega) (by omega)) (And.intro (fun q => ?_) (fun q => ?_))
  · refine hA 2 _ rfl _ _ _ _ _ ?_
    refine Exists.intro _ (And.intro (by first | assumption | exact st_s | exact st_e (by decide) (by assumption) | exact st_e (by omega) (by assumption) | exact st_e (by decide) st_s | exact st_e (by omega) st_s | exact st_e (by decide) (st_e (by decide) (by assumption)) | exact st_e (by omega) (st_e (by omega) (by assumption))) (And.intro rfl (ab_inv_ev (c_groupsUsed h3 hr) (by decide) (Nat.le_refl _) (Nat.le_refl _) ?_)))
    exact loopC cc 0 σ (by omega) (fr_rf _ _) ⟨m, h10, hm⟩ (fun c hc => by omega) (fun c _ hc => (hcol c hc).2.2.1)
  · have e : kept = rows := by omega
    subst e
    have hall := cnt_full kept hkk
    refine hA 1 _ rfl _ _ _ _ _ ?_
    refine ⟨?_, fr_rf _ _, h3, ?_, ⟨m, h10, hm⟩, fun i hi => ?_, ?_⟩
    · show (Sum.inl (some (Sum.inl 0)) : ab_O) = _
      rw [Int.sub_self]
    · have : lv = fun i => rg i kept := bm_ext hL.2.2 (fun i => rg_lt i kept) (fun r => by
        rw [bit_rg]
        by_cases h : r < kept
        · rw [hall r h, decide_eq_true h]
        · rw [hLr r (by omega), decide_eq_false h])
      rw [← this]
      exact hL
    · have : R i = RK lv (R i) kept := mk_of (hR i hi).2.2 (fun r => by
        rw [cmp_id kept hall, hkk]
        by_cases h : r < kept
        · rw [decide_eq_true h]; rfl
        · rw [hRr i hi r (by omega), decide_eq_false h]; rfl)
      rw [← this]
      exact hR i hi
    · have : (fun c => cmp (bit lv) (va c) kept) = va := funext (fun c => cmp_id kept hall)
      rw [this]
      exact hC
end Table3
