-- ===== leaves: what they lay =====
def lfA (h : Nat) (a : Nat) : Prop := a = 37 ∨ a = h + 1
/-- a bitmap at h and what it cost so far, nothing else changed -/
def lzS (σ τ : ab_H) (h : Nat) (z : Z4) : Prop := fr (lfA h) σ τ ∧ IsB τ h z.1 ∧ τ.2 37 = some (spc z.2)
/-- addresses of bitmaps that answers are laid in -/
def okh (h : Nat) : Prop := 35 ≤ h ∧ h ≤ 48 ∧ h ≠ 37 ∧ h ≠ 36
/-- what a leaf finds -/
def lzX (σ : ab_H) (cc rows : Nat) (x : Nat) (ρ : Bool) (card parts : Nat) (b w : Nat → Nat) (G : Nat → V1) : Prop := σ.2 33 = some anc ∧ σ.2 3 = some (tbc cc rows) ∧ rows ≤ 1500 ∧ 320 ≤ x ∧ okb card parts b ∧ IsC σ x ρ card parts b w G
theorem lzX.fr {σ τ : ab_H} {cc rows x : Nat} {ρ : Bool} {card parts : Nat} {b w : Nat → Nat} {G : Nat → V1} (h : lzX σ cc rows x ρ card parts b w G) {A : Nat → Prop} (hf : fr A σ τ) (hA : ∀ a, A a → 34 ≤ a ∧ a < 320) : lzX τ cc rows x ρ card parts b w G := by
  obtain ⟨h1, h2, h3, h4, h5, h6⟩ := h
  have n : ∀ a, a < 34 ∨ 320 ≤ a → ¬ A a := fun a ha hq => by have := hA a hq; omega
  exact ⟨(hf.2 _ (n _ (by omega))).trans h1, (hf.2 _ (n _ (by omega))).trans h2, h3, h4, h5, h6.fr hf (fun a h1 h2 => n a (by omega))⟩
theorem lfA_r {h : Nat} (hh : okh h) : ∀ a, lfA h a → 34 ≤ a ∧ a < 320 := fun a ha => by
  unfold okh at hh
  unfold lfA at ha
  omega
section Leaf2
variable {σ : ab_H} {cc rows : Nat} {x : Nat} {ρ : Bool} {card parts : Nat} {b w : Nat → Nat} {G : Nat → V1} {c : C3}
abbrev BB (ρ : Bool) (b : Nat → Nat) (G : Nat → V1) (p j : Nat) : V1 := G (fsp ρ b p + j)
theorem lzS.rc {τ : ab_H} {h : Nat} {z : Z4} (hh : okh h) (hL : fr (lfA h) σ τ) (hB : IsB τ h z.1) {m : V1} (hm : ∀ i, m i < 32768) : lzS σ (ab_st (ab_st τ 37 (spc (z.2.1 + 1, z.2.2.1, z.2.2.2))) (h + 1) (bmc m)) h (zbm m z.2) := by
  unfold okh at hh
  exact ⟨(hL.st (Or.inl rfl)).st (Or.inr rfl), (hB.ne (by omega) (by omega)).st hm, st_e (by omega) st_s⟩
theorem lzS.rj {τ : ab_H} {h : Nat} {z : Z4} (hh : okh h) (hL : lzS σ τ h z) (u k : Nat) {m : V1} (hm : ∀ i, m i < 32768) : lzS σ (ab_st (ab_st (ab_st τ 37 (spc (z.2.1 + 1, z.2.2.1, z.2.2.2))) 37 (spc (z.2.1 + 1, z.2.2.1 + 1, z.2.2.2 + stp u z.1 m))) (h + 1) (bmc (jn k z.1 m))) h (zjn u k m z) := by
  unfold okh at hh
  obtain ⟨h1, h2, h3⟩ := hL
  exact ⟨((h1.st (Or.inl rfl)).st (Or.inl rfl)).st (Or.inr rfl), ((h2.ne (by omega) (by omega)).ne (by omega) (by omega)).st (fun i => jo_lt (h2.2.2 i) (hm i)), st_e (by omega) st_s⟩
theorem tn_lt (rows : Nat) (v : V1) (i : Nat) : tn rows v i < 32768 := Nat.lt_of_le_of_lt (wo_le _ _) (rg_lt i rows)
theorem lzS.rt {τ : ab_H} {h : Nat} {z : Z4} (hh : okh h) (hL : lzS σ τ h z) (rows : Nat) : lzS σ (ab_st (ab_st τ 37 (spc (z.2.1, z.2.2.1 + 1, z.2.2.2 + cnt (sw z.1) (gu rows)))) (h + 1) (bmc (tn rows z.1))) h (ztn rows z) := by
  unfold okh at hh
  obtain ⟨h1, h2, h3⟩ := hL
  exact ⟨(h1.st (Or.inl rfl)).st (Or.inr rfl), (h2.ne (by omega) (by omega)).st (tn_lt _ _), st_e (by omega) st_s⟩
theorem lzS.fill {τ : ab_H} {h : Nat} {v : V1} (hh : okh h) (hL : fr (lfA h) σ τ) (hB : IsB τ h v) (h37 : τ.2 37 = some (spc c)) (rows : Nat) : lzS σ (ab_st τ (h + 1) (bmc (fun i => rg i rows))) h (all1 rows, c) := by
  unfold okh at hh
  exact ⟨hL.st (Or.inr rfl), hB.st (fun i => rg_lt i rows), st_e (by omega) h37⟩
set_option maxRecDepth 100000 in
set_option maxHeartbeats 1000000 in
theorem c_makeUpToByRange (hX : lzX σ cc rows x true card parts b w G) (h37 : σ.2 37 = some (spc c)) {h : Nat} (hh : okh h) {v0 : V1} (hB : IsB σ h v0) (n : Nat) (hn : n < 1000) : ab_call 4 0 0 yX0_makeUpToByRange [rf 33, rf x, .inl n, rf h] σ (fun r σ' => r = .inl none ∧ lzS σ σ' h (leR rows b (BB true b G) parts n c)) := by
  have hh2 := hh
  unfold okh at hh2
  obtain ⟨x33, x3, xr, x320, xo, xC⟩ := id hX
  obtain ⟨o1, o2, o3, o4, o5, o6⟩ := id xo
  have xC0 := xC.1
  have hB1 := hB.1
  refine eX0_makeUpToByRange rfl (fun At hA => ?_)
  have loop : ∀ (m p : Nat) (τ : ab_H) (y4 : Option ab_V), p + 1 + m = parts → lzS σ τ h (zf (leRs rows b (BB true b G) n) (leR0 rows b (BB true b G) n c) p) → At 4 [some (rf 33), some (rf x), some (.inl n), some (rf h), y4, some (.inl ((p + 1 : Nat) : Int))] [] τ 0 0 := by
    intro m
    induction m with
    | zero =>
      intro p τ y4 hp hL
      have hX1 := hX.fr hL.1 (lfA_r hh)
      have q0 := hX1.2.2.2.2.2.1
      refine hA 4 _ rfl _ _ _ _ _ ?_
      refine Exists.intro _ (And.intro (by first | assumption | exact st_s | exact st_e (by decide) (by assumption) | exact st_e (by omega) (by assumption) | exact st_e (by decide) st_s | exact st_e (by omega) st_s | exact st_e (by decide) (st_e (by decide) (by assumption)) | exact st_e (by omega) (st_e (by omega) (by assumption))) ?_)
      refine And.intro (And.intro (by first | assumption | exact b2i_R _ | exact rR (by omega) (by omega) | exact rR (by simp only [Int.toNat_natCast]; omega) (by simp only [Int.toNat_natCast]; omega)) (by first | assumption | exact b2i_R _ | exact rR (by omega) (by omega) | exact rR (by simp only [Int.toNat_natCast]; omega) (by simp only [Int.toNat_natCast]; omega))) (And.intro (fun q => ?_) (fun q => ?_))
      · refine hA 10 _ rfl _ _ _ _ _ ?_
        refine ⟨rfl, ?_⟩
        unfold leR
        rw [show parts - 1 = p by omega]
        exact hL
      · omega
    | succ m ih =>
      intro p τ y4 hp hL
      have hX1 := hX.fr hL.1 (lfA_r hh)
      obtain ⟨q33, q3, -, -, -, qC⟩ := id hX1
      have q0 := qC.1
      have hd := dig_lt o3 (p + 1) n
      have hb := o3 (p + 1)
      have hnb : nbm true b (p + 1) = b (p + 1) - 1 := rfl
      -- the part's second step
      have k7 : ∀ (υ : ab_H) (z : Z4), lzS σ υ h z → (if dig b (p + 1) n = 0 then z else zjn (gu rows) 1 (BB true b G (p + 1) (dig b (p + 1) n - 1)) z) = leRs rows b (BB true b G) n (p + 1) (zf (leRs rows b (BB true b G) n) (leR0 rows b (BB true b G) n c) p) → At 7 [some (rf 33), some (rf x), some (.inl n), some (rf h), some (.inl (dig b (p + 1) n)), some (.inl ((p + 1 : Nat) : Int))] [] υ 0 0 := by
        intro υ z hLz hz
        have hX2 := hX.fr hLz.1 (lfA_r hh)
        obtain ⟨r33, r3, -, -, -, rC⟩ := id hX2
        have r0 := rC.1
        have k9 : ∀ υ2 : ab_H, lzS σ υ2 h (leRs rows b (BB true b G) n (p + 1) (zf (leRs rows b (BB true b G) n) (leR0 rows b (BB true b G) n c) p)) → At 9 [some (rf 33), some (rf x), some (.inl n), some (rf h), some (.inl (dig b (p + 1) n)), some (.inl ((p + 1 : Nat) : Int))] [] υ2 0 0 := fun υ2 hL2 => by
          refine hA 9 _ rfl _ _ _ _ _ ?_
          exact ih (p + 1) υ2 _ (by omega) hL2
        refine hA 7 _ rfl _ _ _ _ _ ?_
        refine And.intro (by first | assumption | exact b2i_R _ | exact rR (by omega) (by omega) | exact rR (by simp only [Int.toNat_natCast]; omega) (by simp only [Int.toNat_natCast]; omega)) (And.intro (fun q => ?_) (fun q => ?_))
        · rw [if_pos (by omega)] at hz
          rw [← hz] at k9
          exact k9 υ hLz
        · rw [if_neg (by omega)] at hz
          rw [← hz] at k9
          have e9 : ((dig b (p + 1) n : Nat) : Int) - 1 = ((dig b (p + 1) n - 1 : Nat) : Int) := by omega
          have hO := rC.2.2.2.2.2.2 (fsp true b (p + 1) + (dig b (p + 1) n - 1)) (fsp_lt (by omega) (by omega))
          have hcall := c_bitmapAt rC xo (p + 1) (dig b (p + 1) n - 1) (by omega) (by omega)
          rw [← e9] at hcall
          refine hA 8 _ rfl _ _ _ _ _ ?_
          refine Exists.intro _ (And.intro (by first | assumption | exact st_s | exact st_e (by decide) (by assumption) | exact st_e (by omega) (by assumption) | exact st_e (by decide) st_s | exact st_e (by omega) st_s | exact st_e (by decide) (st_e (by decide) (by assumption)) | exact st_e (by omega) (st_e (by omega) (by assumption))) (And.intro rfl (ab_inv_ev hcall (by first | decide | omega) (Nat.le_refl _) (Nat.le_refl _) ?_)))
          refine Exists.intro _ (And.intro (by first | assumption | exact st_s | exact st_e (by decide) (by assumption) | exact st_e (by omega) (by assumption) | exact st_e (by decide) st_s | exact st_e (by omega) st_s | exact st_e (by decide) (st_e (by decide) (by assumption)) | exact st_e (by omega) (st_e (by omega) (by assumption))) (And.intro rfl (ab_inv_ev (c_read r33 hLz.2.2 _) (by first | decide | omega) (Nat.le_refl _) (Nat.le_refl _) ?_)))
          refine Exists.intro _ (And.intro (by first | assumption | exact st_s | exact st_e (by decide) (by assumption) | exact st_e (by omega) (by assumption) | exact st_e (by decide) st_s | exact st_e (by omega) st_s | exact st_e (by decide) (st_e (by decide) (by assumption)) | exact st_e (by omega) (st_e (by omega) (by assumption))) (And.intro rfl (ab_inv_ev (c_join (k := 1) (st_e (by decide) r33) (st_e (by decide) r3) xr st_s (by omega) (hLz.2.1.ne (by omega) (by omega)) (hO.ne (by omega) (by omega)) (by omega)) (by first | decide | omega) (Nat.le_refl _) (Nat.le_refl _) ?_)))
          exact k9 _ (hLz.rj hh (gu rows) 1 hO.2.2)
      refine hA 4 _ rfl _ _ _ _ _ ?_
      refine Exists.intro _ (And.intro (by first | assumption | exact st_s | exact st_e (by decide) (by assumption) | exact st_e (by omega) (by assumption) | exact st_e (by decide) st_s | exact st_e (by omega) st_s | exact st_e (by decide) (st_e (by decide) (by assumption)) | exact st_e (by omega) (st_e (by omega) (by assumption))) ?_)
      refine And.intro (And.intro (by first | assumption | exact b2i_R _ | exact rR (by omega) (by omega) | exact rR (by simp only [Int.toNat_natCast]; omega) (by simp only [Int.toNat_natCast]; omega)) (by first | assumption | exact b2i_R _ | exact rR (by omega) (by omega) | exact rR (by simp only [Int.toNat_natCast]; omega) (by simp only [Int.toNat_natCast]; omega))) (And.intro (fun q => ?_) (fun q => ?_))
      · omega
      · refine hA 5 _ rfl _ _ _ _ _ ?_
        refine Exists.intro _ (And.intro (by first | assumption | exact st_s | exact st_e (by decide) (by assumption) | exact st_e (by omega) (by assumption) | exact st_e (by decide) st_s | exact st_e (by omega) st_s | exact st_e (by decide) (st_e (by decide) (by assumption)) | exact st_e (by omega) (st_e (by omega) (by assumption))) (And.intro rfl (ab_inv_ev (c_digitOf qC xo (p + 1) n (by omega) (by omega)) (by first | decide | omega) (Nat.le_refl _) (Nat.le_refl _) ?_)))
        refine Exists.intro _ (And.intro (by first | assumption | exact st_s | exact st_e (by decide) (by assumption) | exact st_e (by omega) (by assumption) | exact st_e (by decide) st_s | exact st_e (by omega) st_s | exact st_e (by decide) (st_e (by decide) (by assumption)) | exact st_e (by omega) (st_e (by omega) (by assumption))) (And.intro rfl (ab_inv_ev (c_isTop qC xo (p + 1) (dig b (p + 1) n) (by omega) (by omega)) (by first | decide | omega) (Nat.le_refl _) (Nat.le_refl _) ?_)))
        refine And.intro (by first | assumption | exact b2i_R _ | exact rR (by omega) (by omega) | exact rR (by simp only [Int.toNat_natCast]; omega) (by simp only [Int.toNat_natCast]; omega)) (And.intro (fun q => ?_) (fun q => ?_))
        · have hq := b2i_1 q
          refine k7 τ _ hL ?_
          unfold leRs
          rw [hq]
          rfl
        · have hq := b2i_0 q
          have hlt : dig b (p + 1) n < nbm true b (p + 1) := by
            have := beq_eq_false_iff_ne.mp hq
            omega
          have hO := qC.2.2.2.2.2.2 (fsp true b (p + 1) + dig b (p + 1) n) (fsp_lt (by omega) hlt)
          refine hA 6 _ rfl _ _ _ _ _ ?_
          refine Exists.intro _ (And.intro (by first | assumption | exact st_s | exact st_e (by decide) (by assumption) | exact st_e (by omega) (by assumption) | exact st_e (by decide) st_s | exact st_e (by omega) st_s | exact st_e (by decide) (st_e (by decide) (by assumption)) | exact st_e (by omega) (st_e (by omega) (by assumption))) (And.intro rfl (ab_inv_ev (c_bitmapAt qC xo (p + 1) (dig b (p + 1) n) (by omega) hlt) (by first | decide | omega) (Nat.le_refl _) (Nat.le_refl _) ?_)))
          refine Exists.intro _ (And.intro (by first | assumption | exact st_s | exact st_e (by decide) (by assumption) | exact st_e (by omega) (by assumption) | exact st_e (by decide) st_s | exact st_e (by omega) st_s | exact st_e (by decide) (st_e (by decide) (by assumption)) | exact st_e (by omega) (st_e (by omega) (by assumption))) (And.intro rfl (ab_inv_ev (c_read q33 hL.2.2 _) (by first | decide | omega) (Nat.le_refl _) (Nat.le_refl _) ?_)))
          refine Exists.intro _ (And.intro (by first | assumption | exact st_s | exact st_e (by decide) (by assumption) | exact st_e (by omega) (by assumption) | exact st_e (by decide) st_s | exact st_e (by omega) st_s | exact st_e (by decide) (st_e (by decide) (by assumption)) | exact st_e (by omega) (st_e (by omega) (by assumption))) (And.intro rfl (ab_inv_ev (c_join (k := 0) (st_e (by decide) q33) (st_e (by decide) q3) xr st_s (by omega) (hL.2.1.ne (by omega) (by omega)) (hO.ne (by omega) (by omega)) (by omega)) (by first | decide | omega) (Nat.le_refl _) (Nat.le_refl _) ?_)))
          refine k7 _ _ (hL.rj hh (gu rows) 0 hO.2.2) ?_
          unfold leRs
          rw [hq]
          rfl
  have k3 : ∀ τ : ab_H, lzS σ τ h (leR0 rows b (BB true b G) n c) → At 3 [some (rf 33), some (rf x), some (.inl n), some (rf h), some (.inl (dig b 0 n)), none] [] τ 0 0 := fun τ hL => by
    refine hA 3 _ rfl _ _ _ _ _ ?_
    exact loop (parts - 1) 0 τ _ (by omega) hL
  have hd := dig_lt o3 0 n
  have hb := o3 0
  have hnb : nbm true b 0 = b 0 - 1 := rfl
  refine hA 0 _ rfl _ _ _ _ _ ?_
  refine Exists.intro _ (And.intro (by first | assumption | exact st_s | exact st_e (by decide) (by assumption) | exact st_e (by omega) (by assumption) | exact st_e (by decide) st_s | exact st_e (by omega) st_s | exact st_e (by decide) (st_e (by decide) (by assumption)) | exact st_e (by omega) (st_e (by omega) (by assumption))) (And.intro rfl (ab_inv_ev (c_digitOf xC xo 0 n (by omega) (by omega)) (by first | decide | omega) (Nat.le_refl _) (Nat.le_refl _) ?_)))
  refine Exists.intro _ (And.intro (by first | assumption | exact st_s | exact st_e (by decide) (by assumption) | exact st_e (by omega) (by assumption) | exact st_e (by decide) st_s | exact st_e (by omega) st_s | exact st_e (by decide) (st_e (by decide) (by assumption)) | exact st_e (by omega) (st_e (by omega) (by assumption))) (And.intro rfl (ab_inv_ev (c_isTop xC xo 0 (dig b 0 n) (by omega) (by omega)) (by first | decide | omega) (Nat.le_refl _) (Nat.le_refl _) ?_)))
  refine And.intro (by first | assumption | exact b2i_R _ | exact rR (by omega) (by omega) | exact rR (by simp only [Int.toNat_natCast]; omega) (by simp only [Int.toNat_natCast]; omega)) (And.intro (fun q => ?_) (fun q => ?_))
  · have hq := b2i_0 q
    have hlt : dig b 0 n < nbm true b 0 := by
      have := beq_eq_false_iff_ne.mp hq
      omega
    have hO := xC.2.2.2.2.2.2 (fsp true b 0 + dig b 0 n) (fsp_lt (by omega) hlt)
    refine hA 2 _ rfl _ _ _ _ _ ?_
    refine Exists.intro _ (And.intro (by first | assumption | exact st_s | exact st_e (by decide) (by assumption) | exact st_e (by omega) (by assumption) | exact st_e (by decide) st_s | exact st_e (by omega) st_s | exact st_e (by decide) (st_e (by decide) (by assumption)) | exact st_e (by omega) (st_e (by omega) (by assumption))) (And.intro rfl (ab_inv_ev (c_bitmapAt xC xo 0 (dig b 0 n) (by omega) hlt) (by first | decide | omega) (Nat.le_refl _) (Nat.le_refl _) ?_)))
    refine Exists.intro _ (And.intro (by first | assumption | exact st_s | exact st_e (by decide) (by assumption) | exact st_e (by omega) (by assumption) | exact st_e (by decide) st_s | exact st_e (by omega) st_s | exact st_e (by decide) (st_e (by decide) (by assumption)) | exact st_e (by omega) (st_e (by omega) (by assumption))) (And.intro rfl (ab_inv_ev (c_read x33 h37 _) (by first | decide | omega) (Nat.le_refl _) (Nat.le_refl _) ?_)))
    refine Exists.intro _ (And.intro (by first | assumption | exact st_s | exact st_e (by decide) (by assumption) | exact st_e (by omega) (by assumption) | exact st_e (by decide) st_s | exact st_e (by omega) st_s | exact st_e (by decide) (st_e (by decide) (by assumption)) | exact st_e (by omega) (st_e (by omega) (by assumption))) (And.intro rfl (ab_inv_ev (c_copyFrom (hB.ne (by omega) (by omega)) (hO.ne (by omega) (by omega))) (by first | decide | omega) (Nat.le_refl _) (Nat.le_refl _) ?_)))
    refine k3 _ ?_
    unfold leR0
    rw [hq]
    exact lzS.rc (z := (v0, c)) hh (fr_rf _ _) hB hO.2.2
  · have hq := b2i_1 q
    refine hA 1 _ rfl _ _ _ _ _ ?_
    refine Exists.intro _ (And.intro (by first | assumption | exact st_s | exact st_e (by decide) (by assumption) | exact st_e (by omega) (by assumption) | exact st_e (by decide) st_s | exact st_e (by omega) st_s | exact st_e (by decide) (st_e (by decide) (by assumption)) | exact st_e (by omega) (st_e (by omega) (by assumption))) ?_)
    refine Exists.intro _ (And.intro (by first | assumption | exact st_s | exact st_e (by decide) (by assumption) | exact st_e (by omega) (by assumption) | exact st_e (by decide) st_s | exact st_e (by omega) st_s | exact st_e (by decide) (st_e (by decide) (by assumption)) | exact st_e (by omega) (st_e (by omega) (by assumption))) ?_)
    refine Exists.intro _ (And.intro (by first | assumption | exact st_s | exact st_e (by decide) (by assumption) | exact st_e (by omega) (by assumption) | exact st_e (by decide) st_s | exact st_e (by omega) st_s | exact st_e (by decide) (st_e (by decide) (by assumption)) | exact st_e (by omega) (st_e (by omega) (by assumption))) (And.intro rfl (ab_inv_ev (c_fillTo hB rows xr) (by first | decide | omega) (Nat.le_refl _) (Nat.le_refl _) ?_)))
    refine k3 _ ?_
    unfold leR0
    rw [hq]
    exact lzS.fill hh (fr_rf _ _) hB h37 rows
set_option maxRecDepth 100000 in
set_option maxHeartbeats 1000000 in
theorem c_makeUpToByEqual (hX : lzX σ cc rows x false card parts b w G) (h37 : σ.2 37 = some (spc c)) {h : Nat} (hh : okh h) {v0 : V1} (hB : IsB σ h v0) (n : Nat) (hn : n < 1000) : ab_call 4 0 0 yX0_makeUpToByEqual [rf 33, rf x, .inl n, rf h] σ (fun r σ' => r = .inl none ∧ lzS σ σ' h (leE rows b (BB false b G) parts n c)) := by
  have hh2 := hh
  unfold okh at hh2
  obtain ⟨x33, x3, xr, x320, xo, xC⟩ := id hX
  obtain ⟨o1, o2, o3, o4, o5, o6⟩ := id xo
  have xC0 := xC.1
  have hB1 := hB.1
  have hnb : ∀ p, nbm false b p = b p := fun p => rfl
  refine eX0_makeUpToByEqual rfl (fun At hA => ?_)
  have loop : ∀ (m p : Nat) (τ : ab_H) (y4 y6 : Option ab_V), p + 1 + m = parts → lzS σ τ h (zf (leEs rows b (BB false b G) n) (leE0 rows b (BB false b G) n c) p) → At 4 [some (rf 33), some (rf x), some (.inl n), some (rf h), y4, some (.inl ((p + 1 : Nat) : Int)), y6] [] τ 0 0 := by
    intro m
    induction m with
    | zero =>
      intro p τ y4 y6 hp hL
      have hX1 := hX.fr hL.1 (lfA_r hh)
      have q0 := hX1.2.2.2.2.2.1
      refine hA 4 _ rfl _ _ _ _ _ ?_
      refine Exists.intro _ (And.intro (by first | assumption | exact st_s | exact st_e (by decide) (by assumption) | exact st_e (by omega) (by assumption) | exact st_e (by decide) st_s | exact st_e (by omega) st_s | exact st_e (by decide) (st_e (by decide) (by assumption)) | exact st_e (by omega) (st_e (by omega) (by assumption))) ?_)
      refine And.intro (And.intro (by first | assumption | exact b2i_R _ | exact rR (by omega) (by omega) | exact rR (by simp only [Int.toNat_natCast]; omega) (by simp only [Int.toNat_natCast]; omega)) (by first | assumption | exact b2i_R _ | exact rR (by omega) (by omega) | exact rR (by simp only [Int.toNat_natCast]; omega) (by simp only [Int.toNat_natCast]; omega))) (And.intro (fun q => ?_) (fun q => ?_))
      · refine hA 9 _ rfl _ _ _ _ _ ?_
        refine ⟨rfl, ?_⟩
        unfold leE
        rw [show parts - 1 = p by omega]
        exact hL
      · omega
    | succ m ih =>
      intro p τ y4 y6 hp hL
      have hX1 := hX.fr hL.1 (lfA_r hh)
      obtain ⟨q33, q3, -, -, -, qC⟩ := id hX1
      have q0 := qC.1
      have hd := dig_lt o3 (p + 1) n
      have hb := o3 (p + 1)
      have inner : ∀ (l j : Nat) (υ : ab_H), j + l = dig b (p + 1) n → lzS σ υ h (zf (fun j => zjn (gu rows) 1 (BB false b G (p + 1) (j - 1))) (zjn (gu rows) 0 (BB false b G (p + 1) (dig b (p + 1) n)) (zf (leEs rows b (BB false b G) n) (leE0 rows b (BB false b G) n c) p)) j) → At 6 [some (rf 33), some (rf x), some (.inl n), some (rf h), some (.inl (dig b (p + 1) n)), some (.inl ((p + 1 : Nat) : Int)), some (.inl j)] [] υ 0 0 := by
        intro l
        induction l with
        | zero =>
          intro j υ hj hLz
          refine hA 6 _ rfl _ _ _ _ _ ?_
          refine And.intro (And.intro (by first | assumption | exact b2i_R _ | exact rR (by omega) (by omega) | exact rR (by simp only [Int.toNat_natCast]; omega) (by simp only [Int.toNat_natCast]; omega)) (by first | assumption | exact b2i_R _ | exact rR (by omega) (by omega) | exact rR (by simp only [Int.toNat_natCast]; omega) (by simp only [Int.toNat_natCast]; omega))) (And.intro (fun q => ?_) (fun q => ?_))
          · refine hA 8 _ rfl _ _ _ _ _ ?_
            refine ih (p + 1) υ _ _ (by omega) ?_
            rw [show j = dig b (p + 1) n by omega] at hLz
            exact hLz
          · omega
        | succ l ihl =>
          intro j υ hj hLz
          have hX2 := hX.fr hLz.1 (lfA_r hh)
          obtain ⟨r33, r3, -, -, -, rC⟩ := id hX2
          have r0 := rC.1
          have hO := rC.2.2.2.2.2.2 (fsp false b (p + 1) + j) (fsp_lt (by omega) (by rw [hnb]; omega))
          refine hA 6 _ rfl _ _ _ _ _ ?_
          refine And.intro (And.intro (by first | assumption | exact b2i_R _ | exact rR (by omega) (by omega) | exact rR (by simp only [Int.toNat_natCast]; omega) (by simp only [Int.toNat_natCast]; omega)) (by first | assumption | exact b2i_R _ | exact rR (by omega) (by omega) | exact rR (by simp only [Int.toNat_natCast]; omega) (by simp only [Int.toNat_natCast]; omega))) (And.intro (fun q => ?_) (fun q => ?_))
          · omega
          · refine hA 7 _ rfl _ _ _ _ _ ?_
            refine Exists.intro _ (And.intro (by first | assumption | exact st_s | exact st_e (by decide) (by assumption) | exact st_e (by omega) (by assumption) | exact st_e (by decide) st_s | exact st_e (by omega) st_s | exact st_e (by decide) (st_e (by decide) (by assumption)) | exact st_e (by omega) (st_e (by omega) (by assumption))) (And.intro rfl (ab_inv_ev (c_bitmapAt rC xo (p + 1) j (by omega) (by rw [hnb]; omega)) (by first | decide | omega) (Nat.le_refl _) (Nat.le_refl _) ?_)))
            refine Exists.intro _ (And.intro (by first | assumption | exact st_s | exact st_e (by decide) (by assumption) | exact st_e (by omega) (by assumption) | exact st_e (by decide) st_s | exact st_e (by omega) st_s | exact st_e (by decide) (st_e (by decide) (by assumption)) | exact st_e (by omega) (st_e (by omega) (by assumption))) (And.intro rfl (ab_inv_ev (c_read r33 hLz.2.2 _) (by first | decide | omega) (Nat.le_refl _) (Nat.le_refl _) ?_)))
            refine Exists.intro _ (And.intro (by first | assumption | exact st_s | exact st_e (by decide) (by assumption) | exact st_e (by omega) (by assumption) | exact st_e (by decide) st_s | exact st_e (by omega) st_s | exact st_e (by decide) (st_e (by decide) (by assumption)) | exact st_e (by omega) (st_e (by omega) (by assumption))) (And.intro rfl (ab_inv_ev (c_join (k := 1) (st_e (by decide) r33) (st_e (by decide) r3) xr st_s (by omega) (hLz.2.1.ne (by omega) (by omega)) (hO.ne (by omega) (by omega)) (by omega)) (by first | decide | omega) (Nat.le_refl _) (Nat.le_refl _) ?_)))
            exact ihl (j + 1) _ (by omega) (hLz.rj hh (gu rows) 1 hO.2.2)
      have hO := qC.2.2.2.2.2.2 (fsp false b (p + 1) + dig b (p + 1) n) (fsp_lt (by omega) (by rw [hnb]; omega))
      refine hA 4 _ rfl _ _ _ _ _ ?_
      refine Exists.intro _ (And.intro (by first | assumption | exact st_s | exact st_e (by decide) (by assumption) | exact st_e (by omega) (by assumption) | exact st_e (by decide) st_s | exact st_e (by omega) st_s | exact st_e (by decide) (st_e (by decide) (by assumption)) | exact st_e (by omega) (st_e (by omega) (by assumption))) ?_)
      refine And.intro (And.intro (by first | assumption | exact b2i_R _ | exact rR (by omega) (by omega) | exact rR (by simp only [Int.toNat_natCast]; omega) (by simp only [Int.toNat_natCast]; omega)) (by first | assumption | exact b2i_R _ | exact rR (by omega) (by omega) | exact rR (by simp only [Int.toNat_natCast]; omega) (by simp only [Int.toNat_natCast]; omega))) (And.intro (fun q => ?_) (fun q => ?_))
      · omega
      · refine hA 5 _ rfl _ _ _ _ _ ?_
        refine Exists.intro _ (And.intro (by first | assumption | exact st_s | exact st_e (by decide) (by assumption) | exact st_e (by omega) (by assumption) | exact st_e (by decide) st_s | exact st_e (by omega) st_s | exact st_e (by decide) (st_e (by decide) (by assumption)) | exact st_e (by omega) (st_e (by omega) (by assumption))) (And.intro rfl (ab_inv_ev (c_digitOf qC xo (p + 1) n (by omega) (by omega)) (by first | decide | omega) (Nat.le_refl _) (Nat.le_refl _) ?_)))
        refine Exists.intro _ (And.intro (by first | assumption | exact st_s | exact st_e (by decide) (by assumption) | exact st_e (by omega) (by assumption) | exact st_e (by decide) st_s | exact st_e (by omega) st_s | exact st_e (by decide) (st_e (by decide) (by assumption)) | exact st_e (by omega) (st_e (by omega) (by assumption))) (And.intro rfl (ab_inv_ev (c_bitmapAt qC xo (p + 1) (dig b (p + 1) n) (by omega) (by rw [hnb]; omega)) (by first | decide | omega) (Nat.le_refl _) (Nat.le_refl _) ?_)))
        refine Exists.intro _ (And.intro (by first | assumption | exact st_s | exact st_e (by decide) (by assumption) | exact st_e (by omega) (by assumption) | exact st_e (by decide) st_s | exact st_e (by omega) st_s | exact st_e (by decide) (st_e (by decide) (by assumption)) | exact st_e (by omega) (st_e (by omega) (by assumption))) (And.intro rfl (ab_inv_ev (c_read q33 hL.2.2 _) (by first | decide | omega) (Nat.le_refl _) (Nat.le_refl _) ?_)))
        refine Exists.intro _ (And.intro (by first | assumption | exact st_s | exact st_e (by decide) (by assumption) | exact st_e (by omega) (by assumption) | exact st_e (by decide) st_s | exact st_e (by omega) st_s | exact st_e (by decide) (st_e (by decide) (by assumption)) | exact st_e (by omega) (st_e (by omega) (by assumption))) (And.intro rfl (ab_inv_ev (c_join (k := 0) (st_e (by decide) q33) (st_e (by decide) q3) xr st_s (by omega) (hL.2.1.ne (by omega) (by omega)) (hO.ne (by omega) (by omega)) (by omega)) (by first | decide | omega) (Nat.le_refl _) (Nat.le_refl _) ?_)))
        exact inner (dig b (p + 1) n) 0 _ (by omega) (hL.rj hh (gu rows) 0 hO.2.2)
  have hd := dig_lt o3 0 n
  have hb := o3 0
  have inner0 : ∀ (l j : Nat) (υ : ab_H), j + l = dig b 0 n → lzS σ υ h (zf (fun j => zjn (gu rows) 1 (BB false b G 0 j)) (zbm (BB false b G 0 0) c) j) → At 1 [some (rf 33), some (rf x), some (.inl n), some (rf h), some (.inl (dig b 0 n)), some (.inl ((j + 1 : Nat) : Int)), none] [] υ 0 0 := by
    intro l
    induction l with
    | zero =>
      intro j υ hj hLz
      refine hA 1 _ rfl _ _ _ _ _ ?_
      refine And.intro (And.intro (by first | assumption | exact b2i_R _ | exact rR (by omega) (by omega) | exact rR (by simp only [Int.toNat_natCast]; omega) (by simp only [Int.toNat_natCast]; omega)) (by first | assumption | exact b2i_R _ | exact rR (by omega) (by omega) | exact rR (by simp only [Int.toNat_natCast]; omega) (by simp only [Int.toNat_natCast]; omega))) (And.intro (fun q => ?_) (fun q => ?_))
      · refine hA 3 _ rfl _ _ _ _ _ ?_
        refine loop (parts - 1) 0 υ _ _ (by omega) ?_
        rw [show j = dig b 0 n by omega] at hLz
        exact hLz
      · omega
    | succ l ihl =>
      intro j υ hj hLz
      have hX2 := hX.fr hLz.1 (lfA_r hh)
      obtain ⟨r33, r3, -, -, -, rC⟩ := id hX2
      have r0 := rC.1
      have hO := rC.2.2.2.2.2.2 (fsp false b 0 + (j + 1)) (fsp_lt (by omega) (by rw [hnb]; omega))
      refine hA 1 _ rfl _ _ _ _ _ ?_
      refine And.intro (And.intro (by first | assumption | exact b2i_R _ | exact rR (by omega) (by omega) | exact rR (by simp only [Int.toNat_natCast]; omega) (by simp only [Int.toNat_natCast]; omega)) (by first | assumption | exact b2i_R _ | exact rR (by omega) (by omega) | exact rR (by simp only [Int.toNat_natCast]; omega) (by simp only [Int.toNat_natCast]; omega))) (And.intro (fun q => ?_) (fun q => ?_))
      · omega
      · refine hA 2 _ rfl _ _ _ _ _ ?_
        refine Exists.intro _ (And.intro (by first | assumption | exact st_s | exact st_e (by decide) (by assumption) | exact st_e (by omega) (by assumption) | exact st_e (by decide) st_s | exact st_e (by omega) st_s | exact st_e (by decide) (st_e (by decide) (by assumption)) | exact st_e (by omega) (st_e (by omega) (by assumption))) (And.intro rfl (ab_inv_ev (c_bitmapAt rC xo 0 (j + 1) (by omega) (by rw [hnb]; omega)) (by first | decide | omega) (Nat.le_refl _) (Nat.le_refl _) ?_)))
        refine Exists.intro _ (And.intro (by first | assumption | exact st_s | exact st_e (by decide) (by assumption) | exact st_e (by omega) (by assumption) | exact st_e (by decide) st_s | exact st_e (by omega) st_s | exact st_e (by decide) (st_e (by decide) (by assumption)) | exact st_e (by omega) (st_e (by omega) (by assumption))) (And.intro rfl (ab_inv_ev (c_read r33 hLz.2.2 _) (by first | decide | omega) (Nat.le_refl _) (Nat.le_refl _) ?_)))
        refine Exists.intro _ (And.intro (by first | assumption | exact st_s | exact st_e (by decide) (by assumption) | exact st_e (by omega) (by assumption) | exact st_e (by decide) st_s | exact st_e (by omega) st_s | exact st_e (by decide) (st_e (by decide) (by assumption)) | exact st_e (by omega) (st_e (by omega) (by assumption))) (And.intro rfl (ab_inv_ev (c_join (k := 1) (st_e (by decide) r33) (st_e (by decide) r3) xr st_s (by omega) (hLz.2.1.ne (by omega) (by omega)) (hO.ne (by omega) (by omega)) (by omega)) (by first | decide | omega) (Nat.le_refl _) (Nat.le_refl _) ?_)))
        exact ihl (j + 1) _ (by omega) (hLz.rj hh (gu rows) 1 hO.2.2)
  have hO := xC.2.2.2.2.2.2 (fsp false b 0 + 0) (fsp_lt (by omega) (by rw [hnb]; omega))
  refine hA 0 _ rfl _ _ _ _ _ ?_
  refine Exists.intro _ (And.intro (by first | assumption | exact st_s | exact st_e (by decide) (by assumption) | exact st_e (by omega) (by assumption) | exact st_e (by decide) st_s | exact st_e (by omega) st_s | exact st_e (by decide) (st_e (by decide) (by assumption)) | exact st_e (by omega) (st_e (by omega) (by assumption))) (And.intro rfl (ab_inv_ev (c_digitOf xC xo 0 n (by omega) (by omega)) (by first | decide | omega) (Nat.le_refl _) (Nat.le_refl _) ?_)))
  refine Exists.intro _ (And.intro (by first | assumption | exact st_s | exact st_e (by decide) (by assumption) | exact st_e (by omega) (by assumption) | exact st_e (by decide) st_s | exact st_e (by omega) st_s | exact st_e (by decide) (st_e (by decide) (by assumption)) | exact st_e (by omega) (st_e (by omega) (by assumption))) (And.intro rfl (ab_inv_ev (c_bitmapAt xC xo 0 0 (by omega) (by rw [hnb]; omega)) (by first | decide | omega) (Nat.le_refl _) (Nat.le_refl _) ?_)))
  refine Exists.intro _ (And.intro (by first | assumption | exact st_s | exact st_e (by decide) (by assumption) | exact st_e (by omega) (by assumption) | exact st_e (by decide) st_s | exact st_e (by omega) st_s | exact st_e (by decide) (st_e (by decide) (by assumption)) | exact st_e (by omega) (st_e (by omega) (by assumption))) (And.intro rfl (ab_inv_ev (c_read x33 h37 _) (by first | decide | omega) (Nat.le_refl _) (Nat.le_refl _) ?_)))
  refine Exists.intro _ (And.intro (by first | assumption | exact st_s | exact st_e (by decide) (by assumption) | exact st_e (by omega) (by assumption) | exact st_e (by decide) st_s | exact st_e (by omega) st_s | exact st_e (by decide) (st_e (by decide) (by assumption)) | exact st_e (by omega) (st_e (by omega) (by assumption))) (And.intro rfl (ab_inv_ev (c_copyFrom (hB.ne (by omega) (by omega)) (hO.ne (by omega) (by omega))) (by first | decide | omega) (Nat.le_refl _) (Nat.le_refl _) ?_)))
  exact inner0 (dig b 0 n) 0 _ (by omega) (lzS.rc (z := (v0, c)) hh (fr_rf _ _) hB hO.2.2)
set_option maxRecDepth 100000 in
set_option maxHeartbeats 1000000 in
theorem c_makeDigit (hX : lzX σ cc rows x ρ card parts b w G) (h37 : σ.2 37 = some (spc c)) {h : Nat} (hh : okh h) {v0 : V1} (hB : IsB σ h v0) (p y : Nat) (hp : p < parts) (hy : y < b p) : ab_call 4 0 0 yX0_makeDigit [rf 33, rf x, .inl p, .inl y, rf h] σ (fun r σ' => r = .inl none ∧ lzS σ σ' h (digZ rows b (BB ρ b G) ρ p y c)) := by
  have hh2 := hh
  unfold okh at hh2
  obtain ⟨x33, x3, xr, x320, xo, xC⟩ := id hX
  obtain ⟨o1, o2, o3, o4, o5, o6⟩ := id xo
  have xC0 := xC.1
  have hB1 := hB.1
  have hb := o3 p
  refine eX0_makeDigit rfl (fun At hA => ?_)
  have k6 : ∀ (τ : ab_H) (L : ab_L), lzS σ τ h (digZ rows b (BB ρ b G) ρ p y c) → At 6 L [] τ 0 0 := fun τ L hL => by
    refine hA 6 _ rfl _ _ _ _ _ ?_
    exact ⟨rfl, hL⟩
  have k2 : (!ρ || y == 0) = true → y < nbm ρ b p → At 2 [some (rf 33), some (rf x), some (.inl p), some (.inl y), some (rf h)] [] σ 0 0 := fun hq hlt => by
    have hO := xC.2.2.2.2.2.2 (fsp ρ b p + y) (fsp_lt hp hlt)
    refine hA 2 _ rfl _ _ _ _ _ ?_
    refine Exists.intro _ (And.intro (by first | assumption | exact st_s | exact st_e (by decide) (by assumption) | exact st_e (by omega) (by assumption) | exact st_e (by decide) st_s | exact st_e (by omega) st_s | exact st_e (by decide) (st_e (by decide) (by assumption)) | exact st_e (by omega) (st_e (by omega) (by assumption))) (And.intro rfl (ab_inv_ev (c_bitmapAt xC xo p y hp hlt) (by first | decide | omega) (Nat.le_refl _) (Nat.le_refl _) ?_)))
    refine Exists.intro _ (And.intro (by first | assumption | exact st_s | exact st_e (by decide) (by assumption) | exact st_e (by omega) (by assumption) | exact st_e (by decide) st_s | exact st_e (by omega) st_s | exact st_e (by decide) (st_e (by decide) (by assumption)) | exact st_e (by omega) (st_e (by omega) (by assumption))) (And.intro rfl (ab_inv_ev (c_read x33 h37 _) (by first | decide | omega) (Nat.le_refl _) (Nat.le_refl _) ?_)))
    refine Exists.intro _ (And.intro (by first | assumption | exact st_s | exact st_e (by decide) (by assumption) | exact st_e (by omega) (by assumption) | exact st_e (by decide) st_s | exact st_e (by omega) st_s | exact st_e (by decide) (st_e (by decide) (by assumption)) | exact st_e (by omega) (st_e (by omega) (by assumption))) (And.intro rfl (ab_inv_ev (c_copyFrom (hB.ne (by omega) (by omega)) (hO.ne (by omega) (by omega))) (by first | decide | omega) (Nat.le_refl _) (Nat.le_refl _) ?_)))
    refine k6 _ _ ?_
    unfold digZ
    rw [if_pos hq]
    exact lzS.rc (z := (v0, c)) hh (fr_rf _ _) hB hO.2.2
  refine hA 0 _ rfl _ _ _ _ _ ?_
  refine Exists.intro _ (And.intro (by first | assumption | exact st_s | exact st_e (by decide) (by assumption) | exact st_e (by omega) (by assumption) | exact st_e (by decide) st_s | exact st_e (by omega) st_s | exact st_e (by decide) (st_e (by decide) (by assumption)) | exact st_e (by omega) (st_e (by omega) (by assumption))) ?_)
  refine And.intro (by first | assumption | exact b2i_R _ | exact rR (by omega) (by omega) | exact rR (by simp only [Int.toNat_natCast]; omega) (by simp only [Int.toNat_natCast]; omega)) (And.intro (fun q => ?_) (fun q => ?_))
  · have hq := b2i_0 q
    exact k2 (by rw [hq]; rfl) (by unfold nbm; rw [hq]; exact hy)
  · have hq := b2i_1 q
    subst hq
    have hnb : nbm true b p = b p - 1 := rfl
    refine hA 1 _ rfl _ _ _ _ _ ?_
    refine And.intro (by first | assumption | exact b2i_R _ | exact rR (by omega) (by omega) | exact rR (by simp only [Int.toNat_natCast]; omega) (by simp only [Int.toNat_natCast]; omega)) (And.intro (fun q => ?_) (fun q => ?_))
    · have hy0 : y ≠ 0 := by
        have q : ((y : Nat) : Int) ≠ 0 := q
        omega
      have hy1 : (!true || y == 0) = false := by rw [beq_eq_false_iff_ne.mpr hy0]; rfl
      have e9 : ((y : Nat) : Int) - 1 = ((y - 1 : Nat) : Int) := by omega
      have hO1 := xC.2.2.2.2.2.2 (fsp true b p + (y - 1)) (fsp_lt hp (by omega))
      have hcall := c_bitmapAt xC xo p (y - 1) hp (by omega)
      rw [← e9] at hcall
      refine hA 3 _ rfl _ _ _ _ _ ?_
      refine Exists.intro _ (And.intro (by first | assumption | exact st_s | exact st_e (by decide) (by assumption) | exact st_e (by omega) (by assumption) | exact st_e (by decide) st_s | exact st_e (by omega) st_s | exact st_e (by decide) (st_e (by decide) (by assumption)) | exact st_e (by omega) (st_e (by omega) (by assumption))) (And.intro rfl (ab_inv_ev (c_isTop xC xo p y hp (by omega)) (by first | decide | omega) (Nat.le_refl _) (Nat.le_refl _) ?_)))
      refine And.intro (by first | assumption | exact b2i_R _ | exact rR (by omega) (by omega) | exact rR (by simp only [Int.toNat_natCast]; omega) (by simp only [Int.toNat_natCast]; omega)) (And.intro (fun q => ?_) (fun q => ?_))
      · have hq := b2i_0 q
        have hlt : y < nbm true b p := by
          have := beq_eq_false_iff_ne.mp hq
          omega
        have hO := xC.2.2.2.2.2.2 (fsp true b p + y) (fsp_lt hp hlt)
        have hL : lzS σ _ h (zbm (BB true b G p y) c) := lzS.rc (z := (v0, c)) hh (fr_rf _ _) hB hO.2.2
        have hX2 := hX.fr hL.1 (lfA_r hh)
        obtain ⟨r33, r3, -, -, -, rC⟩ := id hX2
        have r0 := rC.1
        have hO2 := rC.2.2.2.2.2.2 (fsp true b p + (y - 1)) (fsp_lt hp (by omega))
        have hcall2 := c_bitmapAt rC xo p (y - 1) hp (by omega)
        rw [← e9] at hcall2
        refine hA 5 _ rfl _ _ _ _ _ ?_
        refine Exists.intro _ (And.intro (by first | assumption | exact st_s | exact st_e (by decide) (by assumption) | exact st_e (by omega) (by assumption) | exact st_e (by decide) st_s | exact st_e (by omega) st_s | exact st_e (by decide) (st_e (by decide) (by assumption)) | exact st_e (by omega) (st_e (by omega) (by assumption))) (And.intro rfl (ab_inv_ev (c_bitmapAt xC xo p y hp hlt) (by first | decide | omega) (Nat.le_refl _) (Nat.le_refl _) ?_)))
        refine Exists.intro _ (And.intro (by first | assumption | exact st_s | exact st_e (by decide) (by assumption) | exact st_e (by omega) (by assumption) | exact st_e (by decide) st_s | exact st_e (by omega) st_s | exact st_e (by decide) (st_e (by decide) (by assumption)) | exact st_e (by omega) (st_e (by omega) (by assumption))) (And.intro rfl (ab_inv_ev (c_read x33 h37 _) (by first | decide | omega) (Nat.le_refl _) (Nat.le_refl _) ?_)))
        refine Exists.intro _ (And.intro (by first | assumption | exact st_s | exact st_e (by decide) (by assumption) | exact st_e (by omega) (by assumption) | exact st_e (by decide) st_s | exact st_e (by omega) st_s | exact st_e (by decide) (st_e (by decide) (by assumption)) | exact st_e (by omega) (st_e (by omega) (by assumption))) (And.intro rfl (ab_inv_ev (c_copyFrom (hB.ne (by omega) (by omega)) (hO.ne (by omega) (by omega))) (by first | decide | omega) (Nat.le_refl _) (Nat.le_refl _) ?_)))
        refine Exists.intro _ (And.intro (by first | assumption | exact st_s | exact st_e (by decide) (by assumption) | exact st_e (by omega) (by assumption) | exact st_e (by decide) st_s | exact st_e (by omega) st_s | exact st_e (by decide) (st_e (by decide) (by assumption)) | exact st_e (by omega) (st_e (by omega) (by assumption))) (And.intro rfl (ab_inv_ev hcall2 (by first | decide | omega) (Nat.le_refl _) (Nat.le_refl _) ?_)))
        refine Exists.intro _ (And.intro (by first | assumption | exact st_s | exact st_e (by decide) (by assumption) | exact st_e (by omega) (by assumption) | exact st_e (by decide) st_s | exact st_e (by omega) st_s | exact st_e (by decide) (st_e (by decide) (by assumption)) | exact st_e (by omega) (st_e (by omega) (by assumption))) (And.intro rfl (ab_inv_ev (c_read r33 hL.2.2 _) (by first | decide | omega) (Nat.le_refl _) (Nat.le_refl _) ?_)))
        refine Exists.intro _ (And.intro (by first | assumption | exact st_s | exact st_e (by decide) (by assumption) | exact st_e (by omega) (by assumption) | exact st_e (by decide) st_s | exact st_e (by omega) st_s | exact st_e (by decide) (st_e (by decide) (by assumption)) | exact st_e (by omega) (st_e (by omega) (by assumption))) (And.intro rfl (ab_inv_ev (c_join (k := 2) (st_e (by decide) r33) (st_e (by decide) r3) xr st_s (by omega) (hL.2.1.ne (by omega) (by omega)) (hO2.ne (by omega) (by omega)) (by omega)) (by first | decide | omega) (Nat.le_refl _) (Nat.le_refl _) ?_)))
        refine k6 _ _ ?_
        unfold digZ
        rw [hy1, hq]
        exact hL.rj hh (gu rows) 2 hO2.2.2
      · have hq := b2i_1 q
        have hL : lzS σ _ h (zbm (BB true b G p (y - 1)) c) := lzS.rc (z := (v0, c)) hh (fr_rf _ _) hB hO1.2.2
        have hX2 := hX.fr hL.1 (lfA_r hh)
        obtain ⟨r33, r3, -, -, -, rC⟩ := id hX2
        refine hA 4 _ rfl _ _ _ _ _ ?_
        refine Exists.intro _ (And.intro (by first | assumption | exact st_s | exact st_e (by decide) (by assumption) | exact st_e (by omega) (by assumption) | exact st_e (by decide) st_s | exact st_e (by omega) st_s | exact st_e (by decide) (st_e (by decide) (by assumption)) | exact st_e (by omega) (st_e (by omega) (by assumption))) (And.intro rfl (ab_inv_ev hcall (by first | decide | omega) (Nat.le_refl _) (Nat.le_refl _) ?_)))
        refine Exists.intro _ (And.intro (by first | assumption | exact st_s | exact st_e (by decide) (by assumption) | exact st_e (by omega) (by assumption) | exact st_e (by decide) st_s | exact st_e (by omega) st_s | exact st_e (by decide) (st_e (by decide) (by assumption)) | exact st_e (by omega) (st_e (by omega) (by assumption))) (And.intro rfl (ab_inv_ev (c_read x33 h37 _) (by first | decide | omega) (Nat.le_refl _) (Nat.le_refl _) ?_)))
        refine Exists.intro _ (And.intro (by first | assumption | exact st_s | exact st_e (by decide) (by assumption) | exact st_e (by omega) (by assumption) | exact st_e (by decide) st_s | exact st_e (by omega) st_s | exact st_e (by decide) (st_e (by decide) (by assumption)) | exact st_e (by omega) (st_e (by omega) (by assumption))) (And.intro rfl (ab_inv_ev (c_copyFrom (hB.ne (by omega) (by omega)) (hO1.ne (by omega) (by omega))) (by first | decide | omega) (Nat.le_refl _) (Nat.le_refl _) ?_)))
        refine Exists.intro _ (And.intro (by first | assumption | exact st_s | exact st_e (by decide) (by assumption) | exact st_e (by omega) (by assumption) | exact st_e (by decide) st_s | exact st_e (by omega) st_s | exact st_e (by decide) (st_e (by decide) (by assumption)) | exact st_e (by omega) (st_e (by omega) (by assumption))) (And.intro rfl (ab_inv_ev (c_turnAround r33 r3 xr hL.2.2 hL.2.1 (by omega)) (by first | decide | omega) (Nat.le_refl _) (Nat.le_refl _) ?_)))
        refine k6 _ _ ?_
        unfold digZ
        rw [hy1, hq]
        exact hL.rt hh rows
    · have hy0 : y = 0 := by
        have q : ((y : Nat) : Int) = 0 := q
        omega
      exact k2 (by rw [hy0]; rfl) (by omega)
end Leaf2
