-- ===== the class's helpers =====
section Face1
variable {σ : ab_H} {cc rows : Nat} {K : Nat → CT} {va : Nat → Nat → Nat} {ad : Nat → Nat} {R : Nat → V1} {f : Nat → Int} {n : Nat} {pl : Int} {c : C3} {r : Nat → Nat}
theorem pure_ok {o : Int ⊕ Nat} {x : Int} {σ' : ab_H} (ho : o = .inl x) (hg : gr fcA σ σ') (h : CI σ' cc rows K va ad R f n pl c r) : pureP σ cc rows K va ad R f n pl c r o (.inl (some (.inl x))) σ' := by
  subst ho
  exact ⟨hg, rfl, h⟩
theorem pure_no {o : Int ⊕ Nat} {i : Nat} {σ' : ab_H} (ho : o = .inr i) (hg : gr fcA σ σ') (h : CI σ' cc rows K va ad R f n pl c r) {q : Nat} (hq : σ'.1 ≤ q) : pureP σ cc rows K va ad R f n pl c r o (.inr i) (q, (ab_st σ' 0 (c9 (ab_up r i (r i + 1)))).2) := by
  subst ho
  refine ⟨?_, rfl, h.cnt0 hq⟩
  exact hg.tr (gr_q (τ := ab_st σ' 0 (c9 (ab_up r i (r i + 1)))) (fr.gr (A := fcA) (fr_st (by unfold fcA; omega))) hq)
/-- a thing, or none such -/
def exP (σ : ab_H) (r : Nat → Nat) (b : Bool) (v : ab_V) (z : ab_O) (σ' : ab_H) : Prop := (b = true ∧ z = .inl (some v) ∧ σ' = σ) ∨ (b = false ∧ z = .inr 0 ∧ ∃ q, σ.1 ≤ q ∧ σ' = (q, (ab_st σ 0 (c9 (ab_up r 0 (r 0 + 1)))).2))
set_option maxRecDepth 100000 in
set_option maxHeartbeats 1000000 in
theorem c_isResult (k : Int) (hk : ab_R k) : ab_ev 1 yX9_isResult [.inl k] σ (some (.inl (b2i (decide (0 ≤ k ∧ k ≤ 5))))) σ := by
  refine eX9_isResult rfl (fun At hA => ?_)
  have k4 : ∀ z : Int, z = b2i (decide (0 ≤ k ∧ k ≤ 5)) → At 4 [some (.inl k)] [.inl z] σ 0 0 := fun z hz => by
    subst hz
    refine hA 4 _ rfl _ _ _ _ _ ?_
    refine And.intro (by first | exact Or.inl rfl | exact Or.inr rfl | exact b2i_01 _) ?_
    exact ⟨rfl, rfl⟩
  have k3 : ¬ (0 ≤ k ∧ k ≤ 5) → At 3 [some (.inl k)] [] σ 0 0 := fun h => by
    refine hA 3 _ rfl _ _ _ _ _ ?_
    exact k4 0 (by rw [decide_eq_false h]; rfl)
  refine hA 0 _ rfl _ _ _ _ _ ?_
  refine And.intro (by first | assumption | exact b2i_R _ | exact rR (by omega) (by omega) | exact rR (by simp only [Int.toNat_natCast]; omega) (by simp only [Int.toNat_natCast]; omega)) (And.intro (fun q => ?_) (fun q => ?_))
  · exact k3 (by omega)
  · refine hA 1 _ rfl _ _ _ _ _ ?_
    refine And.intro (And.intro (by first | assumption | exact b2i_R _ | exact rR (by omega) (by omega) | exact rR (by simp only [Int.toNat_natCast]; omega) (by simp only [Int.toNat_natCast]; omega)) (by first | assumption | exact b2i_R _ | exact rR (by omega) (by omega) | exact rR (by simp only [Int.toNat_natCast]; omega) (by simp only [Int.toNat_natCast]; omega))) (And.intro (fun q => ?_) (fun q => ?_))
    · exact k3 (by omega)
    · refine hA 2 _ rfl _ _ _ _ _ ?_
      exact k4 1 (by rw [decide_eq_true (by omega)]; rfl)
set_option maxRecDepth 100000 in
set_option maxHeartbeats 1000000 in
theorem c_isCard (k : Int) (hk : ab_R k) : ab_ev 1 yX9_isCard [.inl k] σ (some (.inl (b2i (decide (2 ≤ k ∧ k ≤ 200))))) σ := by
  refine eX9_isCard rfl (fun At hA => ?_)
  have k4 : ∀ z : Int, z = b2i (decide (2 ≤ k ∧ k ≤ 200)) → At 4 [some (.inl k)] [.inl z] σ 0 0 := fun z hz => by
    subst hz
    refine hA 4 _ rfl _ _ _ _ _ ?_
    refine And.intro (by first | exact Or.inl rfl | exact Or.inr rfl | exact b2i_01 _) ?_
    exact ⟨rfl, rfl⟩
  have k3 : ¬ (2 ≤ k ∧ k ≤ 200) → At 3 [some (.inl k)] [] σ 0 0 := fun h => by
    refine hA 3 _ rfl _ _ _ _ _ ?_
    exact k4 0 (by rw [decide_eq_false h]; rfl)
  refine hA 0 _ rfl _ _ _ _ _ ?_
  refine And.intro (And.intro (by first | assumption | exact b2i_R _ | exact rR (by omega) (by omega) | exact rR (by simp only [Int.toNat_natCast]; omega) (by simp only [Int.toNat_natCast]; omega)) (by first | assumption | exact b2i_R _ | exact rR (by omega) (by omega) | exact rR (by simp only [Int.toNat_natCast]; omega) (by simp only [Int.toNat_natCast]; omega))) (And.intro (fun q => ?_) (fun q => ?_))
  · exact k3 (by omega)
  · refine hA 1 _ rfl _ _ _ _ _ ?_
    refine And.intro (And.intro (by first | assumption | exact b2i_R _ | exact rR (by omega) (by omega) | exact rR (by simp only [Int.toNat_natCast]; omega) (by simp only [Int.toNat_natCast]; omega)) (by first | assumption | exact b2i_R _ | exact rR (by omega) (by omega) | exact rR (by simp only [Int.toNat_natCast]; omega) (by simp only [Int.toNat_natCast]; omega))) (And.intro (fun q => ?_) (fun q => ?_))
    · exact k3 (by omega)
    · refine hA 2 _ rfl _ _ _ _ _ ?_
      exact k4 1 (by rw [decide_eq_true (by omega)]; rfl)
set_option maxRecDepth 100000 in
set_option maxHeartbeats 1000000 in
theorem c_isTextLength (h0 : σ.2 0 = some (c9 r)) {len a st k w : Int} (h1 : σ.2 1 = some (tpc n len a st k w)) (hn : n ≤ 400) (x : Int) (hx : ab_R x) : ab_ev 1 yX9_isTextLength [rf 0, .inl x] σ (some (.inl (b2i (decide (0 ≤ x ∧ x ≤ 200 ∧ x ≤ n))))) σ := by
  refine eX9_isTextLength rfl (fun At hA => ?_)
  have k5 : ∀ z : Int, z = b2i (decide (0 ≤ x ∧ x ≤ 200 ∧ x ≤ n)) → At 5 [some (rf 0), some (.inl x)] [.inl z] σ 0 0 := fun z hz => by
    subst hz
    refine hA 5 _ rfl _ _ _ _ _ ?_
    refine And.intro (by first | exact Or.inl rfl | exact Or.inr rfl | exact b2i_01 _) ?_
    exact ⟨rfl, rfl⟩
  have k4 : ¬ (0 ≤ x ∧ x ≤ 200 ∧ x ≤ n) → At 4 [some (rf 0), some (.inl x)] [] σ 0 0 := fun h => by
    refine hA 4 _ rfl _ _ _ _ _ ?_
    exact k5 0 (by rw [decide_eq_false h]; rfl)
  refine hA 0 _ rfl _ _ _ _ _ ?_
  refine And.intro (by first | assumption | exact b2i_R _ | exact rR (by omega) (by omega) | exact rR (by simp only [Int.toNat_natCast]; omega) (by simp only [Int.toNat_natCast]; omega)) (And.intro (fun q => ?_) (fun q => ?_))
  · exact k4 (by omega)
  · refine hA 1 _ rfl _ _ _ _ _ ?_
    refine And.intro (And.intro (by first | assumption | exact b2i_R _ | exact rR (by omega) (by omega) | exact rR (by simp only [Int.toNat_natCast]; omega) (by simp only [Int.toNat_natCast]; omega)) (by first | assumption | exact b2i_R _ | exact rR (by omega) (by omega) | exact rR (by simp only [Int.toNat_natCast]; omega) (by simp only [Int.toNat_natCast]; omega))) (And.intro (fun q => ?_) (fun q => ?_))
    · exact k4 (by omega)
    · refine hA 2 _ rfl _ _ _ _ _ ?_
      refine Exists.intro _ (And.intro (by first | assumption | exact st_s | exact st_e (by decide) (by assumption) | exact st_e (by omega) (by assumption) | exact st_e (by decide) st_s | exact st_e (by omega) st_s | exact st_e (by decide) (st_e (by decide) (by assumption)) | exact st_e (by omega) (st_e (by omega) (by assumption))) ?_)
      refine Exists.intro _ (And.intro (by first | assumption | exact st_s | exact st_e (by decide) (by assumption) | exact st_e (by omega) (by assumption) | exact st_e (by decide) st_s | exact st_e (by omega) st_s | exact st_e (by decide) (st_e (by decide) (by assumption)) | exact st_e (by omega) (st_e (by omega) (by assumption))) ?_)
      refine And.intro (And.intro (by first | assumption | exact b2i_R _ | exact rR (by omega) (by omega) | exact rR (by simp only [Int.toNat_natCast]; omega) (by simp only [Int.toNat_natCast]; omega)) (by first | assumption | exact b2i_R _ | exact rR (by omega) (by omega) | exact rR (by simp only [Int.toNat_natCast]; omega) (by simp only [Int.toNat_natCast]; omega))) (And.intro (fun q => ?_) (fun q => ?_))
      · exact k4 (by omega)
      · refine hA 3 _ rfl _ _ _ _ _ ?_
        exact k5 1 (by rw [decide_eq_true (by omega)]; rfl)
set_option maxRecDepth 100000 in
set_option maxHeartbeats 1000000 in
theorem c_existingResult (h0 : σ.2 0 = some (c9 r)) (h3 : σ.2 3 = some (tbc cc rows)) (h5 : σ.2 5 = some rsc) (k : Int) (hk : ab_R k) : ab_call 7 1 6 yX9_existingResult [rf 0, .inl k] σ (exP σ r (decide (0 ≤ k ∧ k ≤ 6)) (rf (12 + 2 * k.toNat))) := by
  refine eX9_existingResult rfl (fun At hA => ?_)
  have k4 : ∀ z : Int, z = b2i (decide (0 ≤ k ∧ k ≤ 6)) → At 4 [some (rf 0), some (.inl k)] [.inl z, rf 0] σ 0 0 := fun z hz => by
    subst hz
    refine hA 4 _ rfl _ _ _ _ _ ?_
    refine Exists.intro _ (And.intro (by first | assumption | exact st_s | exact st_e (by decide) (by assumption) | exact st_e (by omega) (by assumption) | exact st_e (by decide) st_s | exact st_e (by omega) st_s | exact st_e (by decide) (st_e (by decide) (by assumption)) | exact st_e (by omega) (st_e (by omega) (by assumption))) (And.intro rfl (ab_inv_of (c_needElement h0 (decide (0 ≤ k ∧ k ≤ 6))) (by first | decide | omega) (by omega) (by omega) ?_)))
    intro r' τ hpost
    rcases hpost with ⟨hb, rfl, rfl⟩ | ⟨hb, rfl, q9, hq9, rfl⟩
    · have hk2 := of_decide_eq_true hb
      refine Exists.intro _ (And.intro (by first | assumption | exact st_s | exact st_e (by decide) (by assumption) | exact st_e (by omega) (by assumption) | exact st_e (by decide) st_s | exact st_e (by omega) st_s | exact st_e (by decide) (st_e (by decide) (by assumption)) | exact st_e (by omega) (st_e (by omega) (by assumption))) ?_)
      refine Exists.intro _ (And.intro (by first | assumption | exact st_s | exact st_e (by decide) (by assumption) | exact st_e (by omega) (by assumption) | exact st_e (by decide) st_s | exact st_e (by omega) st_s | exact st_e (by decide) (st_e (by decide) (by assumption)) | exact st_e (by omega) (st_e (by omega) (by assumption))) ?_)
      refine Exists.intro _ (Exists.intro _ (And.intro (by first | assumption | exact st_s | exact st_e (by decide) (by assumption) | exact st_e (by omega) (by assumption) | exact st_e (by decide) st_s | exact st_e (by omega) st_s | exact st_e (by decide) (st_e (by decide) (by assumption)) | exact st_e (by omega) (st_e (by omega) (by assumption))) (And.intro (by first | omega | (simp only [Int.toNat_natCast]; omega)) ?_)))
      exact Or.inl ⟨hb, rfl, rfl⟩
    · exact Or.inr ⟨hb, rfl, q9, hq9, rfl⟩
  have k3 : ¬ (0 ≤ k ∧ k ≤ 6) → At 3 [some (rf 0), some (.inl k)] [rf 0] σ 0 0 := fun h => by
    refine hA 3 _ rfl _ _ _ _ _ ?_
    exact k4 0 (by rw [decide_eq_false h]; rfl)
  refine hA 0 _ rfl _ _ _ _ _ ?_
  refine And.intro (by first | assumption | exact b2i_R _ | exact rR (by omega) (by omega) | exact rR (by simp only [Int.toNat_natCast]; omega) (by simp only [Int.toNat_natCast]; omega)) (And.intro (fun q => ?_) (fun q => ?_))
  · exact k3 (by omega)
  · refine hA 1 _ rfl _ _ _ _ _ ?_
    refine And.intro (And.intro (by first | assumption | exact b2i_R _ | exact rR (by omega) (by omega) | exact rR (by simp only [Int.toNat_natCast]; omega) (by simp only [Int.toNat_natCast]; omega)) (by first | assumption | exact b2i_R _ | exact rR (by omega) (by omega) | exact rR (by simp only [Int.toNat_natCast]; omega) (by simp only [Int.toNat_natCast]; omega))) (And.intro (fun q => ?_) (fun q => ?_))
    · exact k3 (by omega)
    · refine hA 2 _ rfl _ _ _ _ _ ?_
      exact k4 1 (by rw [decide_eq_true (by omega)]; rfl)
set_option maxRecDepth 100000 in
set_option maxHeartbeats 1000000 in
theorem c_existingColumn (h0 : σ.2 0 = some (c9 r)) (h3 : σ.2 3 = some (tbc cc rows)) (hC : IsCs σ cc rows K va ad) (k : Int) (hk : ab_R k) : ab_call 7 1 6 yX9_existingColumn [rf 0, .inl k] σ (exP σ r (decide (0 ≤ k ∧ k < cc)) (rf (ad k.toNat))) := by
  obtain ⟨hcc4, ⟨A, h4, hAd⟩, hcol⟩ := id hC
  refine eX9_existingColumn rfl (fun At hA => ?_)
  have k4 : ∀ z : Int, z = b2i (decide (0 ≤ k ∧ k < cc)) → At 4 [some (rf 0), some (.inl k)] [.inl z, rf 0] σ 0 0 := fun z hz => by
    subst hz
    refine hA 4 _ rfl _ _ _ _ _ ?_
    refine Exists.intro _ (And.intro (by first | assumption | exact st_s | exact st_e (by decide) (by assumption) | exact st_e (by omega) (by assumption) | exact st_e (by decide) st_s | exact st_e (by omega) st_s | exact st_e (by decide) (st_e (by decide) (by assumption)) | exact st_e (by omega) (st_e (by omega) (by assumption))) (And.intro rfl (ab_inv_of (c_needElement h0 (decide (0 ≤ k ∧ k < cc))) (by first | decide | omega) (by omega) (by omega) ?_)))
    intro r' τ hpost
    rcases hpost with ⟨hb, rfl, rfl⟩ | ⟨hb, rfl, q9, hq9, rfl⟩
    · have hk2 := of_decide_eq_true hb
      have hA9 := hAd k.toNat (by omega)
      refine Exists.intro _ (And.intro (by first | assumption | exact st_s | exact st_e (by decide) (by assumption) | exact st_e (by omega) (by assumption) | exact st_e (by decide) st_s | exact st_e (by omega) st_s | exact st_e (by decide) (st_e (by decide) (by assumption)) | exact st_e (by omega) (st_e (by omega) (by assumption))) ?_)
      refine Exists.intro _ (And.intro (by first | assumption | exact st_s | exact st_e (by decide) (by assumption) | exact st_e (by omega) (by assumption) | exact st_e (by decide) st_s | exact st_e (by omega) st_s | exact st_e (by decide) (st_e (by decide) (by assumption)) | exact st_e (by omega) (st_e (by omega) (by assumption))) ?_)
      refine Exists.intro _ (Exists.intro _ (And.intro (by first | assumption | exact st_s | exact st_e (by decide) (by assumption) | exact st_e (by omega) (by assumption) | exact st_e (by decide) st_s | exact st_e (by omega) st_s | exact st_e (by decide) (st_e (by decide) (by assumption)) | exact st_e (by omega) (st_e (by omega) (by assumption))) (And.intro (by first | omega | (simp only [Int.toNat_natCast]; omega)) ?_)))
      refine Or.inl ⟨hb, ?_, rfl⟩
      rw [hA9]
    · exact Or.inr ⟨hb, rfl, q9, hq9, rfl⟩
  have k3 : ¬ (0 ≤ k ∧ k < cc) → At 3 [some (rf 0), some (.inl k)] [rf 0] σ 0 0 := fun h => by
    refine hA 3 _ rfl _ _ _ _ _ ?_
    exact k4 0 (by rw [decide_eq_false h]; rfl)
  refine hA 0 _ rfl _ _ _ _ _ ?_
  refine And.intro (by first | assumption | exact b2i_R _ | exact rR (by omega) (by omega) | exact rR (by simp only [Int.toNat_natCast]; omega) (by simp only [Int.toNat_natCast]; omega)) (And.intro (fun q => ?_) (fun q => ?_))
  · exact k3 (by omega)
  · refine hA 1 _ rfl _ _ _ _ _ ?_
    refine Exists.intro _ (And.intro (by first | assumption | exact st_s | exact st_e (by decide) (by assumption) | exact st_e (by omega) (by assumption) | exact st_e (by decide) st_s | exact st_e (by omega) st_s | exact st_e (by decide) (st_e (by decide) (by assumption)) | exact st_e (by omega) (st_e (by omega) (by assumption))) ?_)
    refine Exists.intro _ (And.intro (by first | assumption | exact st_s | exact st_e (by decide) (by assumption) | exact st_e (by omega) (by assumption) | exact st_e (by decide) st_s | exact st_e (by omega) st_s | exact st_e (by decide) (st_e (by decide) (by assumption)) | exact st_e (by omega) (st_e (by omega) (by assumption))) ?_)
    refine And.intro (And.intro (by first | assumption | exact b2i_R _ | exact rR (by omega) (by omega) | exact rR (by simp only [Int.toNat_natCast]; omega) (by simp only [Int.toNat_natCast]; omega)) (by first | assumption | exact b2i_R _ | exact rR (by omega) (by omega) | exact rR (by simp only [Int.toNat_natCast]; omega) (by simp only [Int.toNat_natCast]; omega))) (And.intro (fun q => ?_) (fun q => ?_))
    · exact k3 (by omega)
    · refine hA 2 _ rfl _ _ _ _ _ ?_
      exact k4 1 (by rw [decide_eq_true (by omega)]; rfl)
/-- there is such a bitmap of a column -/
def isBm (cc : Nat) (K : Nat → CT) (c p j : Int) : Prop := (0 ≤ c ∧ c < cc) ∧ (1 ≤ p ∧ p ≤ (K c.toNat).2.2.1) ∧ 0 ≤ j ∧ j < nbm (K c.toNat).1 (K c.toNat).2.2.2 (p - 1).toNat
set_option maxRecDepth 100000 in
set_option maxHeartbeats 1000000 in
theorem c_existingBitmap (h0 : σ.2 0 = some (c9 r)) (h3 : σ.2 3 = some (tbc cc rows)) (hC : IsCs σ cc rows K va ad) (k p j : Int) (hk : ab_R k) (hp : ab_R p) (hj : ab_R j) : ab_call 8 3 18 yX9_existingBitmap [rf 0, .inl k, .inl p, .inl j] σ (fun z σ' => (isBm cc K k p j ∧ z = .inl (some (rf (ad k.toNat + 6 + 2 * (fsp (K k.toNat).1 (K k.toNat).2.2.2 (p - 1).toNat + j.toNat)))) ∧ σ' = σ) ∨ (¬ isBm cc K k p j ∧ z = .inr 0 ∧ ∃ q, σ.1 ≤ q ∧ σ' = (q, (ab_st σ 0 (c9 (ab_up r 0 (r 0 + 1)))).2))) := by
  obtain ⟨hcc4, ⟨A, h4, hAd⟩, hcol⟩ := id hC
  refine eX9_existingBitmap rfl (fun At hA => ?_)
  refine hA 0 _ rfl _ _ _ _ _ ?_
  refine Exists.intro _ (And.intro (by first | assumption | exact st_s | exact st_e (by decide) (by assumption) | exact st_e (by omega) (by assumption) | exact st_e (by decide) st_s | exact st_e (by omega) st_s | exact st_e (by decide) (st_e (by decide) (by assumption)) | exact st_e (by omega) (st_e (by omega) (by assumption))) (And.intro rfl (ab_inv_of (c_existingColumn h0 h3 hC k hk) (by first | decide | omega) (by omega) (by omega) ?_)))
  intro r' τ hpost
  rcases hpost with ⟨hb, rfl, rfl⟩ | ⟨hb, rfl, q9, hq9, rfl⟩
  · have hk2 := of_decide_eq_true hb
    obtain ⟨k1, k2, k3, k4, k5, k6⟩ := hcol k.toNat (by omega)
    have k30 := k3.1
    have hp4 := k1.2.1
    refine Exists.intro _ (And.intro (by first | assumption | exact st_s | exact st_e (by decide) (by assumption) | exact st_e (by omega) (by assumption) | exact st_e (by decide) st_s | exact st_e (by omega) st_s | exact st_e (by decide) (st_e (by decide) (by assumption)) | exact st_e (by omega) (st_e (by omega) (by assumption))) (And.intro rfl (ab_inv_ev (c_hasComponent k3 k1 p hp) (by first | decide | omega) (by first | exact Nat.le_refl _ | omega) (by first | exact Nat.le_refl _ | omega) ?_)))
    refine Exists.intro _ (And.intro (by first | assumption | exact st_s | exact st_e (by decide) (by assumption) | exact st_e (by omega) (by assumption) | exact st_e (by decide) st_s | exact st_e (by omega) st_s | exact st_e (by decide) (st_e (by decide) (by assumption)) | exact st_e (by omega) (st_e (by omega) (by assumption))) (And.intro rfl (ab_inv_of (c_needElement h0 (decide (1 ≤ p) && decide (p ≤ ((K k.toNat).2.2.1 : Int)))) (by first | decide | omega) (by omega) (by omega) ?_)))
    intro r' τ hpost
    rcases hpost with ⟨hb2, rfl, rfl⟩ | ⟨hb2, rfl, q9, hq9, rfl⟩
    · rw [Bool.and_eq_true, decide_eq_true_iff, decide_eq_true_iff] at hb2
      have e1 : p - 1 = ((p - 1).toNat : Int) := by omega
      have hnb := nbm_le (rg := (K k.toNat).1) k1.2.2.1 (p - 1).toNat
      have hb9 := k1.2.2.1 (p - 1).toNat
      have hbp := c_bitmapsOfPart k3 k1 (p - 1).toNat (by omega)
      rw [← e1] at hbp
      have k4' : ∀ z : Int, z = b2i (decide (0 ≤ j ∧ j < nbm (K k.toNat).1 (K k.toNat).2.2.2 (p - 1).toNat)) → At 4 [some (rf 0), some (.inl k), some (.inl p), some (.inl j), some (rf (ad k.toNat))] [.inl z, rf 0] τ (0 + 1 + 1) (0 + 6 + 6) := fun z hz => by
        subst hz
        refine hA 4 _ rfl _ _ _ _ _ ?_
        refine Exists.intro _ (And.intro (by first | assumption | exact st_s | exact st_e (by decide) (by assumption) | exact st_e (by omega) (by assumption) | exact st_e (by decide) st_s | exact st_e (by omega) st_s | exact st_e (by decide) (st_e (by decide) (by assumption)) | exact st_e (by omega) (st_e (by omega) (by assumption))) (And.intro rfl (ab_inv_of (c_needElement h0 (decide (0 ≤ j ∧ j < nbm (K k.toNat).1 (K k.toNat).2.2.2 (p - 1).toNat))) (by first | decide | omega) (by omega) (by omega) ?_)))
        intro r' τ2 hpost
        rcases hpost with ⟨hb3, rfl, rfl⟩ | ⟨hb3, rfl, q9, hq9, rfl⟩
        · have hj2 := of_decide_eq_true hb3
          have hba := c_bitmapAt k3 k1 (p - 1).toNat j.toNat (by omega) (by omega)
          rw [← e1, show ((j.toNat : Nat) : Int) = j by omega] at hba
          refine Exists.intro _ (And.intro (by first | assumption | exact st_s | exact st_e (by decide) (by assumption) | exact st_e (by omega) (by assumption) | exact st_e (by decide) st_s | exact st_e (by omega) st_s | exact st_e (by decide) (st_e (by decide) (by assumption)) | exact st_e (by omega) (st_e (by omega) (by assumption))) (And.intro rfl (ab_inv_ev hba (by first | decide | omega) (by first | exact Nat.le_refl _ | omega) (by first | exact Nat.le_refl _ | omega) ?_)))
          exact Or.inl ⟨⟨hk2, hb2, hj2⟩, rfl, rfl⟩
        · exact Or.inr ⟨fun h => of_decide_eq_false hb3 h.2.2, rfl, q9, hq9, rfl⟩
      have k3' : ¬ (0 ≤ j ∧ j < nbm (K k.toNat).1 (K k.toNat).2.2.2 (p - 1).toNat) → At 3 [some (rf 0), some (.inl k), some (.inl p), some (.inl j), some (rf (ad k.toNat))] [rf 0] τ (0 + 1 + 1) (0 + 6 + 6) := fun h => by
        refine hA 3 _ rfl _ _ _ _ _ ?_
        exact k4' 0 (by rw [decide_eq_false h]; rfl)
      refine And.intro (by first | assumption | exact b2i_R _ | exact rR (by omega) (by omega) | exact rR (by simp only [Int.toNat_natCast]; omega) (by simp only [Int.toNat_natCast]; omega)) (And.intro (fun q => ?_) (fun q => ?_))
      · exact k3' (by omega)
      · refine hA 1 _ rfl _ _ _ _ _ ?_
        refine Exists.intro _ (And.intro (by first | assumption | exact st_s | exact st_e (by decide) (by assumption) | exact st_e (by omega) (by assumption) | exact st_e (by decide) st_s | exact st_e (by omega) st_s | exact st_e (by decide) (st_e (by decide) (by assumption)) | exact st_e (by omega) (st_e (by omega) (by assumption))) (And.intro rfl (ab_inv_ev hbp (by first | decide | omega) (by first | exact Nat.le_refl _ | omega) (by first | exact Nat.le_refl _ | omega) ?_)))
        refine And.intro (And.intro (by first | assumption | exact b2i_R _ | exact rR (by omega) (by omega) | exact rR (by simp only [Int.toNat_natCast]; omega) (by simp only [Int.toNat_natCast]; omega)) (by first | assumption | exact b2i_R _ | exact rR (by omega) (by omega) | exact rR (by simp only [Int.toNat_natCast]; omega) (by simp only [Int.toNat_natCast]; omega))) (And.intro (fun q => ?_) (fun q => ?_))
        · exact k3' (by omega)
        · refine hA 2 _ rfl _ _ _ _ _ ?_
          exact k4' 1 (by rw [decide_eq_true (by omega)]; rfl)
    · rw [Bool.and_eq_false_iff, decide_eq_false_iff_not, decide_eq_false_iff_not] at hb2
      exact Or.inr ⟨fun h => by have := h.2.1; omega, rfl, q9, hq9, rfl⟩
  · exact Or.inr ⟨fun h => of_decide_eq_false hb h.1, rfl, q9, hq9, rfl⟩
set_option maxRecDepth 100000 in
set_option maxHeartbeats 1000000 in
theorem c_existingWord (h0 : σ.2 0 = some (c9 r)) (h3 : σ.2 3 = some (tbc cc rows)) (hr : rows ≤ 1500) {h : Nat} {g : V1} (hB : IsB σ h g) (k : Int) (hk : ab_R k) : ab_call 7 1 6 yX9_existingWord [rf 0, rf h, .inl k] σ (exP σ r (decide (0 ≤ k ∧ k < cnt (sw g) (gu rows))) (.inl (wrd g (gu rows) (wps g (gu rows) k.toNat)))) := by
  have hB1 := hB.1
  have hgu := gu_le hr
  have hcw := cnt_le (sw g) (gu rows)
  refine eX9_existingWord rfl (fun At hA => ?_)
  have k4 : ∀ z : Int, z = b2i (decide (0 ≤ k ∧ k < cnt (sw g) (gu rows))) → At 4 [some (rf 0), some (rf h), some (.inl k)] [.inl z, rf 0] σ 0 0 := fun z hz => by
    subst hz
    refine hA 4 _ rfl _ _ _ _ _ ?_
    refine Exists.intro _ (And.intro (by first | assumption | exact st_s | exact st_e (by decide) (by assumption) | exact st_e (by omega) (by assumption) | exact st_e (by decide) st_s | exact st_e (by omega) st_s | exact st_e (by decide) (st_e (by decide) (by assumption)) | exact st_e (by omega) (st_e (by omega) (by assumption))) (And.intro rfl (ab_inv_of (c_needElement h0 (decide (0 ≤ k ∧ k < cnt (sw g) (gu rows)))) (by first | decide | omega) (by omega) (by omega) ?_)))
    intro r' τ hpost
    rcases hpost with ⟨hb, rfl, rfl⟩ | ⟨hb, rfl, q9, hq9, rfl⟩
    · have hk2 := of_decide_eq_true hb
      have hcall := c_wordAt hB k.toNat (gu rows) (by omega) hgu
      rw [show ((k.toNat : Nat) : Int) = k by omega] at hcall
      refine Exists.intro _ (And.intro (by first | assumption | exact st_s | exact st_e (by decide) (by assumption) | exact st_e (by omega) (by assumption) | exact st_e (by decide) st_s | exact st_e (by omega) st_s | exact st_e (by decide) (st_e (by decide) (by assumption)) | exact st_e (by omega) (st_e (by omega) (by assumption))) ?_)
      refine Exists.intro _ (And.intro (by first | assumption | exact st_s | exact st_e (by decide) (by assumption) | exact st_e (by omega) (by assumption) | exact st_e (by decide) st_s | exact st_e (by omega) st_s | exact st_e (by decide) (st_e (by decide) (by assumption)) | exact st_e (by omega) (st_e (by omega) (by assumption))) (And.intro rfl (ab_inv_ev (c_groupsUsed h3 hr) (by first | decide | omega) (by first | exact Nat.le_refl _ | omega) (by first | exact Nat.le_refl _ | omega) ?_)))
      refine Exists.intro _ (And.intro (by first | assumption | exact st_s | exact st_e (by decide) (by assumption) | exact st_e (by omega) (by assumption) | exact st_e (by decide) st_s | exact st_e (by omega) st_s | exact st_e (by decide) (st_e (by decide) (by assumption)) | exact st_e (by omega) (st_e (by omega) (by assumption))) (And.intro rfl (ab_inv_ev hcall (by first | decide | omega) (by first | exact Nat.le_refl _ | omega) (by first | exact Nat.le_refl _ | omega) ?_)))
      exact Or.inl ⟨hb, rfl, rfl⟩
    · exact Or.inr ⟨hb, rfl, q9, hq9, rfl⟩
  have k3 : ¬ (0 ≤ k ∧ k < cnt (sw g) (gu rows)) → At 3 [some (rf 0), some (rf h), some (.inl k)] [rf 0] σ 0 0 := fun h => by
    refine hA 3 _ rfl _ _ _ _ _ ?_
    exact k4 0 (by rw [decide_eq_false h]; rfl)
  refine hA 0 _ rfl _ _ _ _ _ ?_
  refine And.intro (by first | assumption | exact b2i_R _ | exact rR (by omega) (by omega) | exact rR (by simp only [Int.toNat_natCast]; omega) (by simp only [Int.toNat_natCast]; omega)) (And.intro (fun q => ?_) (fun q => ?_))
  · exact k3 (by omega)
  · refine hA 1 _ rfl _ _ _ _ _ ?_
    refine Exists.intro _ (And.intro (by first | assumption | exact st_s | exact st_e (by decide) (by assumption) | exact st_e (by omega) (by assumption) | exact st_e (by decide) st_s | exact st_e (by omega) st_s | exact st_e (by decide) (st_e (by decide) (by assumption)) | exact st_e (by omega) (st_e (by omega) (by assumption))) ?_)
    refine Exists.intro _ (And.intro (by first | assumption | exact st_s | exact st_e (by decide) (by assumption) | exact st_e (by omega) (by assumption) | exact st_e (by decide) st_s | exact st_e (by omega) st_s | exact st_e (by decide) (st_e (by decide) (by assumption)) | exact st_e (by omega) (st_e (by omega) (by assumption))) (And.intro rfl (ab_inv_ev (c_groupsUsed h3 hr) (by first | decide | omega) (by first | exact Nat.le_refl _ | omega) (by first | exact Nat.le_refl _ | omega) ?_)))
    refine Exists.intro _ (And.intro (by first | assumption | exact st_s | exact st_e (by decide) (by assumption) | exact st_e (by omega) (by assumption) | exact st_e (by decide) st_s | exact st_e (by omega) st_s | exact st_e (by decide) (st_e (by decide) (by assumption)) | exact st_e (by omega) (st_e (by omega) (by assumption))) (And.intro rfl (ab_inv_ev (c_wordCount hB (gu rows) hgu) (by first | decide | omega) (by first | exact Nat.le_refl _ | omega) (by first | exact Nat.le_refl _ | omega) ?_)))
    refine And.intro (And.intro (by first | assumption | exact b2i_R _ | exact rR (by omega) (by omega) | exact rR (by simp only [Int.toNat_natCast]; omega) (by simp only [Int.toNat_natCast]; omega)) (by first | assumption | exact b2i_R _ | exact rR (by omega) (by omega) | exact rR (by simp only [Int.toNat_natCast]; omega) (by simp only [Int.toNat_natCast]; omega))) (And.intro (fun q => ?_) (fun q => ?_))
    · exact k3 (by omega)
    · refine hA 2 _ rfl _ _ _ _ _ ?_
      exact k4 1 (by rw [decide_eq_true (by omega)]; rfl)
set_option maxRecDepth 100000 in
set_option maxHeartbeats 1000000 in
theorem c_give (h0 : σ.2 0 = some (c9 r)) {g : Nat → Int} (h55 : σ.2 55 = some (.inr (.inl (0, 4, g)))) (x y z w : Int) : ab_ev 1 yX9_give [rf 0, .inl x, .inl y, .inl z, .inl w] σ none (ab_st σ 55 (.inr (.inl (0, 4, ab_up (ab_up (ab_up (ab_up g 0 x) 1 y) 2 z) 3 w)))) := by
  refine eX9_give rfl (fun At hA => ?_)
  refine hA 0 _ rfl _ _ _ _ _ ?_
  refine Exists.intro _ (And.intro (by first | assumption | exact st_s | exact st_e (by decide) (by assumption) | exact st_e (by omega) (by assumption) | exact st_e (by decide) st_s | exact st_e (by omega) st_s | exact st_e (by decide) (st_e (by decide) (by assumption)) | exact st_e (by omega) (st_e (by omega) (by assumption))) ?_)
  refine Exists.intro _ (Exists.intro _ (And.intro (by first | assumption | exact st_s | exact st_e (by decide) (by assumption) | exact st_e (by omega) (by assumption) | exact st_e (by decide) st_s | exact st_e (by omega) st_s | exact st_e (by decide) (st_e (by decide) (by assumption)) | exact st_e (by omega) (st_e (by omega) (by assumption))) (And.intro (by first | omega | (simp only [Int.toNat_natCast]; omega)) ?_)))
  refine Exists.intro _ (And.intro (by first | assumption | exact st_s | exact st_e (by decide) (by assumption) | exact st_e (by omega) (by assumption) | exact st_e (by decide) st_s | exact st_e (by omega) st_s | exact st_e (by decide) (st_e (by decide) (by assumption)) | exact st_e (by omega) (st_e (by omega) (by assumption))) ?_)
  refine Exists.intro _ (Exists.intro _ (And.intro (by first | assumption | exact st_s | exact st_e (by decide) (by assumption) | exact st_e (by omega) (by assumption) | exact st_e (by decide) st_s | exact st_e (by omega) st_s | exact st_e (by decide) (st_e (by decide) (by assumption)) | exact st_e (by omega) (st_e (by omega) (by assumption))) (And.intro (by first | omega | (simp only [Int.toNat_natCast]; omega)) ?_)))
  refine Exists.intro _ (And.intro (by first | assumption | exact st_s | exact st_e (by decide) (by assumption) | exact st_e (by omega) (by assumption) | exact st_e (by decide) st_s | exact st_e (by omega) st_s | exact st_e (by decide) (st_e (by decide) (by assumption)) | exact st_e (by omega) (st_e (by omega) (by assumption))) ?_)
  refine Exists.intro _ (Exists.intro _ (And.intro (by first | assumption | exact st_s | exact st_e (by decide) (by assumption) | exact st_e (by omega) (by assumption) | exact st_e (by decide) st_s | exact st_e (by omega) st_s | exact st_e (by decide) (st_e (by decide) (by assumption)) | exact st_e (by omega) (st_e (by omega) (by assumption))) (And.intro (by first | omega | (simp only [Int.toNat_natCast]; omega)) ?_)))
  refine Exists.intro _ (And.intro (by first | assumption | exact st_s | exact st_e (by decide) (by assumption) | exact st_e (by omega) (by assumption) | exact st_e (by decide) st_s | exact st_e (by omega) st_s | exact st_e (by decide) (st_e (by decide) (by assumption)) | exact st_e (by omega) (st_e (by omega) (by assumption))) ?_)
  refine Exists.intro _ (Exists.intro _ (And.intro (by first | assumption | exact st_s | exact st_e (by decide) (by assumption) | exact st_e (by omega) (by assumption) | exact st_e (by decide) st_s | exact st_e (by omega) st_s | exact st_e (by decide) (st_e (by decide) (by assumption)) | exact st_e (by omega) (st_e (by omega) (by assumption))) (And.intro (by first | omega | (simp only [Int.toNat_natCast]; omega)) ?_)))
  refine ⟨rfl, ?_⟩
  rw [st_st, st_st, st_st]
  rfl
set_option maxRecDepth 100000 in
set_option maxHeartbeats 1000000 in
theorem c_tallyValues (hI : CI σ cc rows K va ad R f n pl c r) (k res : Int) (hk : ab_R k) (hres : ab_R res) : ab_call 8 2 12 yX9_tallyValues [rf 0, .inl k, .inl res] σ (fun z σ' => (((0 ≤ k ∧ k < cc) ∧ 0 ≤ res ∧ res ≤ 6) ∧ z = .inl none ∧ σ' = ab_st σ 8 (ints 200 (tly (R res.toNat) (va k.toNat) rows))) ∨ (¬ ((0 ≤ k ∧ k < cc) ∧ 0 ≤ res ∧ res ≤ 6) ∧ z = .inr 0 ∧ ∃ q, σ.1 ≤ q ∧ σ' = (q, (ab_st σ 0 (c9 (ab_up r 0 (r 0 + 1)))).2))) := by
  obtain ⟨h0, -, ⟨h3, hr, h5, hC, hR, -⟩, ⟨-, ⟨t, h8⟩, -⟩, -⟩ := id hI
  obtain ⟨hcc4, ⟨A, h4, hAd⟩, hcol⟩ := id hC
  refine eX9_tallyValues rfl (fun At hA => ?_)
  refine hA 0 _ rfl _ _ _ _ _ ?_
  refine Exists.intro _ (And.intro (by first | assumption | exact st_s | exact st_e (by decide) (by assumption) | exact st_e (by omega) (by assumption) | exact st_e (by decide) st_s | exact st_e (by omega) st_s | exact st_e (by decide) (st_e (by decide) (by assumption)) | exact st_e (by omega) (st_e (by omega) (by assumption))) (And.intro rfl (ab_inv_of (c_existingColumn h0 h3 hC k hk) (by first | decide | omega) (by omega) (by omega) ?_)))
  intro r' τ hpost
  rcases hpost with ⟨hb, rfl, rfl⟩ | ⟨hb, rfl, q9, hq9, rfl⟩
  · have hk2 := of_decide_eq_true hb
    obtain ⟨k1, k2, k3, k4, k5, k6⟩ := hcol k.toNat (by omega)
    refine Exists.intro _ (And.intro (by first | assumption | exact st_s | exact st_e (by decide) (by assumption) | exact st_e (by omega) (by assumption) | exact st_e (by decide) st_s | exact st_e (by omega) st_s | exact st_e (by decide) (st_e (by decide) (by assumption)) | exact st_e (by omega) (st_e (by omega) (by assumption))) ?_)
    refine Exists.intro _ (And.intro (by first | assumption | exact st_s | exact st_e (by decide) (by assumption) | exact st_e (by omega) (by assumption) | exact st_e (by decide) st_s | exact st_e (by omega) st_s | exact st_e (by decide) (st_e (by decide) (by assumption)) | exact st_e (by omega) (st_e (by omega) (by assumption))) (And.intro rfl (ab_inv_of (c_existingResult h0 h3 h5 res hres) (by first | decide | omega) (by omega) (by omega) ?_)))
    intro r' τ2 hpost
    rcases hpost with ⟨hb2, rfl, rfl⟩ | ⟨hb2, rfl, q9, hq9, rfl⟩
    · have hr2 := of_decide_eq_true hb2
      refine Exists.intro _ (And.intro (by first | assumption | exact st_s | exact st_e (by decide) (by assumption) | exact st_e (by omega) (by assumption) | exact st_e (by decide) st_s | exact st_e (by omega) st_s | exact st_e (by decide) (st_e (by decide) (by assumption)) | exact st_e (by omega) (st_e (by omega) (by assumption))) (And.intro rfl (ab_inv_ev (c_tallyOf h3 hr h8 k3 (hR res.toNat (by omega)) (by omega) (by omega) k2) (by first | decide | omega) (by first | exact Nat.le_refl _ | omega) (by first | exact Nat.le_refl _ | omega) ?_)))
      exact Or.inl ⟨⟨hk2, hr2⟩, rfl, rfl⟩
    · exact Or.inr ⟨fun h => of_decide_eq_false hb2 h.2, rfl, q9, hq9, rfl⟩
  · exact Or.inr ⟨fun h => of_decide_eq_false hb h.1, rfl, q9, hq9, rfl⟩
end Face1
