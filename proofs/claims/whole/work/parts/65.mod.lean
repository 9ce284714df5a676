-- ===== the model: words =====
section Mod
variable {σ : ab_H}
def sort3 (z : Nat) : Nat := if z = 0 then 0 else if z = 32767 then 1 else 2
set_option maxRecDepth 100000 in
set_option maxHeartbeats 1000000 in
theorem m_less (a b : Int) (ha : ab_R a) (hb : ab_R b) : ab_ev 1 yX10_less [.inl a, .inl b] σ (some (.inl (if b ≤ a then b else a))) σ := by
  refine eX10_less rfl (fun At hA => ?_)
  refine hA 0 _ rfl _ _ _ _ _ ?_
  refine And.intro (And.intro (by first | assumption | exact b2i_R _ | exact rR (by omega) (by omega) | exact rR (by simp only [Int.toNat_natCast]; omega) (by simp only [Int.toNat_natCast]; omega)) (by first | assumption | exact b2i_R _ | exact rR (by omega) (by omega) | exact rR (by simp only [Int.toNat_natCast]; omega) (by simp only [Int.toNat_natCast]; omega))) (And.intro (fun q => ?_) (fun q => ?_))
  · refine hA 2 _ rfl _ _ _ _ _ ?_
    refine hA 3 _ rfl _ _ _ _ _ ?_
    rw [if_pos (by omega)]
    exact ⟨rfl, rfl⟩
  · refine hA 1 _ rfl _ _ _ _ _ ?_
    refine hA 3 _ rfl _ _ _ _ _ ?_
    rw [if_neg (by omega)]
    exact ⟨rfl, rfl⟩
set_option maxRecDepth 100000 in
set_option maxHeartbeats 1000000 in
theorem m_more (a b : Int) (ha : ab_R a) (hb : ab_R b) : ab_ev 1 yX10_more [.inl a, .inl b] σ (some (.inl (if a ≤ b then b else a))) σ := by
  refine eX10_more rfl (fun At hA => ?_)
  refine hA 0 _ rfl _ _ _ _ _ ?_
  refine And.intro (And.intro (by first | assumption | exact b2i_R _ | exact rR (by omega) (by omega) | exact rR (by simp only [Int.toNat_natCast]; omega) (by simp only [Int.toNat_natCast]; omega)) (by first | assumption | exact b2i_R _ | exact rR (by omega) (by omega) | exact rR (by simp only [Int.toNat_natCast]; omega) (by simp only [Int.toNat_natCast]; omega))) (And.intro (fun q => ?_) (fun q => ?_))
  · refine hA 2 _ rfl _ _ _ _ _ ?_
    refine hA 3 _ rfl _ _ _ _ _ ?_
    rw [if_pos (by omega)]
    exact ⟨rfl, rfl⟩
  · refine hA 1 _ rfl _ _ _ _ _ ?_
    refine hA 3 _ rfl _ _ _ _ _ ?_
    rw [if_neg (by omega)]
    exact ⟨rfl, rfl⟩
set_option maxRecDepth 100000 in
set_option maxHeartbeats 1000000 in
theorem m_in (v a b : Int) (hv : ab_R v) (ha : ab_R a) (hb : ab_R b) : ab_ev 1 yX10_in [.inl v, .inl a, .inl b] σ (some (.inl (b2i (decide (a ≤ v ∧ v ≤ b))))) σ := by
  refine eX10_in rfl (fun At hA => ?_)
  have no : ¬ (a ≤ v ∧ v ≤ b) → At 3 [some (.inl v), some (.inl a), some (.inl b)] [] σ 0 0 := fun h => by
    refine hA 3 _ rfl _ _ _ _ _ ?_
    refine hA 4 _ rfl _ _ _ _ _ ?_
    refine And.intro (by first | exact Or.inl rfl | exact Or.inr rfl | exact b2i_01 _) ?_
    rw [decide_eq_false h]
    exact ⟨rfl, rfl⟩
  refine hA 0 _ rfl _ _ _ _ _ ?_
  refine And.intro (And.intro (by first | assumption | exact b2i_R _ | exact rR (by omega) (by omega) | exact rR (by simp only [Int.toNat_natCast]; omega) (by simp only [Int.toNat_natCast]; omega)) (by first | assumption | exact b2i_R _ | exact rR (by omega) (by omega) | exact rR (by simp only [Int.toNat_natCast]; omega) (by simp only [Int.toNat_natCast]; omega))) (And.intro (fun q => ?_) (fun q => ?_))
  · exact no (by omega)
  · refine hA 1 _ rfl _ _ _ _ _ ?_
    refine And.intro (And.intro (by first | assumption | exact b2i_R _ | exact rR (by omega) (by omega) | exact rR (by simp only [Int.toNat_natCast]; omega) (by simp only [Int.toNat_natCast]; omega)) (by first | assumption | exact b2i_R _ | exact rR (by omega) (by omega) | exact rR (by simp only [Int.toNat_natCast]; omega) (by simp only [Int.toNat_natCast]; omega))) (And.intro (fun q => ?_) (fun q => ?_))
    · exact no (by omega)
    · refine hA 2 _ rfl _ _ _ _ _ ?_
      refine hA 4 _ rfl _ _ _ _ _ ?_
      refine And.intro (by first | exact Or.inl rfl | exact Or.inr rfl | exact b2i_01 _) ?_
      rw [decide_eq_true (show a ≤ v ∧ v ≤ b by omega)]
      exact ⟨rfl, rfl⟩
set_option maxRecDepth 100000 in
set_option maxHeartbeats 1000000 in
theorem m_sort {h i N : Nat} {g : Nat → Nat} (hh : σ.2 h = some (.inr (.inl (0, N, fun i => ((g i : Nat) : Int))))) (hi : i < N) (hN : N < 100000) (hg : g i < 32768) : ab_ev 1 yX10_sort [rf h, .inl i] σ (some (.inl (sort3 (g i)))) σ := by
  have hR : ab_R (g i : Int) := rR (by omega) (by omega)
  have hR' : ab_R ((g ((i : Nat) : Int).toNat : Nat) : Int) := hR
  have ei : g ((i : Nat) : Int).toNat = g i := rfl
  unfold sort3
  refine eX10_sort rfl (fun At hA => ?_)
  refine hA 0 _ rfl _ _ _ _ _ ?_
  refine Exists.intro _ (Exists.intro _ (And.intro (hh) (And.intro (by omega) ?_)))
  refine And.intro hR (And.intro (fun q => ?_) (fun q => ?_))
  · have q : ¬ ((g i : Nat) : Int) = 0 := q
    refine hA 2 _ rfl _ _ _ _ _ ?_
    refine Exists.intro _ (Exists.intro _ (And.intro (hh) (And.intro (by omega) ?_)))
    refine And.intro (And.intro hR (rR (by omega) (by omega))) (And.intro (fun q => ?_) (fun q => ?_))
    · have q2 : ¬ ((g i : Nat) : Int) = 32767 := q
      refine hA 4 _ rfl _ _ _ _ _ ?_
      refine hA 5 _ rfl _ _ _ _ _ ?_
      rw [if_neg (by omega), if_neg (by omega)]
      exact ⟨rfl, rfl⟩
    · have q2 : ((g i : Nat) : Int) = 32767 := q
      refine hA 3 _ rfl _ _ _ _ _ ?_
      refine hA 5 _ rfl _ _ _ _ _ ?_
      rw [if_neg (by omega), if_pos (by omega)]
      exact ⟨rfl, rfl⟩
  · have q : ((g i : Nat) : Int) = 0 := q
    refine hA 1 _ rfl _ _ _ _ _ ?_
    refine hA 5 _ rfl _ _ _ _ _ ?_
    rw [if_pos (by omega)]
    exact ⟨rfl, rfl⟩
end Mod
