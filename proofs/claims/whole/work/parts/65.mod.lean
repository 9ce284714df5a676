-- ===== the model: words =====
section Mod
variable {σ : ab_H}
def sort3 (z : Nat) : Nat := if z = 0 then 0 else if z = 32767 then 1 else 2
set_option maxRecDepth 100000 in
set_option maxHeartbeats 1000000 in
theorem m_less (a b : Int) (ha : ab_R a) (hb : ab_R b) : ab_ev 1 yX10_less [.inl a, .inl b] σ (some (.inl (if b ≤ a then b else a))) σ := by
  refine eX10_less rfl (fun At hA => ?_)
  refine hA 0 _ rfl _ _ _ _ _ ?_
  refine And.intro (And.intro (by first | assumption | exact b2i_R _ | exact rR (by omega) (by omega) | exact rR (by simp only [Int.toNat_natCast]; omega) (by simp only [Int.toNat_natCast]; omega)) (by first | assumption | exact b2i_R _ | exact rR (by omega) (by omega) | exact rR (by simp only [Int.toNat_natCast]; omega) (by simp only [Int.toNat_natCast]; omega))) (And.intro (fun q => ?_) (fun q => ?_))
  · refine hA 2 _ rfl _ _ _ _ _ ?_
    refine hA 3 _ rfl _ _ _ _ _ ?_
    rw [if_pos (by omega)]
    exact ⟨rfl, rfl⟩
  · refine hA 1 _ rfl _ _ _ _ _ ?_
    refine hA 3 _ rfl _ _ _ _ _ ?_
    rw [if_neg (by omega)]
    exact ⟨rfl, rfl⟩
set_option maxRecDepth 100000 in
set_option maxHeartbeats 1000000 in
theorem m_more (a b : Int) (ha : ab_R a) (hb : ab_R b) : ab_ev 1 yX10_more [.inl a, .inl b] σ (some (.inl (if a ≤ b then b else a))) σ := by
  refine eX10_more rfl (fun At hA => ?_)
  refine hA 0 _ rfl _ _ _ _ _ ?_
  refine And.intro (And.intro (by first | assumption | exact b2i_R _ | exact rR (by omega) (by omega) | exact rR (by simp only [Int.toNat_natCast]; omega) (by simp only [Int.toNat_natCast]; omega)) (by first | assumption | exact b2i_R _ | exact rR (by omega) (by omega) | exact rR (by simp only [Int.toNat_natCast]; omega) (by simp only [Int.toNat_natCast]; omega))) (And.intro (fun q => ?_) (fun q => ?_))
  · refine hA 2 _ rfl _ _ _ _ _ ?_
    refine hA 3 _ rfl _ _ _ _ _ ?_
    rw [if_pos (by omega)]
    exact ⟨rfl, rfl⟩
  · refine hA 1 _ rfl _ _ _ _ _ ?_
    refine hA 3 _ rfl _ _ _ _ _ ?_
    rw [if_neg (by omega)]
    exact ⟨rfl, rfl⟩
set_option maxRecDepth 100000 in
set_option maxHeartbeats 1000000 in
theorem m_in (v a b : Int) (hv : ab_R v) (ha : ab_R a) (hb : ab_R b) : ab_ev 1 yX10_in [.inl v, .inl a, .inl b] σ (some (.inl (b2i (decide (a ≤ v ∧ v ≤ b))))) σ := by
  refine eX10_in rfl (fun At hA => ?_)
  have no : ¬ (a ≤ v ∧ v ≤ b) → At 3 [some (.inl v), some (.inl a), some (.inl b)] [] σ 0 0 := fun h => by
    refine hA 3 _ rfl _ _ _ _ _ ?_
    refine hA 4 _ rfl _ _ _ _ _ ?_
    refine And.intro (by first | exact Or.inl rfl | exact Or.inr rfl | exact b2i_01 _) ?_
    rw [decide_eq_false h]
    exact ⟨rfl, rfl⟩
  refine hA 0 _ rfl _ _ _ _ _ ?_
  refine And.intro (And.intro (by first | assumption | exact b2i_R _ | exact rR (by omega) (by omega) | exact rR (by simp only [Int.toNat_natCast]; omega) (by simp only [Int.toNat_natCast]; omega)) (by first | assumption | exact b2i_R _ | exact rR (by omega) (by omega) | exact rR (by simp only [Int.toNat_natCast]; omega) (by simp only [Int.toNat_natCast]; omega))) (And.intro (fun q => ?_) (fun q => ?_))
  · exact no (by omega)
  · refine hA 1 _ rfl _ _ _ _ _ ?_
    refine And.intro (And.intro (by first | assumption | exact b2i_R _ | exact rR (by omega) (by omega) | exact rR (by simp only [Int.toNat_natCast]; omega) (by simp only [Int.toNat_natCast]; omega)) (by first | assumption | exact b2i_R _ | exact rR (by omega) (by omega) | exact rR (by simp only [Int.toNat_natCast]; omega) (by simp only [Int.toNat_natCast]; omega))) (And.intro (fun q => ?_) (fun q => ?_))
    · exact no (by omega)
    · refine hA 2 _ rfl _ _ _ _ _ ?_
      refine hA 4 _ rfl _ _ _ _ _ ?_
      refine And.intro (by first | exact Or.inl rfl | exact Or.inr rfl | exact b2i_01 _) ?_
      rw [decide_eq_true (show a ≤ v ∧ v ≤ b by omega)]
      exact ⟨rfl, rfl⟩
set_option maxRecDepth 100000 in
set_option maxHeartbeats 1000000 in
theorem m_sort {h i N : Nat} {g : Nat → Nat} (hh : σ.2 h = some (.inr (.inl (0, N, fun i => ((g i : Nat) : Int))))) (hi : i < N) (hN : N < 100000) (hg : g i < 32768) : ab_ev 1 yX10_sort [rf h, .inl i] σ (some (.inl (sort3 (g i)))) σ := by
  have hR : ab_R (g i : Int) := rR (by omega) (by omega)
  have hR' : ab_R ((g ((i : Nat) : Int).toNat : Nat) : Int) := hR
  have ei : g ((i : Nat) : Int).toNat = g i := rfl
  unfold sort3
  refine eX10_sort rfl (fun At hA => ?_)
  refine hA 0 _ rfl _ _ _ _ _ ?_
  refine Exists.intro _ (Exists.intro _ (And.intro (hh) (And.intro (by omega) ?_)))
  refine And.intro hR (And.intro (fun q => ?_) (fun q => ?_))
  · have q : ¬ ((g i : Nat) : Int) = 0 := q
    refine hA 2 _ rfl _ _ _ _ _ ?_
    refine Exists.intro _ (Exists.intro _ (And.intro (hh) (And.intro (by omega) ?_)))
    refine And.intro (And.intro hR (rR (by omega) (by omega))) (And.intro (fun q => ?_) (fun q => ?_))
    · have q2 : ¬ ((g i : Nat) : Int) = 32767 := q
      refine hA 4 _ rfl _ _ _ _ _ ?_
      refine hA 5 _ rfl _ _ _ _ _ ?_
      rw [if_neg (by omega), if_neg (by omega)]
      exact ⟨rfl, rfl⟩
    · have q2 : ((g i : Nat) : Int) = 32767 := q
      refine hA 3 _ rfl _ _ _ _ _ ?_
      refine hA 5 _ rfl _ _ _ _ _ ?_
      rw [if_neg (by omega), if_pos (by omega)]
      exact ⟨rfl, rfl⟩
  · have q : ((g i : Nat) : Int) = 0 := q
    refine hA 1 _ rfl _ _ _ _ _ ?_
    refine hA 5 _ rfl _ _ _ _ _ ?_
    rw [if_pos (by omega)]
    exact ⟨rfl, rfl⟩
set_option maxRecDepth 100000 in
set_option maxHeartbeats 1000000 in
theorem m_joined (k a b : Nat) (hk : k < 4) (ha : a < 32768) (hb : b < 32768) : ab_ev 1 yX10_joined [.inl k, .inl a, .inl b] σ (some (.inl (jo k a b))) σ := by
  have e0 : ab_and (a : Int) (b : Int) = ((a &&& b : Nat) : Int) := nb_and (by omega) (by omega)
  have e1 : ab_or (a : Int) (b : Int) = ((a ||| b : Nat) : Int) := nb_or (by omega) (by omega)
  have e2 : ab_xor (a : Int) (b : Int) = ((a ^^^ b : Nat) : Int) := nb_xor (by omega) (by omega)
  have e3 : ab_and (a : Int) (ab_xor b (-1)) = ((wo a b : Nat) : Int) := nb_not (by omega) (by omega)
  refine eX10_joined rfl (fun At hA => ?_)
  refine hA 0 _ rfl _ _ _ _ _ ?_
  refine And.intro (by first | assumption | exact b2i_R _ | exact rR (by omega) (by omega) | exact rR (by simp only [Int.toNat_natCast]; omega) (by simp only [Int.toNat_natCast]; omega)) (And.intro (fun q => ?_) (fun q => ?_))
  · refine hA 2 _ rfl _ _ _ _ _ ?_
    refine And.intro (And.intro (by first | assumption | exact b2i_R _ | exact rR (by omega) (by omega) | exact rR (by simp only [Int.toNat_natCast]; omega) (by simp only [Int.toNat_natCast]; omega)) (by first | assumption | exact b2i_R _ | exact rR (by omega) (by omega) | exact rR (by simp only [Int.toNat_natCast]; omega) (by simp only [Int.toNat_natCast]; omega))) (And.intro (fun q => ?_) (fun q => ?_))
    · refine hA 4 _ rfl _ _ _ _ _ ?_
      refine And.intro (And.intro (by first | assumption | exact b2i_R _ | exact rR (by omega) (by omega) | exact rR (by simp only [Int.toNat_natCast]; omega) (by simp only [Int.toNat_natCast]; omega)) (by first | assumption | exact b2i_R _ | exact rR (by omega) (by omega) | exact rR (by simp only [Int.toNat_natCast]; omega) (by simp only [Int.toNat_natCast]; omega))) (And.intro (fun q => ?_) (fun q => ?_))
      · have hk3 : k = 3 := by omega
        subst hk3
        refine hA 6 _ rfl _ _ _ _ _ ?_
        refine hA 7 _ rfl _ _ _ _ _ ?_
        exact ⟨by rw [e3]; rfl, rfl⟩
      · have hk3 : k = 2 := by omega
        subst hk3
        refine hA 5 _ rfl _ _ _ _ _ ?_
        refine hA 7 _ rfl _ _ _ _ _ ?_
        exact ⟨by rw [e2]; rfl, rfl⟩
    · have hk3 : k = 1 := by omega
      subst hk3
      refine hA 3 _ rfl _ _ _ _ _ ?_
      refine hA 7 _ rfl _ _ _ _ _ ?_
      exact ⟨by rw [e1]; rfl, rfl⟩
  · have hk3 : k = 0 := by omega
    subst hk3
    refine hA 1 _ rfl _ _ _ _ _ ?_
    refine hA 7 _ rfl _ _ _ _ _ ?_
    exact ⟨by rw [e0]; rfl, rfl⟩
theorem pop_0 {z : Nat} : ∀ (m i : Nat), z / 2 ^ i = 0 → pop z (i + m) = pop z i := by
  intro m
  induction m with
  | zero => intro i _; rfl
  | succ m ih =>
    intro i h
    show pop z (i + m) + (z.testBit (i + m)).toNat = _
    have h2 : z.testBit (i + m) = false := by
      refine Nat.testBit_lt_two_pow ?_
      rcases Nat.lt_or_ge z (2 ^ i) with h3 | h3
      · exact Nat.lt_of_lt_of_le h3 (Nat.pow_le_pow_right (by omega) (by omega))
      · have := Nat.div_pos h3 (Nat.pow_pos (by omega))
        omega
    rw [h2, ih i h]
    rfl
set_option maxRecDepth 100000 in
set_option maxHeartbeats 1000000 in
theorem m_ones (z : Nat) (hz : z < 32768) : ab_ev 1 yX10_ones [.inl z] σ (some (.inl (pop z 15))) σ := by
  refine eX10_ones rfl (fun At hA => ?_)
  have loop : ∀ (m i : Nat), i + m = 15 → At 1 [some (.inl z), some (.inl (pop z i)), some (.inl ((z / 2 ^ i : Nat) : Int))] [] σ 0 0 := by
    have hd : ∀ i : Nat, z / 2 ^ i ≤ z := fun i => Nat.div_le_self _ _
    intro m
    induction m with
    | zero =>
      intro i hi
      have hi : i = 15 := by omega
      subst hi
      have h0 : z / 2 ^ 15 = 0 := by omega
      rw [h0]
      refine hA 1 _ rfl _ _ _ _ _ ?_
      refine And.intro (by first | assumption | exact b2i_R _ | exact rR (by omega) (by omega) | exact rR (by simp only [Int.toNat_natCast]; omega) (by simp only [Int.toNat_natCast]; omega)) (And.intro (fun q => ?_) (fun q => ?_))
      · refine hA 3 _ rfl _ _ _ _ _ ?_
        exact ⟨rfl, rfl⟩
      · exact absurd q (by decide)
    | succ m ih =>
      intro i hi
      have hdi := hd i
      have h1 := ih (i + 1) (by omega)
      have hz2 : z / 2 ^ (i + 1) = z / 2 ^ i / 2 := by rw [Nat.pow_succ, ← Nat.div_div_eq_div_mul]
      have hp : pop z (i + 1) = pop z i + (z.testBit i).toNat := rfl
      have hb := bc_q z i
      have hp0 : z / 2 ^ i = 0 → pop z 15 = pop z i := fun h => by
        have := pop_0 (m + 1) i h
        rw [hi] at this
        exact this
      rw [hz2, hp, hb] at h1
      generalize z / 2 ^ i = w at hdi h1 hp0
      refine hA 1 _ rfl _ _ _ _ _ ?_
      refine And.intro (by first | assumption | exact b2i_R _ | exact rR (by omega) (by omega) | exact rR (by simp only [Int.toNat_natCast]; omega) (by simp only [Int.toNat_natCast]; omega)) (And.intro (fun q => ?_) (fun q => ?_))
      · have hq : w = 0 := by omega
        refine hA 3 _ rfl _ _ _ _ _ ?_
        rw [hp0 hq]
        exact ⟨rfl, rfl⟩
      · have e1 : ab_and ((w : Nat) : Int) 1 = ((w % 2 : Nat) : Int) := by
          rw [← Nat.and_one_is_mod]
          exact nb_and (b := 1) (by omega) (by omega)
        have e2 : ab_shr ((w : Nat) : Int) 1 = ((w / 2 : Nat) : Int) := nb_shr (k := 1) (by omega) (by omega)
        have e3 : ((pop z i : Nat) : Int) + ab_and ((w : Nat) : Int) 1 = ((pop z i + w % 2 : Nat) : Int) := by
          rw [e1]
          omega
        refine hA 2 _ rfl _ _ _ _ _ ?_
        rw [← e3, ← e2] at h1
        exact h1
  have h1 := loop 15 0 rfl
  rw [Nat.pow_zero, Nat.div_one] at h1
  refine hA 0 _ rfl _ _ _ _ _ ?_
  exact h1
end Mod
