-- ===== the model: arrays of words =====
section Mjn
variable {σ : ab_H}
/-- reading an array that may be the one that is being written -/
theorem mix_rw {c a : Nat} {o f u : Nat → Nat} {i : Nat} (hB : σ.2 c = some (bmc o)) (hA : σ.2 a = some (bmc f)) : ∃ x : Nat → Int, (ab_st σ c (bmc (mix i u o))).2 a = some (.inr (.inl (0, 100, x))) ∧ x i = ((f i : Nat) : Int) := by
  by_cases e : a = c
  · subst e
    refine ⟨_, st_s, ?_⟩
    have e2 := hA.symm.trans hB
    injection e2 with e2
    have e3 : (fun i => ((f i : Nat) : Int)) = fun i => ((o i : Nat) : Int) := by
      injection e2 with e2
      injection e2 with e2
      injection e2 with e4 e2
      injection e2
    have e4 := congrFun e3 i
    show ((mix i u o i : Nat) : Int) = _
    rw [mix_ge (Nat.le_refl i)]
    exact e4.symm
  · exact ⟨_, st_e e hA, rfl⟩
set_option maxRecDepth 100000 in
set_option maxHeartbeats 1000000 in
theorem m_empties {c : Nat} {o : Nat → Nat} (h : σ.2 c = some (bmc o)) : ab_ev 1 yX10_empties [rf c] σ none (ab_st σ c (bmc (fun _ => 0))) := by
  refine hq_ev (σ' := ab_st σ c (bmc (mix 100 (fun _ => 0) o))) ?_ mix_q
  refine eX10_empties rfl (fun At hA => ?_)
  have loop : ∀ n i : Nat, i + n = 100 → At 1 [some (rf c), some (.inl i)] [] (ab_st σ c (bmc (mix i (fun _ => 0) o))) 0 0 := by
    intro n
    induction n with
    | zero =>
      intro i hi
      refine hA 1 _ rfl _ _ _ _ _ ?_
      refine And.intro (And.intro (by first | assumption | exact b2i_R _ | exact rR (by omega) (by omega) | exact rR (by simp only [Int.toNat_natCast]; omega) (by simp only [Int.toNat_natCast]; omega)) (by first | assumption | exact b2i_R _ | exact rR (by omega) (by omega) | exact rR (by simp only [Int.toNat_natCast]; omega) (by simp only [Int.toNat_natCast]; omega))) (And.intro (fun q => ?_) (fun q => ?_))
      · refine hA 3 _ rfl _ _ _ _ _ ?_
        exact ⟨rfl, by rw [show i = 100 by omega]⟩
      · omega
    | succ n ih =>
      intro i hi
      refine hA 1 _ rfl _ _ _ _ _ ?_
      refine And.intro (And.intro (by first | assumption | exact b2i_R _ | exact rR (by omega) (by omega) | exact rR (by simp only [Int.toNat_natCast]; omega) (by simp only [Int.toNat_natCast]; omega)) (by first | assumption | exact b2i_R _ | exact rR (by omega) (by omega) | exact rR (by simp only [Int.toNat_natCast]; omega) (by simp only [Int.toNat_natCast]; omega))) (And.intro (fun q => ?_) (fun q => ?_))
      · omega
      · have := ih (i + 1) (by omega)
        rw [show ab_st σ c (bmc (mix (i + 1) (fun _ => 0) o)) = ab_st (ab_st σ c (bmc (mix i (fun _ => 0) o))) c (.inr (.inl (0, 100, ab_up (fun j => ((mix i (fun _ => 0) o j : Nat) : Int)) i 0))) by rw [st_st, mix_s i (fun _ => 0) o 0 rfl]] at this
        refine hA 2 _ rfl _ _ _ _ _ ?_
        refine Exists.intro _ (Exists.intro _ (And.intro (st_s) (And.intro (by omega) ?_)))
        exact this
  refine hA 0 _ rfl _ _ _ _ _ ?_
  have := loop 100 0 rfl
  rw [mix_0, st_id h] at this
  exact this
set_option maxRecDepth 100000 in
set_option maxHeartbeats 1000000 in
theorem m_copies {c a : Nat} {o f : Nat → Nat} (h : σ.2 c = some (bmc o)) (ha : σ.2 a = some (bmc f)) : ab_ev 1 yX10_copies [rf a, rf c] σ none (ab_st σ c (bmc f)) := by
  refine hq_ev (σ' := ab_st σ c (bmc (mix 100 f o))) ?_ mix_q
  refine eX10_copies rfl (fun At hA => ?_)
  have loop : ∀ n i : Nat, i + n = 100 → At 1 [some (rf a), some (rf c), some (.inl i)] [] (ab_st σ c (bmc (mix i f o))) 0 0 := by
    intro n
    induction n with
    | zero =>
      intro i hi
      refine hA 1 _ rfl _ _ _ _ _ ?_
      refine And.intro (And.intro (by first | assumption | exact b2i_R _ | exact rR (by omega) (by omega) | exact rR (by simp only [Int.toNat_natCast]; omega) (by simp only [Int.toNat_natCast]; omega)) (by first | assumption | exact b2i_R _ | exact rR (by omega) (by omega) | exact rR (by simp only [Int.toNat_natCast]; omega) (by simp only [Int.toNat_natCast]; omega))) (And.intro (fun q => ?_) (fun q => ?_))
      · refine hA 3 _ rfl _ _ _ _ _ ?_
        exact ⟨rfl, by rw [show i = 100 by omega]⟩
      · omega
    | succ n ih =>
      intro i hi
      refine hA 1 _ rfl _ _ _ _ _ ?_
      refine And.intro (And.intro (by first | assumption | exact b2i_R _ | exact rR (by omega) (by omega) | exact rR (by simp only [Int.toNat_natCast]; omega) (by simp only [Int.toNat_natCast]; omega)) (by first | assumption | exact b2i_R _ | exact rR (by omega) (by omega) | exact rR (by simp only [Int.toNat_natCast]; omega) (by simp only [Int.toNat_natCast]; omega))) (And.intro (fun q => ?_) (fun q => ?_))
      · omega
      · obtain ⟨x, r2, r3⟩ := mix_rw (i := i) (u := f) h ha
        have := ih (i + 1) (by omega)
        rw [show ab_st σ c (bmc (mix (i + 1) f o)) = ab_st (ab_st σ c (bmc (mix i f o))) c (.inr (.inl (0, 100, ab_up (fun j => ((mix i f o j : Nat) : Int)) i (x i)))) by rw [st_st, mix_s i f o (x i) r3]] at this
        refine hA 2 _ rfl _ _ _ _ _ ?_
        refine Exists.intro _ (Exists.intro _ (And.intro (r2) (And.intro (by omega) ?_)))
        refine Exists.intro _ (Exists.intro _ (And.intro (st_s) (And.intro (by omega) ?_)))
        exact this
  refine hA 0 _ rfl _ _ _ _ _ ?_
  have := loop 100 0 rfl
  rw [mix_0, st_id h] at this
  exact this
set_option maxRecDepth 100000 in
set_option maxHeartbeats 1000000 in
theorem m_joins {c a b : Nat} {o f g : Nat → Nat} (hc : σ.2 c = some (bmc o)) (ha : σ.2 a = some (bmc f)) (hb : σ.2 b = some (bmc g)) (hf : ∀ i, f i < 32768) (hg : ∀ i, g i < 32768) (k : Nat) (hk : k < 4) : ab_ev 2 yX10_joins [rf 57, .inl k, rf a, rf b, rf c] σ none (ab_st σ c (bmc (fun i => jo k (f i) (g i)))) := by
  refine hq_ev (σ' := ab_st σ c (bmc (mix 100 (fun i => jo k (f i) (g i)) o))) ?_ mix_q
  refine eX10_joins rfl (fun At hA => ?_)
  have loop : ∀ n i : Nat, i + n = 100 → At 1 [some (rf 57), some (.inl k), some (rf a), some (rf b), some (rf c), some (.inl i)] [] (ab_st σ c (bmc (mix i (fun i => jo k (f i) (g i)) o))) 0 0 := by
    intro n
    induction n with
    | zero =>
      intro i hi
      refine hA 1 _ rfl _ _ _ _ _ ?_
      refine And.intro (And.intro (by first | assumption | exact b2i_R _ | exact rR (by omega) (by omega) | exact rR (by simp only [Int.toNat_natCast]; omega) (by simp only [Int.toNat_natCast]; omega)) (by first | assumption | exact b2i_R _ | exact rR (by omega) (by omega) | exact rR (by simp only [Int.toNat_natCast]; omega) (by simp only [Int.toNat_natCast]; omega))) (And.intro (fun q => ?_) (fun q => ?_))
      · refine hA 3 _ rfl _ _ _ _ _ ?_
        exact ⟨rfl, by rw [show i = 100 by omega]⟩
      · omega
    | succ n ih =>
      intro i hi
      refine hA 1 _ rfl _ _ _ _ _ ?_
      refine And.intro (And.intro (by first | assumption | exact b2i_R _ | exact rR (by omega) (by omega) | exact rR (by simp only [Int.toNat_natCast]; omega) (by simp only [Int.toNat_natCast]; omega)) (by first | assumption | exact b2i_R _ | exact rR (by omega) (by omega) | exact rR (by simp only [Int.toNat_natCast]; omega) (by simp only [Int.toNat_natCast]; omega))) (And.intro (fun q => ?_) (fun q => ?_))
      · omega
      · obtain ⟨x, r2, r3⟩ := mix_rw (i := i) (u := fun i => jo k (f i) (g i)) hc ha
        obtain ⟨y, s2, s3⟩ := mix_rw (i := i) (u := fun i => jo k (f i) (g i)) hc hb
        have hj := m_joined (σ := ab_st σ c (bmc (mix i (fun i => jo k (f i) (g i)) o))) k (f i) (g i) hk (hf i) (hg i)
        rw [← r3, ← s3] at hj
        have := ih (i + 1) (by omega)
        rw [show ab_st σ c (bmc (mix (i + 1) (fun i => jo k (f i) (g i)) o)) = ab_st (ab_st σ c (bmc (mix i (fun i => jo k (f i) (g i)) o))) c (.inr (.inl (0, 100, ab_up (fun j => ((mix i (fun i => jo k (f i) (g i)) o j : Nat) : Int)) i ((jo k (f i) (g i) : Nat) : Int)))) by rw [st_st, mix_s i (fun i => jo k (f i) (g i)) o _ rfl]] at this
        refine hA 2 _ rfl _ _ _ _ _ ?_
        refine Exists.intro _ (Exists.intro _ (And.intro (r2) (And.intro (by omega) ?_)))
        refine Exists.intro _ (Exists.intro _ (And.intro (s2) (And.intro (by omega) ?_)))
        refine And.intro rfl (ab_inv_ev hj (by first | decide | omega) (by first | exact Nat.le_refl _ | omega) (by first | exact Nat.le_refl _ | omega) ?_)
        refine Exists.intro _ (Exists.intro _ (And.intro (st_s) (And.intro (by omega) ?_)))
        exact this
  refine hA 0 _ rfl _ _ _ _ _ ?_
  have := loop 100 0 rfl
  rw [mix_0, st_id hc] at this
  exact this
end Mjn
