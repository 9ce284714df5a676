-- ===== the k-th row =====
def cl_b (z : Nat) : Bool := or (Nat.beq z 0) (Nat.beq (Nat.land z (Nat.sub z 1)) (Nat.xor z (Nat.pow 2 (lo_p z))))
theorem cl_ok0 : al_r cl_b 14 0 = true := by decide +kernel
theorem cl_ok1 : al_r cl_b 14 16384 = true := by decide +kernel
theorem cl_ok {z : Nat} (h : z < 32768) (h0 : z ≠ 0) : z &&& (z - 1) = z ^^^ 2 ^ lob z 0 15 := by
  rw [lo_pp]
  have : cl_b z = true := by
    by_cases q : z < 16384
    · exact al_of 14 0 (by rw [← al_r2]; exact cl_ok0) z (Nat.zero_le _) (by omega)
    · exact al_of 14 16384 (by rw [← al_r2]; exact cl_ok1) z (by omega) (by omega)
  rcases Bool.or_eq_true _ _ |>.mp this with q | q
  · exact absurd (Nat.eq_of_beq_eq_true q) h0
  · exact Nat.eq_of_beq_eq_true q
theorem pop_mono (z : Nat) {i j : Nat} (h : i ≤ j) : pop z i ≤ pop z j := by
  induction h with
  | refl => exact Nat.le_refl _
  | step _ ih => exact Nat.le_trans ih (Nat.le_add_right _ _)
/-- the place of the k-th bit that is 1: the first bit with k ones below it -/
theorem nth_sp {z m k : Nat} (hm : m < 32768) (hb : ∀ j, j < 15 → m.testBit j = (z.testBit j && decide (k ≤ pop z j))) (hk : k < pop z 15) : m ≠ 0 ∧ z.testBit (lob m 0 15) = true ∧ pop z (lob m 0 15) = k ∧ lob m 0 15 < 15 ∧ (m &&& (m - 1)) < 32768 ∧ ∀ j, j < 15 → (m &&& (m - 1)).testBit j = (z.testBit j && decide (k + 1 ≤ pop z j)) := by
  have ex : ∀ n, n ≤ 15 → k < pop z n → ∃ j, j < n ∧ z.testBit j = true ∧ pop z j = k := by
    intro n
    induction n with
    | zero => intro _ h; simp [pop] at h
    | succ n ih =>
      intro hn h
      by_cases e : k < pop z n
      · obtain ⟨j, h1, h2⟩ := ih (by omega) e
        exact ⟨j, by omega, h2⟩
      · have h' : k < pop z n + (z.testBit n).toNat := h
        cases hz : z.testBit n with
        | false => rw [hz] at h'; simp at h'; omega
        | true => rw [hz] at h'; simp at h'; exact ⟨n, by omega, hz, by omega⟩
  obtain ⟨j, hj1, hj2, hj3⟩ := ex 15 (by omega) hk
  have hmj : m.testBit j = true := by rw [hb j hj1, hj2]; simp; omega
  have hm0 : m ≠ 0 := fun q => by rw [q, Nat.zero_testBit] at hmj; cases hmj
  obtain ⟨r1, r2, r3, r4⟩ := lob_sp m 15 0 ⟨j, by omega, by omega, hmj⟩
  have hle : lob m 0 15 ≤ j := Nat.not_lt.mp (fun q => by rw [r4 j (by omega) q] at hmj; cases hmj)
  rw [hb _ (by omega)] at r3
  have r3 := (Bool.and_eq_true _ _).mp r3
  have r5 : k ≤ pop z (lob m 0 15) := of_decide_eq_true r3.2
  have r6 := pop_mono z hle
  have hp : pop z (lob m 0 15) = k := by omega
  refine ⟨hm0, r3.1, hp, by omega, Nat.lt_of_le_of_lt Nat.and_le_left hm, fun i hi => ?_⟩
  rw [cl_ok hm hm0, Nat.testBit_xor, Nat.testBit_two_pow, hb i hi]
  by_cases e : lob m 0 15 = i
  · subst e
    rw [r3.1, hp]
    simp
  · have e1 : decide (lob m 0 15 = i) = false := by simp [e]
    rw [e1, Bool.xor_false]
    cases hz : z.testBit i with
    | false => rfl
    | true =>
      simp only [Bool.true_and]
      congr 1
      apply propext
      constructor
      · intro h9
        rcases Nat.lt_or_gt_of_ne e with q | q
        · have := pop_mono z (show lob m 0 15 + 1 ≤ i from q)
          have e7 : pop z (lob m 0 15 + 1) = pop z (lob m 0 15) + (z.testBit (lob m 0 15)).toNat := rfl
          rw [r3.1] at e7
          simp at e7
          omega
        · have := r4 i (by omega) q
          rw [hb i hi, hz] at this
          simp at this
          omega
      · intro h9; omega
set_option maxRecDepth 100000 in
set_option maxHeartbeats 1000000 in
theorem c_nthOfGroup {σ : ab_H} {h : Nat} {g : Nat → Nat} (hB : IsB σ h g) (i k : Nat) (hi : i < 100) (hk : k < pop (g i) 15) : ∃ j, j < 15 ∧ (g i).testBit j = true ∧ pop (g i) j = k ∧ ab_ev 2 yX2_nthOfGroup [rf h, .inl i, .inl k] σ (some (.inl ((15 * i + j : Nat) : Int))) σ := by
  obtain ⟨h1, h2, hg⟩ := id hB
  have hp15 : pop (g i) 15 ≤ 15 := by
    have : ∀ n, pop (g i) n ≤ n := by
      intro n
      induction n with
      | zero => exact Nat.le_refl _
      | succ n ih => show pop (g i) n + _ ≤ n + 1; have := Bool.toNat_le ((g i).testBit n); omega
    exact this 15
  have step : ∀ c, c ≤ k → ∃ m, m < 32768 ∧ ∀ j, j < 15 → m.testBit j = ((g i).testBit j && decide (c ≤ pop (g i) j)) := by
    intro c
    induction c with
    | zero => intro _; exact ⟨g i, hg i, fun j _ => by simp⟩
    | succ c ih =>
      intro hc
      obtain ⟨m, hm, hb⟩ := ih (by omega)
      obtain ⟨-, -, -, -, h5, h6⟩ := nth_sp hm hb (by omega)
      exact ⟨_, h5, h6⟩
  obtain ⟨m, hm, hb⟩ := step k (Nat.le_refl _)
  obtain ⟨n1, n2, n3, n4, -, -⟩ := nth_sp hm hb hk
  refine ⟨lob m 0 15, n4, n2, n3, ?_⟩
  refine eX2_nthOfGroup rfl (fun At hA => ?_)
  have loop : ∀ n c : Nat, c + n = k → ∀ m' : Nat, m' < 32768 → (∀ j, j < 15 → m'.testBit j = ((g i).testBit j && decide (c ≤ pop (g i) j))) → At 1 [some (rf h), some (.inl i), some (.inl k), some (.inl m'), some (.inl c)] [] σ 0 0 := by
    intro n
    induction n with
    | zero =>
      intro c hc m' hm' hb'
      have e : m' = m := by
        apply Nat.eq_of_testBit_eq
        intro j
        by_cases hj : j < 15
        · rw [hb' j hj, hb j hj, show c = k by omega]
        · rw [mk_hi hm' (by omega), mk_hi hm (by omega)]
      subst e
      refine hA 1 _ rfl _ _ _ _ _ ?_
      refine And.intro (And.intro (by first | assumption | exact b2i_R _ | exact rR (by omega) (by omega)) (by first | assumption | exact b2i_R _ | exact rR (by omega) (by omega))) (And.intro (fun q => ?_) (fun q => ?_))
      · refine hA 3 _ rfl _ _ _ _ _ ?_
        refine And.intro rfl (ab_inv_ev (c_ntz σ m' hm n1) (by decide) (Nat.le_refl _) (Nat.le_refl _) ?_)
        refine And.intro ?_ rfl
        congr 3
        omega
      · omega
    | succ n ih =>
      intro c hc m' hm' hb'
      obtain ⟨o1, -, -, -, o5, o6⟩ := nth_sp hm' hb' (by omega)
      refine hA 1 _ rfl _ _ _ _ _ ?_
      refine And.intro (And.intro (by first | assumption | exact b2i_R _ | exact rR (by omega) (by omega)) (by first | assumption | exact b2i_R _ | exact rR (by omega) (by omega))) (And.intro (fun q => ?_) (fun q => ?_))
      · omega
      · refine hA 2 _ rfl _ _ _ _ _ ?_
        have e : ab_and (m' : Int) ((m' : Int) - 1) = ((m' &&& (m' - 1) : Nat) : Int) := by
          rw [show (m' : Int) - 1 = ((m' - 1 : Nat) : Int) by omega]
          exact nb_and (by omega) (by omega)
        have := ih (c + 1) (by omega) _ o5 o6
        rw [← e] at this
        exact this
  refine hA 0 _ rfl _ _ _ _ _ ?_
  refine Exists.intro _ (And.intro h1 ?_)
  refine Exists.intro _ (Exists.intro _ (And.intro h2 (And.intro (by omega) ?_)))
  exact loop k 0 (by omega) (g i) (hg i) (fun j _ => by simp)
/-- the k-th row in it -/
def sel (g : Nat → Nat) (k : Nat) : Int := sr (fun r => bit g r && decide (cnt (bit g) r = k)) 0 1500
theorem cnt_mono (p : Nat → Bool) {i j : Nat} (h : i ≤ j) : cnt p i ≤ cnt p j := by
  induction h with
  | refl => exact Nat.le_refl _
  | step _ ih => exact Nat.le_trans ih (Nat.le_add_right _ _)
set_option maxRecDepth 100000 in
set_option maxHeartbeats 1000000 in
theorem c_nthRow {σ : ab_H} {h : Nat} {g : Nat → Nat} (hB : IsB σ h g) (k : Nat) (hk : (k : Int) < 2147483648) : ab_ev 3 yX2_nthRow [rf h, .inl k] σ (some (.inl (sel g k))) σ := by
  obtain ⟨h1, h2, hg⟩ := id hB
  refine eX2_nthRow rfl (fun At hA => ?_)
  have loop : ∀ n i : Nat, i + n = 100 → cnt (bit g) (15 * i) ≤ k → ∀ v4 : Option ab_V, At 3 [some (rf h), some (.inl k), some (.inl ((k : Int) - cnt (bit g) (15 * i))), some (.inl i), v4] [] σ 0 0 := by
    intro n
    induction n with
    | zero =>
      intro i hi hc v4
      refine hA 3 _ rfl _ _ _ _ _ ?_
      refine And.intro (And.intro (by first | assumption | exact b2i_R _ | exact rR (by omega) (by omega)) (by first | assumption | exact b2i_R _ | exact rR (by omega) (by omega))) (And.intro (fun q => ?_) (fun q => ?_))
      · refine hA 7 _ rfl _ _ _ _ _ ?_
        refine And.intro ?_ rfl
        unfold sel
        rw [sr_no _ _ (fun s q1 q2 => by
          cases hs : bit g s with
          | false => rfl
          | true =>
            have e1 : cnt (bit g) (s + 1) = cnt (bit g) s + (bit g s).toNat := rfl
            have e2 := cnt_mono (bit g) (show s + 1 ≤ 15 * i by omega)
            rw [hs] at e1
            simp at e1
            simp
            omega)]
      · omega
    | succ n ih =>
      intro i hi hc v4
      have hcg := cnt_g g i
      have hcl := cnt_le (bit g) (15 * i)
      have hpl := cnt_le (bit g) (15 * (i + 1))
      refine hA 3 _ rfl _ _ _ _ _ ?_
      refine And.intro (And.intro (by first | assumption | exact b2i_R _ | exact rR (by omega) (by omega)) (by first | assumption | exact b2i_R _ | exact rR (by omega) (by omega))) (And.intro (fun q => ?_) (fun q => ?_))
      · omega
      · refine hA 4 _ rfl _ _ _ _ _ ?_
        refine Exists.intro _ (And.intro h1 ?_)
        refine Exists.intro _ (Exists.intro _ (And.intro h2 (And.intro (by omega) ?_)))
        refine And.intro rfl (ab_inv_ev (c_bitCount σ (g i) (hg i)) (by decide) (Nat.le_refl _) (Nat.le_refl _) ?_)
        refine And.intro (And.intro (rR (by omega) (by omega)) (rR (by omega) (by omega))) (And.intro (fun q => ?_) (fun q => ?_))
        · refine hA 6 _ rfl _ _ _ _ _ ?_
          have := ih (i + 1) (by omega) (by omega) (some (.inl (pop (g i) 15 : Nat)))
          rw [show (k : Int) - ((cnt (bit g) (15 * (i + 1)) : Nat) : Int) = (k : Int) - (cnt (bit g) (15 * i) : Nat) - (pop (g i) 15 : Nat) by omega] at this
          exact this
        · obtain ⟨j, hj1, hj2, hj3, hcall⟩ := c_nthOfGroup hB i (k - cnt (bit g) (15 * i)) (by omega) (by omega)
          rw [show ((k - cnt (bit g) (15 * i) : Nat) : Int) = (k : Int) - (cnt (bit g) (15 * i) : Nat) by omega] at hcall
          refine hA 5 _ rfl _ _ _ _ _ ?_
          refine Exists.intro _ (And.intro h1 (And.intro rfl (ab_inv_ev hcall (by decide) (Nat.le_refl _) (Nat.le_refl _) ?_)))
          refine And.intro ?_ rfl
          have hbj : bit g (15 * i + j) = true := by
            unfold bit
            rw [show (15 * i + j) / 15 = i by omega, show (15 * i + j) % 15 = j by omega]
            exact hj2
          have hpc := pop_cnt g i j (by omega)
          have e9 := sr_eq (p := fun r => bit g r && decide (cnt (bit g) r = k)) 1500 0 (15 * i + j) (by omega) (by omega) (by rw [hbj]; simp; omega) (fun s q1 q2 => by
            cases hs : bit g s with
            | false => rfl
            | true =>
              have e1 : cnt (bit g) (s + 1) = cnt (bit g) s + (bit g s).toNat := rfl
              have e2 := cnt_mono (bit g) (show s + 1 ≤ 15 * i + j by omega)
              rw [hs] at e1
              simp at e1
              simp
              omega)
          unfold sel
          rw [e9]
  refine hA 0 _ rfl _ _ _ _ _ ?_
  refine And.intro (by first | assumption | exact b2i_R _ | exact rR (by omega) (by omega)) (And.intro (fun q => ?_) (fun q => ?_))
  · refine hA 2 _ rfl _ _ _ _ _ ?_
    have := loop 100 0 (by omega) (Nat.zero_le _) none
    rw [show (k : Int) - ((cnt (bit g) (15 * 0) : Nat) : Int) = k by show (k : Int) - 0 = k; omega] at this
    exact this
  · omega
set_option maxRecDepth 100000 in
set_option maxHeartbeats 1000000 in
theorem c_nthRowN {σ : ab_H} {h : Nat} {g : Nat → Nat} (hB : IsB σ h g) (k : Int) (hk : k < 0) (hR : ab_R k) : ab_ev 3 yX2_nthRow [rf h, .inl k] σ (some (.inl (-1))) σ := by
  refine eX2_nthRow rfl (fun At hA => ?_)
  refine hA 0 _ rfl _ _ _ _ _ ?_
  refine And.intro (by first | assumption | exact b2i_R _ | exact rR (by omega) (by omega)) (And.intro (fun q => ?_) (fun q => ?_))
  · omega
  · refine hA 1 _ rfl _ _ _ _ _ ?_
    exact ⟨rfl, rfl⟩
