theorem sr_eq {p : Nat → Bool} : ∀ (n i r : Nat), i ≤ r → r < i + n → p r = true → (∀ s, i ≤ s → s < r → p s = false) → sr p i n = r := by
  intro n
  induction n with
  | zero => intro i r h1 h2; omega
  | succ n ih =>
    intro i r h1 h2 h3 h4
    show (if p i then (i : Int) else sr p (i + 1) n) = r
    by_cases e : i = r
    · subst e; rw [if_pos h3]
    · rw [if_neg (by rw [h4 i (by omega) (by omega)]; simp)]
      exact ih (i + 1) r (by omega) (by omega) h3 (fun s q1 q2 => h4 s (by omega) q2)
theorem sr_no {p : Nat → Bool} : ∀ (n i : Nat), (∀ s, i ≤ s → s < i + n → p s = false) → sr p i n = -1 := by
  intro n
  induction n with
  | zero => intro i _; rfl
  | succ n ih =>
    intro i h4
    show (if p i then (i : Int) else sr p (i + 1) n) = -1
    rw [if_neg (by rw [h4 i (by omega) (by omega)]; simp)]
    exact ih (i + 1) (fun s q1 q2 => h4 s (by omega) (by omega))
theorem sl_eq {p : Nat → Bool} : ∀ (n r : Nat), r < n → p r = true → (∀ s, r < s → s < n → p s = false) → sl p n = r := by
  intro n
  induction n with
  | zero => intro r h; omega
  | succ n ih =>
    intro r h1 h2 h3
    show (if p n then (n : Int) else sl p n) = r
    by_cases e : r = n
    · subst e; rw [if_pos h2]
    · rw [if_neg (by rw [h3 n (by omega) (by omega)]; simp)]
      exact ih r (by omega) h2 (fun s q1 q2 => h3 s q1 (by omega))
theorem sl_no {p : Nat → Bool} : ∀ n : Nat, (∀ s, s < n → p s = false) → sl p n = -1 := by
  intro n
  induction n with
  | zero => intro _; rfl
  | succ n ih =>
    intro h
    show (if p n then (n : Int) else sl p n) = -1
    rw [if_neg (by rw [h n (by omega)]; simp)]
    exact ih (fun s q => h s (by omega))
theorem lob_sp (z : Nat) : ∀ (n i : Nat), (∃ j, i ≤ j ∧ j < i + n ∧ z.testBit j = true) → i ≤ lob z i n ∧ lob z i n < i + n ∧ z.testBit (lob z i n) = true ∧ ∀ k, i ≤ k → k < lob z i n → z.testBit k = false := by
  intro n
  induction n with
  | zero => intro i h; obtain ⟨j, h1, h2, -⟩ := h; omega
  | succ n ih =>
    intro i h
    show i ≤ (if z.testBit i then i else lob z (i + 1) n) ∧ _
    show i ≤ (if z.testBit i then i else lob z (i + 1) n) ∧ (if z.testBit i then i else lob z (i + 1) n) < i + (n + 1) ∧ z.testBit (if z.testBit i then i else lob z (i + 1) n) = true ∧ ∀ k, i ≤ k → k < (if z.testBit i then i else lob z (i + 1) n) → z.testBit k = false
    by_cases e : z.testBit i = true
    · rw [if_pos e]; exact ⟨by omega, by omega, e, fun k h1 h2 => by omega⟩
    · rw [if_neg e]
      obtain ⟨j, h1, h2, h3⟩ := h
      have hj : i ≠ j := fun q => e (q ▸ h3)
      obtain ⟨r1, r2, r3, r4⟩ := ih (i + 1) ⟨j, by omega, by omega, h3⟩
      refine ⟨by omega, by omega, r3, fun k q1 q2 => ?_⟩
      by_cases e2 : k = i
      · subst e2; simpa using e
      · exact r4 k (by omega) q2
theorem hib_sp (z : Nat) : ∀ n : Nat, (∃ j, j < n ∧ z.testBit j = true) → hib z n < n ∧ z.testBit (hib z n) = true ∧ ∀ k, hib z n < k → k < n → z.testBit k = false := by
  intro n
  induction n with
  | zero => intro h; obtain ⟨j, h1, -⟩ := h; omega
  | succ n ih =>
    intro h
    show (if z.testBit n then n else hib z n) < n + 1 ∧ z.testBit (if z.testBit n then n else hib z n) = true ∧ ∀ k, (if z.testBit n then n else hib z n) < k → k < n + 1 → z.testBit k = false
    by_cases e : z.testBit n = true
    · rw [if_pos e]; exact ⟨by omega, e, fun k h1 h2 => by omega⟩
    · rw [if_neg e]
      obtain ⟨j, h1, h3⟩ := h
      have hj : j ≠ n := fun q => e (q ▸ h3)
      obtain ⟨r2, r3, r4⟩ := ih ⟨j, by omega, h3⟩
      refine ⟨by omega, r3, fun k q1 q2 => ?_⟩
      by_cases e2 : k = n
      · subst e2; simpa using e
      · exact r4 k q1 (by omega)
theorem mk_ex {z : Nat} (h : z < 32768) (h0 : z ≠ 0) : ∃ j, j < 15 ∧ z.testBit j = true := by
  apply Classical.byContradiction
  intro hn
  apply h0
  apply Nat.eq_of_testBit_eq
  intro i
  rw [Nat.zero_testBit]
  by_cases hi : i < 15
  · cases hb : z.testBit i with
    | false => rfl
    | true => exact absurd ⟨i, hi, hb⟩ hn
  · exact Nat.testBit_lt_two_pow (Nat.lt_of_lt_of_le h (Nat.pow_le_pow_right (n := 2) (i := 15) (by omega) (by omega)))
theorem mk_hi {z k : Nat} (h : z < 32768) (hk : 15 ≤ k) : z.testBit k = false := Nat.testBit_lt_two_pow (Nat.lt_of_lt_of_le h (Nat.pow_le_pow_right (n := 2) (i := 15) (by omega) hk))
theorem cnt_ext {p q : Nat → Bool} : ∀ n, (∀ r, r < n → p r = q r) → cnt p n = cnt q n := by
  intro n
  induction n with
  | zero => intro _; rfl
  | succ n ih => intro h; show cnt p n + (p n).toNat = cnt q n + (q n).toNat; rw [ih (fun r hr => h r (by omega)), h n (by omega)]
theorem cnt_cut {p q : Nat → Bool} {m : Nat} : ∀ n, m ≤ n → (∀ r, r < n → q r = (p r && decide (r < m))) → cnt q n = cnt p m := by
  intro n
  induction n with
  | zero => intro h _; rw [show m = 0 by omega]; rfl
  | succ n ih =>
    intro h hq
    by_cases e : m = n + 1
    · subst e
      exact cnt_ext _ (fun r hr => by rw [hq r hr]; simp [hr])
    · show cnt q n + (q n).toNat = _
      rw [ih (by omega) (fun r hr => hq r (by omega)), hq n (by omega)]
      have : decide (n < m) = false := by simp; omega
      rw [this, Bool.and_false]
      rfl
set_option maxRecDepth 100000 in
set_option maxHeartbeats 1000000 in
theorem c_countBelow {σ : ab_H} {h : Nat} {g : Nat → Nat} (hB : IsB σ h g) (row : Nat) (hr : row ≤ 1500) : ab_ev 2 yX2_countBelow [rf h, .inl row] σ (some (.inl (cnt (bit g) row))) σ := by
  obtain ⟨h1, h2, hg⟩ := id hB
  have hcut : cnt (bit (fun i => g i &&& rg i row)) 1500 = cnt (bit g) row := cnt_cut 1500 hr (fun r _ => by
    unfold bit
    rw [Nat.testBit_and, rg_bit]
    congr 2
    apply propext
    omega)
  rw [← hcut]
  refine eX2_countBelow rfl (fun At hA => ?_)
  have loop : ∀ n i : Nat, i + n = 100 → At 1 [some (rf h), some (.inl row), some (.inl (cnt (bit (fun i => g i &&& rg i row)) (15 * i))), some (.inl i)] [] σ 0 0 := by
    intro n
    induction n with
    | zero =>
      intro i hi
      refine hA 1 _ rfl _ _ _ _ _ ?_
      refine And.intro (And.intro (by first | assumption | exact b2i_R _ | exact rR (by omega) (by omega)) (by first | assumption | exact b2i_R _ | exact rR (by omega) (by omega))) (And.intro (fun q => ?_) (fun q => ?_))
      · refine hA 3 _ rfl _ _ _ _ _ ?_
        exact ⟨by rw [show i = 100 by omega], rfl⟩
      · omega
    | succ n ih =>
      intro i hi
      refine hA 1 _ rfl _ _ _ _ _ ?_
      refine And.intro (And.intro (by first | assumption | exact b2i_R _ | exact rR (by omega) (by omega)) (by first | assumption | exact b2i_R _ | exact rR (by omega) (by omega))) (And.intro (fun q => ?_) (fun q => ?_))
      · omega
      · refine hA 2 _ rfl _ _ _ _ _ ?_
        refine Exists.intro _ (And.intro h1 ?_)
        refine Exists.intro _ (Exists.intro _ (And.intro h2 (And.intro (by omega) ?_)))
        refine And.intro rfl (ab_inv_ev (c_rowsOfGroup σ i row (by omega) hr) (by decide) (Nat.le_refl _) (Nat.le_refl _) ?_)
        have hgi := hg i
        have e1 : ab_and ((g i : Nat) : Int) ((rg i row : Nat) : Int) = ((g i &&& rg i row : Nat) : Int) := nb_and (by omega) (by have := rg_lt i row; omega)
        have hc := c_bitCount σ (g i &&& rg i row) (Nat.lt_of_le_of_lt Nat.and_le_left hgi)
        rw [← e1] at hc
        refine And.intro rfl (ab_inv_ev hc (by decide) (Nat.le_refl _) (Nat.le_refl _) ?_)
        have := ih (i + 1) (by omega)
        rw [cnt_g, Int.natCast_add] at this
        exact this
  refine hA 0 _ rfl _ _ _ _ _ ?_
  exact loop 100 0 (by omega)
set_option maxRecDepth 100000 in
set_option maxHeartbeats 1000000 in
theorem c_firstRowFrom {σ : ab_H} {h : Nat} {g : Nat → Nat} (hB : IsB σ h g) (row : Nat) (hr : row ≤ 1500) : ab_ev 2 yX2_firstRowFrom [rf h, .inl row] σ (some (.inl (sr (bit g) row (1500 - row)))) σ := by
  obtain ⟨h1, h2, hg⟩ := id hB
  refine eX2_firstRowFrom rfl (fun At hA => ?_)
  have loop : ∀ n i : Nat, i + n = 100 → (∀ s, row ≤ s → s < 15 * i → bit g s = false) → ∀ v3 : Option ab_V, At 1 [some (rf h), some (.inl row), some (.inl i), v3] [] σ 0 0 := by
    intro n
    induction n with
    | zero =>
      intro i hi hno v3
      refine hA 1 _ rfl _ _ _ _ _ ?_
      refine And.intro (And.intro (by first | assumption | exact b2i_R _ | exact rR (by omega) (by omega)) (by first | assumption | exact b2i_R _ | exact rR (by omega) (by omega))) (And.intro (fun q => ?_) (fun q => ?_))
      · refine hA 5 _ rfl _ _ _ _ _ ?_
        exact ⟨by rw [sr_no _ _ (fun s q1 q2 => hno s q1 (by omega))], rfl⟩
      · omega
    | succ n ih =>
      intro i hi hno v3
      have hgi := hg i
      have hrg := rg_lt i row
      have e1 : ab_and ((g i : Nat) : Int) (ab_xor ((rg i row : Nat) : Int) (-1)) = ((wo (g i) (rg i row) : Nat) : Int) := nb_not (by omega) (by omega)
      have hwl := wo_le (g i) (rg i row)
      have hwb : ∀ k, (wo (g i) (rg i row)).testBit k = (bit g (15 * i + k) && decide (row ≤ 15 * i + k)) ∨ 15 ≤ k := fun k => by
        by_cases hk : k < 15
        · left
          unfold bit
          rw [wo_bit, rg_bit, show (15 * i + k) / 15 = i by omega, show (15 * i + k) % 15 = k by omega]
          congr 1
          rw [← decide_not]
          congr 1
          apply propext
          omega
        · right; omega
      have key : ∀ w : Int, w = ((wo (g i) (rg i row) : Nat) : Int) → (w = 0 → At 4 [some (rf h), some (.inl row), some (.inl i), some (.inl w)] [] σ 0 0) ∧ (w ≠ 0 → At 3 [some (rf h), some (.inl row), some (.inl i), some (.inl w)] [] σ 0 0) := fun w hw => by
        subst hw
        refine And.intro (fun q => ?_) (fun q => ?_)
        · refine hA 4 _ rfl _ _ _ _ _ ?_
          refine ih (i + 1) (by omega) (fun s q1 q2 => ?_) _
          by_cases hs : s < 15 * i
          · exact hno s q1 hs
          · have hz : wo (g i) (rg i row) = 0 := by omega
            rcases hwb (s - 15 * i) with hb | hb
            · rw [hz, Nat.zero_testBit, show 15 * i + (s - 15 * i) = s by omega] at hb
              simpa [q1] using hb.symm
            · omega
        · have hz : wo (g i) (rg i row) ≠ 0 := by omega
          obtain ⟨j, hj1, hj2⟩ := mk_ex (by omega) hz
          obtain ⟨r1, r2, r3, r4⟩ := lob_sp (wo (g i) (rg i row)) 15 0 ⟨j, by omega, by omega, hj2⟩
          refine hA 3 _ rfl _ _ _ _ _ ?_
          refine And.intro rfl (ab_inv_ev (c_ntz σ (wo (g i) (rg i row)) (by omega) hz) (by decide) (Nat.le_refl _) (Nat.le_refl _) ?_)
          refine And.intro ?_ rfl
          rcases hwb (lob (wo (g i) (rg i row)) 0 15) with hb | hb
          · rw [r3] at hb
            have hb := (Bool.and_eq_true _ _).mp hb.symm
            have e9 := sr_eq (p := bit g) (1500 - row) row (15 * i + lob (wo (g i) (rg i row)) 0 15) (of_decide_eq_true hb.2) (by omega) hb.1 (fun s q1 q2 => by
              by_cases hs : s < 15 * i
              · exact hno s q1 hs
              · rcases hwb (s - 15 * i) with hc | hc
                · rw [r4 (s - 15 * i) (by omega) (by omega), show 15 * i + (s - 15 * i) = s by omega] at hc
                  simpa [q1] using hc.symm
                · omega)
            rw [e9]
            congr 3
            omega
          · omega
      refine hA 1 _ rfl _ _ _ _ _ ?_
      refine And.intro (And.intro (by first | assumption | exact b2i_R _ | exact rR (by omega) (by omega)) (by first | assumption | exact b2i_R _ | exact rR (by omega) (by omega))) (And.intro (fun q => ?_) (fun q => ?_))
      · omega
      · refine hA 2 _ rfl _ _ _ _ _ ?_
        refine Exists.intro _ (And.intro h1 ?_)
        refine Exists.intro _ (Exists.intro _ (And.intro h2 (And.intro (by omega) ?_)))
        refine And.intro rfl (ab_inv_ev (c_rowsOfGroup σ i row (by omega) hr) (by decide) (Nat.le_refl _) (Nat.le_refl _) ?_)
        exact And.intro (e1 ▸ rR (by omega) (by omega)) (key _ e1)
  refine hA 0 _ rfl _ _ _ _ _ ?_
  exact loop 100 0 (by omega) (fun s q1 q2 => by omega) none
set_option maxRecDepth 100000 in
set_option maxHeartbeats 1000000 in
theorem c_lastRow {σ : ab_H} {h : Nat} {g : Nat → Nat} (hB : IsB σ h g) : ab_ev 2 yX2_lastRow [rf h] σ (some (.inl (sl (bit g) 1500))) σ := by
  obtain ⟨h1, h2, hg⟩ := id hB
  have hR := hB.R
  refine eX2_lastRow rfl (fun At hA => ?_)
  have loop : ∀ i : Nat, i ≤ 100 → (∀ s, 15 * i ≤ s → s < 1500 → bit g s = false) → At 1 [some (rf h), some (.inl ((i : Int) - 1))] [] σ 0 0 := by
    intro i
    induction i with
    | zero =>
      intro hi hno
      refine hA 1 _ rfl _ _ _ _ _ ?_
      refine And.intro (by first | assumption | exact b2i_R _ | exact rR (by omega) (by omega)) (And.intro (fun q => ?_) (fun q => ?_))
      · refine hA 5 _ rfl _ _ _ _ _ ?_
        exact ⟨by rw [sl_no _ (fun s q2 => hno s (by omega) q2)], rfl⟩
      · omega
    | succ i ih =>
      intro hi hno
      rw [show ((i + 1 : Nat) : Int) - 1 = (i : Int) by omega]
      refine hA 1 _ rfl _ _ _ _ _ ?_
      refine And.intro (by first | assumption | exact b2i_R _ | exact rR (by omega) (by omega)) (And.intro (fun q => ?_) (fun q => ?_))
      · omega
      · refine hA 2 _ rfl _ _ _ _ _ ?_
        refine Exists.intro _ (And.intro h1 ?_)
        refine Exists.intro _ (Exists.intro _ (And.intro h2 (And.intro (by omega) ?_)))
        refine And.intro (hR i) (And.intro (fun q1 => ?_) (fun q1 => ?_))
        · have q1 : g i = 0 := by have q1 : ((g i : Nat) : Int) = 0 := q1; omega
          refine hA 4 _ rfl _ _ _ _ _ ?_
          exact ih (by omega) (fun s q2 q3 => by
            by_cases hs : 15 * (i + 1) ≤ s
            · exact hno s hs q3
            · unfold bit
              rw [show s / 15 = i by omega, q1, Nat.zero_testBit])
        · have q1 : g i ≠ 0 := by have q1 : ((g i : Nat) : Int) ≠ 0 := q1; omega
          obtain ⟨r2, r3, r4⟩ := hib_sp (g i) 15 (mk_ex (hg i) q1)
          refine hA 3 _ rfl _ _ _ _ _ ?_
          refine Exists.intro _ (And.intro h1 ?_)
          refine Exists.intro _ (Exists.intro _ (And.intro h2 (And.intro (by omega) ?_)))
          refine And.intro rfl (ab_inv_ev (c_nlz σ (g i) (hg i) q1) (by decide) (Nat.le_refl _) (Nat.le_refl _) ?_)
          refine And.intro ?_ rfl
          have e9 := sl_eq (p := bit g) 1500 (15 * i + hib (g i) 15) (by omega) (by unfold bit; rw [show (15 * i + hib (g i) 15) / 15 = i by omega, show (15 * i + hib (g i) 15) % 15 = hib (g i) 15 by omega]; exact r3) (fun s q2 q3 => by
            by_cases hs : 15 * (i + 1) ≤ s
            · exact hno s hs q3
            · unfold bit
              rw [show s / 15 = i by omega]
              exact r4 (s % 15) (by omega) (by omega))
          rw [e9]
          congr 3
          omega
  refine hA 0 _ rfl _ _ _ _ _ ?_
  exact loop 100 (by omega) (fun s q1 q2 => by omega)
