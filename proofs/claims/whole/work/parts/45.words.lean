-- ===== words brought from outside =====
theorem and_p {w k : Nat} : w &&& 2 ^ k = w / 2 ^ k % 2 * 2 ^ k := by
  apply Nat.eq_of_testBit_eq
  intro i
  rw [Nat.testBit_and]
  have hb := bc_q w k
  cases h : w.testBit k with
  | true =>
    rw [h] at hb
    have hb : 1 = w / 2 ^ k % 2 := hb
    rw [← hb, Nat.one_mul]
    by_cases e : k = i
    · subst e; rw [h, Nat.testBit_two_pow_self]; rfl
    · rw [Nat.testBit_two_pow_of_ne e, Bool.and_false]
  | false =>
    rw [h] at hb
    have hb : 0 = w / 2 ^ k % 2 := hb
    rw [← hb, Nat.zero_mul, Nat.zero_testBit]
    by_cases e : k = i
    · subst e; rw [h]; rfl
    · rw [Nat.testBit_two_pow_of_ne e, Bool.and_false]
/-- how many groups a word stands for -/
def wcov (w : Nat) : Nat := if w < 32768 then 1 else w % 16384
def wmsk (w : Nat) : Nat := if w < 32768 then w else if w / 16384 % 2 = 1 then 32767 else 0
/-- the least fault of a word behind a word, from group g on -/
def wfa (rows g w w0 : Nat) : Nat :=
  if w = 0 ∨ w = 32767 then 2
  else if 32768 ≤ w ∧ w % 16384 = 0 then 3
  else if 32768 ≤ w ∧ 32768 ≤ w0 ∧ w0 / 16384 % 2 = w / 16384 % 2 then 4
  else if gu rows < g + wcov w then 5
  else if g + wcov w < gu rows ∨ rows % 15 = 0 then 0
  else if (if 32768 ≤ w then w / 16384 % 2 = 1 else w / 2 ^ (rows % 15) ≠ 0) then 6 else 0
theorem wfa_le (rows g w w0 : Nat) : wfa rows g w w0 ≤ 6 := by
  unfold wfa
  repeat' split
  all_goals omega
/-- groups from g on, so many, have a mask -/
def put1 (m : Nat → Nat) (g n z : Nat) : Nat → Nat := fun i => if g ≤ i ∧ i < g + n then z else m i
def wrd2 (f : Nat → Int) (a : Nat) : Nat := (f a).toNat * 256 + (f (a + 1)).toNat
/-- the words of a text: the fault, or the bitmap -/
def ldP (f : Nat → Int) (len rows : Nat) : Nat → Nat → Nat → Nat → (Nat → Nat) → (Int × Int) ⊕ (Nat → Nat)
  | 0, _, _, _, m => .inr m
  | n + 1, a, g, w0, m =>
    if a < len then
      if len ≤ a + 1 then .inl (1, (a : Nat))
      else if wfa rows g (wrd2 f a) w0 ≠ 0 then .inl ((wfa rows g (wrd2 f a) w0 : Nat), (a : Nat))
      else ldP f len rows n (a + 2) (g + wcov (wrd2 f a)) (wrd2 f a) (put1 m g (wcov (wrd2 f a)) (wmsk (wrd2 f a)))
    else if g < gu rows then .inl (7, (len : Nat)) else .inr m
theorem wmsk_lt {w : Nat} (h : w < 65536) : wmsk w < 32768 := by
  unfold wmsk
  split
  · assumption
  · split <;> decide
section Words
variable {σ : ab_H} {f : Nat → Int} {len rows : Nat} {n st : Int}
theorem an14 {w : Nat} (h : w < 65536) : ab_and (w : Int) 16384 = ((w / 16384 % 2 * 16384 : Nat) : Int) := by
  have := nb_and (a := w) (b := 16384) (by omega) (by omega)
  rw [show (16384 : Nat) = 2 ^ 14 from rfl, and_p] at this
  exact this
theorem an13 {w : Nat} (h : w < 65536) : ab_and (w : Int) 16383 = ((w % 16384 : Nat) : Int) := by
  have := nb_and (a := w) (b := 16383) (by omega) (by omega)
  rw [show (16383 : Nat) = 2 ^ 14 - 1 from rfl, Nat.and_two_pow_sub_one_eq_mod] at this
  exact this
set_option maxRecDepth 100000 in
set_option maxHeartbeats 1000000 in
theorem c_faultOf (w w0 g : Nat) (hw : w < 65536) (hw0 : w0 < 65536) (hg : g ≤ 100) (hr : rows ≤ 1500) : ab_ev 1 yX8_faultOf [rf 28, .inl w, .inl w0, .inl ((gu rows : Int) - g - wcov w), .inl rows] σ (some (.inl (wfa rows g w w0))) σ := by
  have hgu := gu_le hr
  have hcv : wcov w ≤ 16384 := by unfold wcov; split <;> omega
  have e14 := an14 hw
  have e140 := an14 hw0
  have e13 := an13 hw
  have hm1 : w / 16384 % 2 < 2 := Nat.mod_lt _ (by decide)
  have hm2 : w0 / 16384 % 2 < 2 := Nat.mod_lt _ (by decide)
  generalize hlf : ((gu rows : Int) - g - wcov w) = lf
  generalize hF : wfa rows g w w0 = F
  have hFl := wfa_le rows g w w0
  refine eX8_faultOf rfl (fun At hA => ?_)
  -- the values at the end
  have k27 : ∀ (z : Int) (L : ab_L), z = F → At 27 L [.inl z] σ 0 0 := fun z L hz => by
    subst hz
    refine hA 27 _ rfl _ _ _ _ _ ?_
    exact ⟨rfl, rfl⟩
  have k6 : ∀ b1 b2 : Int, b1 = b2i (decide (32768 ≤ w)) → b2 = b2i (decide (w / 16384 % 2 = 1)) → At 6 [some (rf 28), some (.inl w), some (.inl w0), some (.inl lf), some (.inl rows), some (.inl b1), none, none] [.inl b2] σ 0 0 := fun b1 b2 hb1 hb2 => by
    subst hb1 hb2
    have k8 : w = 0 ∨ w = 32767 → At 8 [some (rf 28), some (.inl w), some (.inl w0), some (.inl lf), some (.inl rows), some (.inl (b2i (decide (32768 ≤ w)))), some (.inl (b2i (decide (w / 16384 % 2 = 1)))), none] [] σ 0 0 := fun h => by
      refine hA 8 _ rfl _ _ _ _ _ ?_
      refine ⟨?_, rfl⟩
      rw [← hF]
      unfold wfa
      rw [if_pos h]
      rfl
    have k16 : ¬ (w = 0 ∨ w = 32767) → ¬ (32768 ≤ w ∧ w % 16384 = 0) → ¬ (32768 ≤ w ∧ 32768 ≤ w0 ∧ w0 / 16384 % 2 = w / 16384 % 2) → At 16 [some (rf 28), some (.inl w), some (.inl w0), some (.inl lf), some (.inl rows), some (.inl (b2i (decide (32768 ≤ w)))), some (.inl (b2i (decide (w / 16384 % 2 = 1)))), none] [] σ 0 0 := fun h1 h2 h3 => by
      have hF2 : (if gu rows < g + wcov w then 5 else if g + wcov w < gu rows ∨ rows % 15 = 0 then 0 else if (if 32768 ≤ w then w / 16384 % 2 = 1 else w / 2 ^ (rows % 15) ≠ 0) then 6 else 0) = F := by
        rw [← hF]
        unfold wfa
        rw [if_neg h1, if_neg h2, if_neg h3]
      refine hA 16 _ rfl _ _ _ _ _ ?_
      refine And.intro (by first | assumption | exact b2i_R _ | exact rR (by omega) (by omega) | exact rR (by simp only [Int.toNat_natCast]; omega) (by simp only [Int.toNat_natCast]; omega)) (And.intro (fun q => ?_) (fun q => ?_))
      · rw [if_neg (by omega)] at hF2
        refine hA 18 _ rfl _ _ _ _ _ ?_
        refine And.intro ⟨by omega, rR (by omega) (by omega), by omega, rR (by omega) (by omega)⟩ ?_
        refine And.intro (rR (by omega) (by omega)) (And.intro (fun q2 => ?_) (fun q2 => ?_))
        · rw [if_pos (Or.inl (by omega))] at hF2
          refine hA 20 _ rfl _ _ _ _ _ ?_
          exact ⟨by rw [← hF2]; rfl, rfl⟩
        · refine hA 19 _ rfl _ _ _ _ _ ?_
          refine And.intro (by first | assumption | exact b2i_R _ | exact rR (by omega) (by omega) | exact rR (by simp only [Int.toNat_natCast]; omega) (by simp only [Int.toNat_natCast]; omega)) (And.intro (fun q => ?_) (fun q => ?_))
          · have hm : rows % 15 ≠ 0 := by omega
            rw [if_neg (by omega)] at hF2
            have k25 : (if 32768 ≤ w then w / 16384 % 2 = 1 else w / 2 ^ (rows % 15) ≠ 0) → ∀ L, At 25 L [] σ 0 0 := fun hq L => by
              rw [if_pos hq] at hF2
              refine hA 25 _ rfl _ _ _ _ _ ?_
              exact k27 6 _ (by rw [← hF2]; rfl)
            have k26 : ¬ (if 32768 ≤ w then w / 16384 % 2 = 1 else w / 2 ^ (rows % 15) ≠ 0) → ∀ L, At 26 L [] σ 0 0 := fun hq L => by
              rw [if_neg hq] at hF2
              refine hA 26 _ rfl _ _ _ _ _ ?_
              exact k27 0 _ (by rw [← hF2]; rfl)
            refine hA 21 _ rfl _ _ _ _ _ ?_
            refine And.intro (by first | assumption | exact b2i_R _ | exact rR (by omega) (by omega) | exact rR (by simp only [Int.toNat_natCast]; omega) (by simp only [Int.toNat_natCast]; omega)) (And.intro (fun q => ?_) (fun q => ?_))
            · have hq := of_decide_eq_false (b2i_0 q)
              have es := nb_shr (a := w) (k := rows % 15) (by omega) (by omega)
              have hle : w / 2 ^ (rows % 15) ≤ w := Nat.div_le_self _ _
              have e15 : (rows : Int) % 15 = ((rows % 15 : Nat) : Int) := by omega
              refine hA 24 _ rfl _ _ _ _ _ ?_
              rw [e15]
              generalize w / 2 ^ (rows % 15) = z at k25 k26 hle es
              refine And.intro (show ab_R (ab_shr (w : Int) ((rows % 15 : Nat) : Int)) by rw [es]; exact rR (by omega) (by omega)) (And.intro (fun q3 => ?_) (fun q3 => ?_))
              · have q3 : ab_shr (w : Int) ((rows % 15 : Nat) : Int) = 0 := q3
                rw [es] at q3
                refine k26 (by rw [if_neg hq]; omega) _
              · have q3 : ab_shr (w : Int) ((rows % 15 : Nat) : Int) ≠ 0 := q3
                rw [es] at q3
                refine k25 (by rw [if_neg hq]; omega) _
            · have hq := of_decide_eq_true (b2i_1 q)
              refine hA 22 _ rfl _ _ _ _ _ ?_
              refine And.intro (by first | assumption | exact b2i_R _ | exact rR (by omega) (by omega) | exact rR (by simp only [Int.toNat_natCast]; omega) (by simp only [Int.toNat_natCast]; omega)) (And.intro (fun q => ?_) (fun q => ?_))
              · have hq2 := of_decide_eq_false (b2i_0 q)
                exact k26 (by rw [if_pos hq]; exact hq2) _
              · have hq2 := of_decide_eq_true (b2i_1 q)
                refine hA 23 _ rfl _ _ _ _ _ ?_
                exact k25 (by rw [if_pos hq]; exact hq2) _
          · rw [if_pos (Or.inr (by omega))] at hF2
            refine hA 20 _ rfl _ _ _ _ _ ?_
            exact ⟨by rw [← hF2]; rfl, rfl⟩
      · rw [if_pos (by omega)] at hF2
        refine hA 17 _ rfl _ _ _ _ _ ?_
        exact ⟨by rw [← hF2]; rfl, rfl⟩
    have k12 : ¬ (w = 0 ∨ w = 32767) → ¬ (32768 ≤ w ∧ w % 16384 = 0) → At 12 [some (rf 28), some (.inl w), some (.inl w0), some (.inl lf), some (.inl rows), some (.inl (b2i (decide (32768 ≤ w)))), some (.inl (b2i (decide (w / 16384 % 2 = 1)))), none] [] σ 0 0 := fun h1 h2 => by
      refine hA 12 _ rfl _ _ _ _ _ ?_
      refine And.intro (by first | assumption | exact b2i_R _ | exact rR (by omega) (by omega) | exact rR (by simp only [Int.toNat_natCast]; omega) (by simp only [Int.toNat_natCast]; omega)) (And.intro (fun q => ?_) (fun q => ?_))
      · have hq := of_decide_eq_false (b2i_0 q)
        exact k16 h1 h2 (fun h => hq h.1)
      · have hq := of_decide_eq_true (b2i_1 q)
        refine hA 13 _ rfl _ _ _ _ _ ?_
        refine And.intro (And.intro (rR (by omega) (by omega)) (show ab_R 32768 from rR (by decide) (by decide))) (And.intro (fun q2 => ?_) (fun q2 => ?_))
        · have q2 : ((w0 : Nat) : Int) < 32768 := q2
          exact k16 h1 h2 (fun h => by omega)
        · have q2 : (32768 : Int) ≤ ((w0 : Nat) : Int) := q2
          refine hA 14 _ rfl _ _ _ _ _ ?_
          refine And.intro (And.intro (show ab_R (ab_and (w0 : Int) 16384) by rw [e140]; exact rR (by omega) (by omega)) (show ab_R (ab_and (w : Int) 16384) by rw [e14]; exact rR (by omega) (by omega))) (And.intro (fun q3 => ?_) (fun q3 => ?_))
          · have q3 : ab_and (w0 : Int) 16384 ≠ ab_and (w : Int) 16384 := q3
            rw [e14, e140] at q3
            exact k16 h1 h2 (fun h => by omega)
          · have q3 : ab_and (w0 : Int) 16384 = ab_and (w : Int) 16384 := q3
            rw [e14, e140] at q3
            refine hA 15 _ rfl _ _ _ _ _ ?_
            refine ⟨?_, rfl⟩
            rw [← hF]
            unfold wfa
            rw [if_neg h1, if_neg h2, if_pos ⟨hq, by omega, by omega⟩]
            rfl
    have k9 : ¬ (w = 0 ∨ w = 32767) → At 9 [some (rf 28), some (.inl w), some (.inl w0), some (.inl lf), some (.inl rows), some (.inl (b2i (decide (32768 ≤ w)))), some (.inl (b2i (decide (w / 16384 % 2 = 1)))), none] [] σ 0 0 := fun h1 => by
      refine hA 9 _ rfl _ _ _ _ _ ?_
      refine And.intro (by first | assumption | exact b2i_R _ | exact rR (by omega) (by omega) | exact rR (by simp only [Int.toNat_natCast]; omega) (by simp only [Int.toNat_natCast]; omega)) (And.intro (fun q => ?_) (fun q => ?_))
      · have hq := of_decide_eq_false (b2i_0 q)
        exact k12 h1 (fun h => hq h.1)
      · have hq := of_decide_eq_true (b2i_1 q)
        refine hA 10 _ rfl _ _ _ _ _ ?_
        refine And.intro (show ab_R (ab_and (w : Int) 16383) by rw [e13]; exact rR (by omega) (by omega)) (And.intro (fun q2 => ?_) (fun q2 => ?_))
        · have q2 : ab_and (w : Int) 16383 ≠ 0 := q2
          rw [e13] at q2
          exact k12 h1 (fun h => by omega)
        · have q2 : ab_and (w : Int) 16383 = 0 := q2
          rw [e13] at q2
          refine hA 11 _ rfl _ _ _ _ _ ?_
          refine ⟨?_, rfl⟩
          rw [← hF]
          unfold wfa
          rw [if_neg h1, if_pos ⟨hq, by omega⟩]
          rfl
    refine hA 6 _ rfl _ _ _ _ _ ?_
    refine And.intro (by first | assumption | exact b2i_R _ | exact rR (by omega) (by omega) | exact rR (by simp only [Int.toNat_natCast]; omega) (by simp only [Int.toNat_natCast]; omega)) (And.intro (fun q => ?_) (fun q => ?_))
    · exact k8 (Or.inl (by omega))
    · refine hA 7 _ rfl _ _ _ _ _ ?_
      refine And.intro (And.intro (by first | assumption | exact b2i_R _ | exact rR (by omega) (by omega) | exact rR (by simp only [Int.toNat_natCast]; omega) (by simp only [Int.toNat_natCast]; omega)) (by first | assumption | exact b2i_R _ | exact rR (by omega) (by omega) | exact rR (by simp only [Int.toNat_natCast]; omega) (by simp only [Int.toNat_natCast]; omega))) (And.intro (fun q => ?_) (fun q => ?_))
      · exact k9 (by omega)
      · exact k8 (Or.inr (by omega))
  have k3 : ∀ b1 : Int, b1 = b2i (decide (32768 ≤ w)) → At 3 [some (rf 28), some (.inl w), some (.inl w0), some (.inl lf), some (.inl rows), none, none, none] [.inl b1] σ 0 0 := fun b1 hb1 => by
    refine hA 3 _ rfl _ _ _ _ _ ?_
    refine And.intro (show ab_R (ab_and (w : Int) 16384) by rw [e14]; exact rR (by omega) (by omega)) (And.intro (fun q => ?_) (fun q => ?_))
    · have q : ab_and (w : Int) 16384 = 0 := q
      rw [e14] at q
      refine hA 5 _ rfl _ _ _ _ _ ?_
      exact k6 b1 0 hb1 (by rw [decide_eq_false (by omega)]; rfl)
    · have q : ab_and (w : Int) 16384 ≠ 0 := q
      rw [e14] at q
      refine hA 4 _ rfl _ _ _ _ _ ?_
      exact k6 b1 1 hb1 (by rw [decide_eq_true (by omega)]; rfl)
  refine hA 0 _ rfl _ _ _ _ _ ?_
  refine And.intro (And.intro (rR (by omega) (by omega)) (show ab_R 32768 from rR (by decide) (by decide))) (And.intro (fun q => ?_) (fun q => ?_))
  · have q : ((w : Nat) : Int) < 32768 := q
    refine hA 2 _ rfl _ _ _ _ _ ?_
    exact k3 0 (by rw [decide_eq_false (by omega)]; rfl)
  · have q : (32768 : Int) ≤ ((w : Nat) : Int) := q
    refine hA 1 _ rfl _ _ _ _ _ ?_
    exact k3 1 (by rw [decide_eq_true (by omega)]; rfl)
set_option maxRecDepth 100000 in
set_option maxHeartbeats 1000000 in
theorem c_putWord {h : Nat} {m : Nat → Nat} (hB : IsB σ h m) (w g : Nat) (hw : w < 65536) (hg : g + wcov w ≤ 100) : ab_ev 1 yX8_putWord [rf 28, rf h, .inl w, .inl g, .inl (wcov w)] σ none (ab_st σ (h + 1) (bmc (put1 m g (wcov w) (wmsk w)))) := by
  have hB1 := hB.1
  have e14 := an14 hw
  have hm1 : w / 16384 % 2 < 2 := Nat.mod_lt _ (by decide)
  refine eX8_putWord rfl (fun At hA => ?_)
  have k5 : At 5 [some (rf 28), some (rf h), some (.inl w), some (.inl g), some (.inl (wcov w)), some (.inl (wmsk w)), none] [] σ 0 0 := by
    have loop : ∀ (n i : Nat), i + n = wcov w → At 6 [some (rf 28), some (rf h), some (.inl w), some (.inl g), some (.inl (wcov w)), some (.inl (wmsk w)), some (.inl ((g + i : Nat) : Int))] [] (ab_st σ (h + 1) (bmc (put1 m g i (wmsk w)))) 0 0 := by
      intro n
      induction n with
      | zero =>
        intro i hi
        refine hA 6 _ rfl _ _ _ _ _ ?_
        refine And.intro (And.intro (by first | assumption | exact b2i_R _ | exact rR (by omega) (by omega) | exact rR (by simp only [Int.toNat_natCast]; omega) (by simp only [Int.toNat_natCast]; omega)) (by first | assumption | exact b2i_R _ | exact rR (by omega) (by omega) | exact rR (by simp only [Int.toNat_natCast]; omega) (by simp only [Int.toNat_natCast]; omega))) (And.intro (fun q => ?_) (fun q => ?_))
        · refine hA 9 _ rfl _ _ _ _ _ ?_
          exact ⟨rfl, by rw [show i = wcov w by omega]⟩
        · omega
      | succ n ih =>
        intro i hi
        have q1 : (ab_st σ (h + 1) (bmc (put1 m g i (wmsk w)))).2 h = _ := st_e (by omega) hB1
        refine hA 6 _ rfl _ _ _ _ _ ?_
        refine And.intro (And.intro (by first | assumption | exact b2i_R _ | exact rR (by omega) (by omega) | exact rR (by simp only [Int.toNat_natCast]; omega) (by simp only [Int.toNat_natCast]; omega)) (by first | assumption | exact b2i_R _ | exact rR (by omega) (by omega) | exact rR (by simp only [Int.toNat_natCast]; omega) (by simp only [Int.toNat_natCast]; omega))) (And.intro (fun q => ?_) (fun q => ?_))
        · omega
        · refine hA 7 _ rfl _ _ _ _ _ ?_
          refine And.intro (And.intro (by first | assumption | exact b2i_R _ | exact rR (by omega) (by omega) | exact rR (by simp only [Int.toNat_natCast]; omega) (by simp only [Int.toNat_natCast]; omega)) (by first | assumption | exact b2i_R _ | exact rR (by omega) (by omega) | exact rR (by simp only [Int.toNat_natCast]; omega) (by simp only [Int.toNat_natCast]; omega))) (And.intro (fun q => ?_) (fun q => ?_))
          · omega
          · refine hA 8 _ rfl _ _ _ _ _ ?_
            refine Exists.intro _ (And.intro (q1) ?_)
            refine Exists.intro _ (Exists.intro _ (And.intro (st_s) (And.intro (by omega) ?_)))
            have e3 := ints_up 100 (put1 m g i (wmsk w)) (g + i) (wmsk w)
            have e4 : ab_up (put1 m g i (wmsk w)) (g + i) (wmsk w) = put1 m g (i + 1) (wmsk w) := by
              funext j
              unfold ab_up put1
              by_cases h1 : j = g + i
              · rw [if_pos h1, if_pos (by omega)]
              · rw [if_neg h1]
                by_cases h2 : g ≤ j ∧ j < g + i
                · rw [if_pos h2, if_pos (by omega)]
                · rw [if_neg h2, if_neg (by omega)]
            rw [e4] at e3
            have := ih (i + 1) (by omega)
            rw [show bmc (put1 m g (i + 1) (wmsk w)) = ints 100 (put1 m g (i + 1) (wmsk w)) from rfl, ← e3] at this
            rw [st_st]
            exact this
    refine hA 5 _ rfl _ _ _ _ _ ?_
    have := loop (wcov w) 0 (by omega)
    have e : put1 m g 0 (wmsk w) = m := by
      funext j
      unfold put1
      rw [if_neg (by omega)]
    rw [e, st_id hB.2.1] at this
    exact this
  refine hA 0 _ rfl _ _ _ _ _ ?_
  refine And.intro (And.intro (rR (by omega) (by omega)) (show ab_R 32768 from rR (by decide) (by decide))) (And.intro (fun q => ?_) (fun q => ?_))
  · have q : ((w : Nat) : Int) < 32768 := q
    have e : wmsk w = w := by unfold wmsk; rw [if_pos (by omega)]
    rw [e] at k5
    exact k5
  · have q : (32768 : Int) ≤ ((w : Nat) : Int) := q
    have k4 : ∀ z : Int, z = wmsk w → At 4 [some (rf 28), some (rf h), some (.inl w), some (.inl g), some (.inl (wcov w)), some (.inl w), none] [.inl z] σ 0 0 := fun z hz => by
      subst hz
      refine hA 4 _ rfl _ _ _ _ _ ?_
      exact k5
    refine hA 1 _ rfl _ _ _ _ _ ?_
    refine And.intro (show ab_R (ab_and (w : Int) 16384) by rw [e14]; exact rR (by omega) (by omega)) (And.intro (fun q2 => ?_) (fun q2 => ?_))
    · have q2 : ab_and (w : Int) 16384 = 0 := q2
      rw [e14] at q2
      refine hA 3 _ rfl _ _ _ _ _ ?_
      exact k4 0 (by unfold wmsk; rw [if_neg (by omega), if_neg (by omega)]; rfl)
    · have q2 : ab_and (w : Int) 16384 ≠ 0 := q2
      rw [e14] at q2
      refine hA 2 _ rfl _ _ _ _ _ ?_
      exact k4 32767 (by unfold wmsk; rw [if_neg (by omega), if_pos (by omega)]; rfl)
end Words
