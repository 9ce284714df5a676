-- ===== masks told by a predicate on rows =====
def mkn (p : Nat → Bool) (g : Nat) : Nat → Nat
  | 0 => 0
  | k + 1 => mkn p g k ||| (if p (15 * g + k) then 2 ^ k else 0)
def mk (p : Nat → Bool) (g : Nat) : Nat := mkn p g 15
theorem mkn_bit (p : Nat → Bool) (g : Nat) (j : Nat) : ∀ k, (mkn p g k).testBit j = (decide (j < k) && p (15 * g + j)) := by
  intro k
  induction k with
  | zero => unfold mkn; rw [Nat.zero_testBit]; simp
  | succ k ih =>
    unfold mkn
    rw [Nat.testBit_or, ih]
    by_cases e : j = k
    · subst e
      rw [decide_eq_false (show ¬ j < j by omega), decide_eq_true (show j < j + 1 by omega)]
      by_cases h : p (15 * g + j) = true
      · rw [if_pos h, h, Nat.testBit_two_pow_self]; rfl
      · rw [if_neg h, Nat.zero_testBit]; simpa using h
    · have h0 : (if p (15 * g + k) then 2 ^ k else 0).testBit j = false := by
        split
        · rw [Nat.testBit_two_pow_of_ne (fun h => e h.symm)]
        · exact Nat.zero_testBit _
      rw [h0, Bool.or_false]
      congr 2
      apply propext
      omega
theorem mk_bit (p : Nat → Bool) (g j : Nat) : (mk p g).testBit j = (decide (j < 15) && p (15 * g + j)) := mkn_bit p g j 15
theorem mkn_lt (p : Nat → Bool) (g : Nat) : ∀ k, mkn p g k < 2 ^ k := by
  intro k
  induction k with
  | zero => exact Nat.zero_lt_one
  | succ k ih =>
    unfold mkn
    refine Nat.or_lt_two_pow (Nat.lt_trans ih (Nat.pow_lt_pow_right (by omega) (by omega))) ?_
    split
    · exact Nat.pow_lt_pow_right (by omega) (by omega)
    · exact Nat.pow_pos (by omega)
theorem mk_lt (p : Nat → Bool) (g : Nat) : mk p g < 32768 := mkn_lt p g 15
theorem mkn_lt2 (p : Nat → Bool) (g k : Nat) (hk : k ≤ 15) : mkn p g k < 32768 := Nat.lt_of_lt_of_le (mkn_lt p g k) (Nat.pow_le_pow_right (n := 2) (j := 15) (by omega) hk)
theorem bit_mk (p : Nat → Bool) (r : Nat) : bit (mk p) r = p r := by
  unfold bit
  rw [mk_bit, decide_eq_true (Nat.mod_lt _ (by omega)), Bool.true_and, show 15 * (r / 15) + r % 15 = r by omega]
theorem ms_eq {z y : Nat} (hz : z < 32768) (hy : y < 32768) (h : ∀ j, j < 15 → z.testBit j = y.testBit j) : z = y := by
  apply Nat.eq_of_testBit_eq
  intro j
  by_cases hj : j < 15
  · exact h j hj
  · rw [mk_hi hz (by omega), mk_hi hy (by omega)]
theorem bit_at (g : Nat → Nat) (i j : Nat) (hj : j < 15) : bit g (15 * i + j) = (g i).testBit j := by
  unfold bit
  rw [show (15 * i + j) / 15 = i by omega, show (15 * i + j) % 15 = j by omega]
theorem bm_eq {g f : Nat → Nat} {i : Nat} (hg : g i < 32768) (hf : f i < 32768) (h : ∀ r, 15 * i ≤ r → r < 15 * i + 15 → bit g r = bit f r) : g i = f i :=
  ms_eq hg hf (fun j hj => by rw [← bit_at g i j hj, ← bit_at f i j hj]; exact h _ (by omega) (by omega))
theorem bm_ext {g f : Nat → Nat} (hg : ∀ i, g i < 32768) (hf : ∀ i, f i < 32768) (h : ∀ r, bit g r = bit f r) : g = f := by
  funext i
  exact bm_eq (hg i) (hf i) (fun r _ _ => h r)
theorem mk_of {g : Nat → Nat} {p : Nat → Bool} (hg : ∀ i, g i < 32768) (h : ∀ r, bit g r = p r) : g = mk p :=
  bm_ext hg (mk_lt p) (fun r => by rw [bit_mk]; exact h r)
theorem mk_eq {p q : Nat → Bool} {i : Nat} (h : ∀ r, 15 * i ≤ r → r < 15 * i + 15 → p r = q r) : mk p i = mk q i :=
  bm_eq (mk_lt p i) (mk_lt q i) (fun r h1 h2 => by rw [bit_mk, bit_mk]; exact h r h1 h2)
theorem mk_ext {p q : Nat → Bool} (h : ∀ r, p r = q r) : mk p = mk q := congrArg mk (funext h)
-- ===== masks of a column's bitmaps =====
/-- the rows of bitmap j of component p, the rows having these values -/
def prd (rg : Bool) (b : Nat → Nat) (p : Nat) (w : Nat → Nat) (rows j : Nat) (r : Nat) : Bool := decide (r < rows) && (if rg then decide (dig b p (w r) ≤ j) else dig b p (w r) == j)
theorem mix_lt {i j : Nat} {f g : Nat → Nat} (h : j < i) : mix i f g j = f j := if_pos h
theorem IsC.ne {σ : ab_H} {h : Nat} {rg : Bool} {card parts : Nat} {b va : Nat → Nat} {G : Nat → Nat → Nat} {y : Nat} {c : ab_C} (hC : IsC σ h rg card parts b va G) (hy : y < h ∨ h + 6 + 2 * fsp rg b parts ≤ y) : IsC (ab_st σ y c) h rg card parts b va G := by
  obtain ⟨h0, h1, h2, h3, h4, h5, h6⟩ := hC
  exact ⟨st_e (by omega) h0, st_e (by omega) h1, st_e (by omega) h2, st_e (by omega) h3, st_e (by omega) h4, st_e (by omega) h5, fun i hi => (h6 i hi).ne (by omega) (by omega)⟩
theorem IsC.G {σ : ab_H} {h : Nat} {rg : Bool} {card parts : Nat} {b va : Nat → Nat} {G G' : Nat → Nat → Nat} (hC : IsC σ h rg card parts b va G) (hG : ∀ i, i < fsp rg b parts → G i = G' i) : IsC σ h rg card parts b va G' := by
  obtain ⟨h0, h1, h2, h3, h4, h5, h6⟩ := hC
  exact ⟨h0, h1, h2, h3, h4, h5, fun i hi => by rw [← hG i hi]; exact h6 i hi⟩
theorem IsC.stB {σ : ab_H} {h : Nat} {rg : Bool} {card parts : Nat} {b va : Nat → Nat} {G : Nat → Nat → Nat} {k : Nat} {f : Nat → Nat} (hC : IsC σ h rg card parts b va G) (hk : k < fsp rg b parts) (hf : ∀ i, f i < 32768) : IsC (ab_st σ (h + 6 + 2 * k + 1) (bmc f)) h rg card parts b va (ab_up G k f) := by
  obtain ⟨h0, h1, h2, h3, h4, h5, h6⟩ := hC
  refine ⟨st_e (by omega) h0, st_e (by omega) h1, st_e (by omega) h2, st_e (by omega) h3, st_e (by omega) h4, st_e (by omega) h5, fun i hi => ?_⟩
  by_cases e : i = k
  · subst e
    rw [ab_up_s]
    exact (h6 i hi).st hf
  · rw [ab_up_n e]
    exact (h6 i hi).ne (by omega) (by omega)
theorem IsC.stV {σ : ab_H} {h : Nat} {rg : Bool} {card parts : Nat} {b va : Nat → Nat} {G : Nat → Nat → Nat} {w : Nat → Nat} (hC : IsC σ h rg card parts b va G) : IsC (ab_st σ (h + 4) (ints 1500 w)) h rg card parts b w G := by
  obtain ⟨h0, h1, h2, h3, h4, h5, h6⟩ := hC
  exact ⟨st_e (by omega) h0, st_e (by omega) h1, st_e (by omega) h2, st_e (by omega) h3, st_s, st_e (by omega) h5, fun i hi => (h6 i hi).ne (by omega) (by omega)⟩
theorem ints_up (N : Nat) (g : Nat → Nat) (i z : Nat) : (.inr (.inl (0, N, ab_up (fun j => ((g j : Nat) : Int)) i (z : Int))) : ab_C) = ints N (ab_up g i z) := by
  show (Sum.inr (Sum.inl (0, N, _)) : ab_C) = Sum.inr (Sum.inl (0, N, _))
  congr 4
  funext j
  unfold ab_up
  split <;> rfl
section Gather
variable {σ : ab_H} {h : Nat} {rg : Bool} {card parts : Nat} {b : Nat → Nat} {va : Nat → Nat} {G : Nat → Nat → Nat}
set_option maxRecDepth 100000 in
set_option maxHeartbeats 1000000 in
theorem c_gatherMasks (hC : IsC σ h rg card parts b va G) (ho : okb card parts b) (p g rows : Nat) (hp : p < parts) (hg : g < 100) (hr : rows ≤ 1500) {x y : Nat} {w m : Nat → Nat} (hx : σ.2 x = some (ints 1500 w)) (hy : σ.2 y = some (ints 200 m)) (hxy : x ≠ y) (hyc : y < h ∨ h + 6 + 2 * fsp rg b parts ≤ y) (hw : ∀ r, w r < 1000) (hm : ∀ j, m j < 32768) : ab_ev 2 yX3_gatherMasks [rf h, .inl p, .inl g, .inl rows, rf x, rf y] σ none (ab_st σ y (ints 200 (mix (b p) (fun j => mk (prd rg b p w rows j) g) m))) := by
  obtain ⟨h0, h1, h2, h3, h4, h5, h6⟩ := id hC
  obtain ⟨o1, o2, o3, o4, o5, o6⟩ := id ho
  have hb := o3 p
  have hbR : ab_R ((b p : Nat) : Int) := rR (by omega) (by omega)
  have st : ∀ {k : Nat} {c d : ab_C}, k ≤ 5 → σ.2 (h + k) = some c → (ab_st σ y d).2 (h + k) = some c := fun hk hc => st_e (by omega) hc
  have h1' : ∀ d, (ab_st σ y d).2 (h + 1) = some (ints parts b) := fun d => st_e (by omega) h1
  have h0' : ∀ d, (ab_st σ y d).2 h = some _ := fun d => st_e (by omega) h0
  have hx' : ∀ d, (ab_st σ y d).2 x = some (ints 1500 w) := fun d => st_e hxy hx
  refine eX3_gatherMasks rfl (fun At hA => ?_)
  have k12 : ∀ (m' : Nat → Nat) (L : ab_L), m' = mix (b p) (fun j => mk (prd rg b p w rows j) g) m → At 12 L [] (ab_st σ y (ints 200 m')) 0 0 := fun m' L hm' => by
    subst hm'
    refine hA 12 _ rfl _ _ _ _ _ ?_
    exact ⟨rfl, rfl⟩
  -- the last loop: each has those of the one ahead too
  have loopC : rg = true → ∀ (n i : Nat) (y7 : Option ab_V), i + n = b p → 1 ≤ i → At 10 [some (rf h), some (.inl p), some (.inl g), some (.inl rows), some (rf x), some (rf y), some (.inl i), y7] [] (ab_st σ y (ints 200 (mix i (fun j => mk (prd true b p w rows j) g) (mix (b p) (fun j => mk (prd false b p w rows j) g) m)))) 0 0 := by
    intro hrg n
    induction n with
    | zero =>
      intro i y7 hi h1i
      refine hA 10 _ rfl _ _ _ _ _ ?_
      refine Exists.intro _ (And.intro (h0' _) ?_)
      refine Exists.intro _ (Exists.intro _ (And.intro (h1' _) (And.intro (by omega) ?_)))
      refine And.intro (And.intro (rR (by omega) (by omega)) hbR) (And.intro (fun q => ?_) (fun q => ?_))
      · refine k12 _ _ ?_
        rw [hrg]
        funext j
        unfold mix
        split <;> split <;> first | rfl | omega
      · have q : (i : Int) < ((b p : Nat) : Int) := q
        omega
    | succ n ih =>
      intro i y7 hi h1i
      refine hA 10 _ rfl _ _ _ _ _ ?_
      refine Exists.intro _ (And.intro (h0' _) ?_)
      refine Exists.intro _ (Exists.intro _ (And.intro (h1' _) (And.intro (by omega) ?_)))
      refine And.intro (And.intro (rR (by omega) (by omega)) hbR) (And.intro (fun q => ?_) (fun q => ?_))
      · have q : ((b p : Nat) : Int) ≤ (i : Int) := q
        omega
      · refine hA 11 _ rfl _ _ _ _ _ ?_
        refine Exists.intro _ (Exists.intro _ (And.intro (st_s) (And.intro (by omega) ?_)))
        refine Exists.intro _ (Exists.intro _ (And.intro (st_s) (And.intro (by omega) ?_)))
        refine Exists.intro _ (Exists.intro _ (And.intro (st_s) (And.intro (by omega) ?_)))
        have e1 : ((i : Int) - 1).toNat = i - 1 := by omega
        have v1 : mix i (fun j => mk (prd true b p w rows j) g) (mix (b p) (fun j => mk (prd false b p w rows j) g) m) i = mk (prd false b p w rows i) g := by
          rw [mix_ge (Nat.le_refl _), mix_lt (by omega)]
        have v2 : mix i (fun j => mk (prd true b p w rows j) g) (mix (b p) (fun j => mk (prd false b p w rows j) g) m) (i - 1) = mk (prd true b p w rows (i - 1)) g := by
          rw [mix_lt (by omega)]
        have v3 : mk (prd false b p w rows i) g ||| mk (prd true b p w rows (i - 1)) g = mk (prd true b p w rows i) g := by
          refine ms_eq (Nat.or_lt_two_pow (n := 15) (mk_lt _ _) (mk_lt _ _)) (mk_lt _ _) (fun j hj => ?_)
          rw [Nat.testBit_or, mk_bit, mk_bit, mk_bit, decide_eq_true hj, Bool.true_and, Bool.true_and, Bool.true_and]
          unfold prd
          rw [if_neg (by decide), if_pos rfl, if_pos rfl]
          cases decide (15 * g + j < rows) with
          | false => rfl
          | true =>
            rw [Bool.true_and, Bool.true_and, Bool.true_and, Bool.eq_iff_iff, Bool.or_eq_true, beq_iff_eq, decide_eq_true_iff, decide_eq_true_iff]
            omega
        have e2 := nb_or (a := mk (prd false b p w rows i) g) (b := mk (prd true b p w rows (i - 1)) g) (by have := mk_lt (prd false b p w rows i) g; omega) (by have := mk_lt (prd true b p w rows (i - 1)) g; omega)
        rw [v3] at e2
        rw [e1]
        show At 10 _ _ (ab_st (ab_st σ y _) y (.inr (.inl (0, 200, ab_up (fun j => ((mix i (fun j => mk (prd true b p w rows j) g) (mix (b p) (fun j => mk (prd false b p w rows j) g) m) j : Nat) : Int)) i (ab_or ((mix i (fun j => mk (prd true b p w rows j) g) (mix (b p) (fun j => mk (prd false b p w rows j) g) m) i : Nat) : Int) ((mix i (fun j => mk (prd true b p w rows j) g) (mix (b p) (fun j => mk (prd false b p w rows j) g) m) (i - 1) : Nat) : Int)))))) _ _
        rw [v1, v2, e2, st_st, mix_s i _ _ _ rfl]
        exact ih (i + 1) y7 (by omega) (by omega)
  have k8 : ∀ (y7 : Option ab_V), At 8 [some (rf h), some (.inl p), some (.inl g), some (.inl rows), some (rf x), some (rf y), some (.inl 15), y7] [] (ab_st σ y (ints 200 (mix (b p) (fun j => mk (prd false b p w rows j) g) m))) 0 0 := fun y7 => by
    refine hA 8 _ rfl _ _ _ _ _ ?_
    refine Exists.intro _ (And.intro (h0' _) ?_)
    refine And.intro (b2i_R rg) (And.intro (fun q => ?_) (fun q => ?_))
    · refine k12 _ _ ?_
      rw [b2i_0 q]
    · refine hA 9 _ rfl _ _ _ _ _ ?_
      have := loopC (b2i_1 q) (b p - 1) 1 y7 (by omega) (by omega)
      have e : mix 1 (fun j => mk (prd true b p w rows j) g) (mix (b p) (fun j => mk (prd false b p w rows j) g) m) = mix (b p) (fun j => mk (prd false b p w rows j) g) m := by
        funext j
        by_cases hj : j < 1
        · have hj0 : j = 0 := by omega
          subst hj0
          rw [mix_lt (by omega), mix_lt (by omega)]
          refine mk_eq (fun r _ _ => ?_)
          unfold prd
          rw [if_pos rfl, if_neg (by decide)]
          congr 1
          rw [Bool.eq_iff_iff, beq_iff_eq, decide_eq_true_iff]
          omega
        · rw [mix_ge (by omega)]
      rw [e] at this
      exact this
  have loopB : ∀ (n i : Nat) (y7 : Option ab_V), i + n = 15 → At 4 [some (rf h), some (.inl p), some (.inl g), some (.inl rows), some (rf x), some (rf y), some (.inl i), y7] [] (ab_st σ y (ints 200 (mix (b p) (fun j => mkn (prd false b p w rows j) g i) m))) 0 0 := by
    intro n
    induction n with
    | zero =>
      intro i y7 hi
      have hi : i = 15 := by omega
      subst hi
      refine hA 4 _ rfl _ _ _ _ _ ?_
      refine And.intro (And.intro (by first | assumption | exact b2i_R _ | exact rR (by omega) (by omega) | exact rR (by simp only [Int.toNat_natCast]; omega) (by simp only [Int.toNat_natCast]; omega)) (by first | assumption | exact b2i_R _ | exact rR (by omega) (by omega) | exact rR (by simp only [Int.toNat_natCast]; omega) (by simp only [Int.toNat_natCast]; omega))) (And.intro (fun q => ?_) (fun q => ?_))
      · exact k8 y7
      · omega
    | succ n ih =>
      intro i y7 hi
      have hstep : ∀ (F : Nat → Nat) (y7 : Option ab_V), F = mix (b p) (fun j => mkn (prd false b p w rows j) g (i + 1)) m → At 7 [some (rf h), some (.inl p), some (.inl g), some (.inl rows), some (rf x), some (rf y), some (.inl i), y7] [] (ab_st σ y (ints 200 F)) 0 0 := fun F y7 hF => by
        subst hF
        refine hA 7 _ rfl _ _ _ _ _ ?_
        exact ih (i + 1) y7 (by omega)
      have er : (g : Int) * 15 + (i : Int) = ((15 * g + i : Nat) : Int) := by omega
      refine hA 4 _ rfl _ _ _ _ _ ?_
      refine And.intro (And.intro (by first | assumption | exact b2i_R _ | exact rR (by omega) (by omega) | exact rR (by simp only [Int.toNat_natCast]; omega) (by simp only [Int.toNat_natCast]; omega)) (by first | assumption | exact b2i_R _ | exact rR (by omega) (by omega) | exact rR (by simp only [Int.toNat_natCast]; omega) (by simp only [Int.toNat_natCast]; omega))) (And.intro (fun q => ?_) (fun q => ?_))
      · omega
      · refine hA 5 _ rfl _ _ _ _ _ ?_
        refine And.intro (And.intro (rR (by omega) (by omega)) (rR (by omega) (by omega))) (And.intro (fun q => ?_) (fun q => ?_))
        · refine hstep _ _ ?_
          funext j
          unfold mix
          split
          · show mkn _ g i = mkn _ g i ||| _
            rw [if_neg (by unfold prd; rw [decide_eq_false (by omega)]; simp), Nat.or_zero]
          · rfl
        · have hlt : 15 * g + i < rows := by omega
          have hd := dig_lt o3 p (w (15 * g + i))
          have hdg := hw (15 * g + i)
          rw [er]
          refine hA 6 _ rfl _ _ _ _ _ ?_
          refine Exists.intro _ (Exists.intro _ (And.intro (hx' _) (And.intro (by omega) ?_)))
          refine Exists.intro _ (And.intro (h0' _) (And.intro rfl (ab_inv_ev (c_digitOf (hC.ne hyc) ho p (w (15 * g + i)) hp (by omega)) (by decide) (Nat.le_refl _) (Nat.le_refl _) ?_)))
          refine Exists.intro _ (Exists.intro _ (And.intro (st_s) (And.intro (by omega) ?_)))
          refine Exists.intro _ (Exists.intro _ (And.intro (st_s) (And.intro (by omega) ?_)))
          have v1 : mix (b p) (fun j => mkn (prd false b p w rows j) g i) m (dig b p (w (15 * g + i))) = mkn (prd false b p w rows (dig b p (w (15 * g + i)))) g i := mix_lt hd
          have es := nb_shl (a := 1) (k := i) (by omega) (by have : 2 ^ i ≤ 2 ^ 14 := Nat.pow_le_pow_right (by omega) (by omega); omega)
          rw [Nat.one_mul] at es
          have e2 := nb_or (a := mkn (prd false b p w rows (dig b p (w (15 * g + i)))) g i) (b := 2 ^ i) (by have := mkn_lt2 (prd false b p w rows (dig b p (w (15 * g + i)))) g i (by omega); omega) (by have : 2 ^ i ≤ 2 ^ 14 := Nat.pow_le_pow_right (by omega) (by omega); omega)
          show At 7 _ _ (ab_st (ab_st σ y _) y (.inr (.inl (0, 200, ab_up (fun j => ((mix (b p) (fun j => mkn (prd false b p w rows j) g i) m j : Nat) : Int)) (dig b p (w (15 * g + i))) (ab_or ((mix (b p) (fun j => mkn (prd false b p w rows j) g i) m (dig b p (w (15 * g + i))) : Nat) : Int) (ab_shl ((1 : Nat) : Int) (i : Int))))))) _ _
          rw [v1, es, e2, st_st, ints_up]
          refine hstep _ _ ?_
          funext j
          by_cases e : j = dig b p (w (15 * g + i))
          · subst e
            rw [ab_up_s, mix_lt hd]
            show _ = mkn _ g i ||| _
            rw [if_pos (by unfold prd; rw [decide_eq_true hlt, if_neg (by decide)]; simp)]
          · rw [ab_up_n e]
            unfold mix
            split
            · show mkn _ g i = mkn _ g i ||| _
              rw [if_neg (by unfold prd; rw [decide_eq_true hlt, if_neg (by decide)]; simp; exact fun h => e h.symm), Nat.or_zero]
            · rfl
  have loopA : ∀ (n i : Nat), i + n = b p → At 1 [some (rf h), some (.inl p), some (.inl g), some (.inl rows), some (rf x), some (rf y), some (.inl i), none] [] (ab_st σ y (ints 200 (mix i (fun _ => 0) m))) 0 0 := by
    intro n
    induction n with
    | zero =>
      intro i hi
      have hi : i = b p := by omega
      subst hi
      refine hA 1 _ rfl _ _ _ _ _ ?_
      refine Exists.intro _ (And.intro (h0' _) ?_)
      refine Exists.intro _ (Exists.intro _ (And.intro (h1' _) (And.intro (by omega) ?_)))
      refine And.intro (And.intro (rR (by omega) (by omega)) hbR) (And.intro (fun q => ?_) (fun q => ?_))
      · refine hA 3 _ rfl _ _ _ _ _ ?_
        exact loopB 15 0 none rfl
      · have q : ((b p : Nat) : Int) < ((b p : Nat) : Int) := q
        omega
    | succ n ih =>
      intro i hi
      refine hA 1 _ rfl _ _ _ _ _ ?_
      refine Exists.intro _ (And.intro (h0' _) ?_)
      refine Exists.intro _ (Exists.intro _ (And.intro (h1' _) (And.intro (by omega) ?_)))
      refine And.intro (And.intro (rR (by omega) (by omega)) hbR) (And.intro (fun q => ?_) (fun q => ?_))
      · have q : ((b p : Nat) : Int) ≤ (i : Int) := q
        omega
      · refine hA 2 _ rfl _ _ _ _ _ ?_
        refine Exists.intro _ (Exists.intro _ (And.intro (st_s) (And.intro (by omega) ?_)))
        show At 1 _ _ (ab_st (ab_st σ y _) y (.inr (.inl (0, 200, ab_up (fun j => ((mix i (fun _ => 0) m j : Nat) : Int)) i 0)))) _ _
        rw [st_st, mix_s i (fun _ => 0) m 0 rfl]
        exact ih (i + 1) (by omega)
  refine hA 0 _ rfl _ _ _ _ _ ?_
  have := loopA (b p) 0 (by omega)
  rw [mix_0, st_id hy] at this
  exact this
end Gather
