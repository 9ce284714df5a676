-- ===== answers: the stack =====
def sk6 (τ : ab_H) (S : Nat → V1) : Prop := ∀ j, j < 6 → IsB τ (38 + 2 * j) (S j)
def stl (S : Nat → V1) : Nat → List V1
  | 0 => []
  | t + 1 => S t :: stl S t
theorem stl_up (S : Nat → V1) (j : Nat) (v : V1) : ∀ t, t ≤ j → stl (ab_up S j v) t = stl S t := by
  intro t
  induction t with
  | zero => intro _; rfl
  | succ t ih => intro h; show ab_up S j v t :: stl (ab_up S j v) t = S t :: stl S t; rw [ih (by omega), ab_up_n (by omega)]
theorem sk6.st {τ : ab_H} {S : Nat → V1} (h : sk6 τ S) {j : Nat} (hj : j < 6) {v : V1} (hv : ∀ i, v i < 32768) : sk6 (ab_st τ (38 + 2 * j + 1) (bmc v)) (ab_up S j v) := fun i hi => by
  by_cases e : i = j
  · subst e; rw [ab_up_s]; exact (h i hi).st hv
  · rw [ab_up_n e]; exact (h i hi).ne (by omega) (by omega)
theorem sk6.ne {τ : ab_H} {S : Nat → V1} (h : sk6 τ S) {a : Nat} {x : ab_C} (ha : a < 38) : sk6 (ab_st τ a x) S := fun i hi => (h i hi).ne (by omega) (by omega)
theorem sk6.lf {τ υ : ab_H} {S : Nat → V1} (h : sk6 τ S) {j : Nat} (hj : j < 6) {z : Z4} (hL : lzF τ υ (38 + 2 * j) z) : sk6 υ (ab_up S j z.1) := fun i hi => by
  by_cases e : i = j
  · subst e; rw [ab_up_s]; exact hL.2.1
  · rw [ab_up_n e]; exact (h i hi).fr hL.1 (by unfold leA; omega) (by unfold leA; omega)
section Ans3
variable {σ : ab_H} {cc rows : Nat} {K : Nat → CT} {va : Nat → Nat → Nat} {ad : Nat → Nat} {R : Nat → V1}
/-- what answering leaves: the answer's bitmap, what it cost -/
def anQ (rows : Nat) (σ : ab_H) (v : V1) (k : C3) (live : V1) (σ' : ab_H) : Prop := fr anA σ σ' ∧ (∃ S : Nat → V1, sk6 σ' S ∧ S 0 = jn 0 v live) ∧ (∃ s : V1, IsB σ' 35 s) ∧ σ'.2 37 = some (spc (k.1 + 1, k.2.1 + 1, k.2.2 + stp (gu rows) v live))
set_option maxRecDepth 100000 in
set_option maxHeartbeats 1000000 in
theorem c_answerTo0 (hX : anX σ cc rows K va ad R) {g : Nat → Int} (h37 : σ.2 37 = some (.inr (.inl (0, 3, g)))) (hg : ∀ j, 3 ≤ j → g j = 0) {S0 : Nat → V1} (hS : sk6 σ S0) {s0 : V1} (hsp : IsB σ 35 s0) {NL : List N3} (hN : NS σ true NL) (hw : wfN cc NL 0 1) {v : V1} {k : C3} (hr : rnN rows K va R NL [] (0, 0, 0) = ([v], k)) : ab_call 7 0 0 yX0_answerTo [rf 33, rf 29] σ (fun r σ' => r = .inl (some (rf 38)) ∧ anQ rows σ v k (R 6) σ') := by
  obtain ⟨L, cl, co, nu, l1, l29, l30, l31, l32, l6⟩ := hN
  obtain ⟨l7, l8⟩ := l6 rfl
  have nq : ∀ a, a < 35 ∨ 49 < a → ¬ anA a := fun a ha hq => by unfold anA at hq; omega
  refine eX0_answerTo rfl (fun At hA => ?_)
  have loop : ∀ (l pre : List N3) (τ : ab_H) (S : Nat → V1) (t : Nat) (c : C3) (y4 : Option ab_V), NL = pre ++ l → fr anA σ τ → sk6 τ S → (∃ s : V1, IsB τ 35 s) → τ.2 37 = some (spc c) → t ≤ 6 → wfN cc l t 1 → rnN rows K va R l (stl S t) c = ([v], k) → At 4 [some (rf 33), some (rf 29), some (.inl t), some (.inl pre.length), y4] [] τ 0 0 := by
    intro l
    induction l with
    | nil =>
      intro pre τ S t c y4 hNL hf hS hs q37 ht hw hr
      have hw : t = 1 := hw
      subst hw
      have hr : (stl S 1, c) = ([v], k) := hr
      have e1 : S 0 = v := by
        have := congrArg Prod.fst hr
        have : [S 0] = [v] := this
        injection this
      have e2 : c = k := congrArg Prod.snd hr
      subst e1 e2
      have q29 := (hf.2 29 (nq _ (by omega))).trans l29
      have hX1 := hX.fr hf (fun a h => h)
      obtain ⟨q33, q3, qr, q5, qC, qR, q34⟩ := id hX1
      have hlen : pre.length = L := by rw [l7, hNL, List.append_nil]
      have hB0 := hS 0 (by omega)
      have hB6 := qR 6 (by omega)
      obtain ⟨s, hs⟩ := hs
      refine hA 4 _ rfl _ _ _ _ _ ?_
      refine Exists.intro _ (And.intro (by first | assumption | exact st_s | exact st_e (by decide) (by assumption) | exact st_e (by omega) (by assumption) | exact st_e (by decide) st_s | exact st_e (by omega) st_s | exact st_e (by decide) (st_e (by decide) (by assumption)) | exact st_e (by omega) (st_e (by omega) (by assumption))) ?_)
      refine And.intro (And.intro (by first | assumption | exact b2i_R _ | exact rR (by omega) (by omega) | exact rR (by simp only [Int.toNat_natCast]; omega) (by simp only [Int.toNat_natCast]; omega)) (by first | assumption | exact b2i_R _ | exact rR (by omega) (by omega) | exact rR (by simp only [Int.toNat_natCast]; omega) (by simp only [Int.toNat_natCast]; omega))) (And.intro (fun q => ?_) (fun q => ?_))
      · refine hA 15 _ rfl _ _ _ _ _ ?_
        refine Exists.intro _ (And.intro (by first | assumption | exact st_s | exact st_e (by decide) (by assumption) | exact st_e (by omega) (by assumption) | exact st_e (by decide) st_s | exact st_e (by omega) st_s | exact st_e (by decide) (st_e (by decide) (by assumption)) | exact st_e (by omega) (st_e (by omega) (by assumption))) ?_)
        refine Exists.intro _ (Exists.intro _ (And.intro (by first | assumption | exact st_s | exact st_e (by decide) (by assumption) | exact st_e (by omega) (by assumption) | exact st_e (by decide) st_s | exact st_e (by omega) st_s | exact st_e (by decide) (st_e (by decide) (by assumption)) | exact st_e (by omega) (st_e (by omega) (by assumption))) (And.intro (by first | omega | (simp only [Int.toNat_natCast]; omega)) ?_)))
        refine Exists.intro _ (And.intro (by first | assumption | exact st_s | exact st_e (by decide) (by assumption) | exact st_e (by omega) (by assumption) | exact st_e (by decide) st_s | exact st_e (by omega) st_s | exact st_e (by decide) (st_e (by decide) (by assumption)) | exact st_e (by omega) (st_e (by omega) (by assumption))) ?_)
        refine Exists.intro _ (And.intro (by first | assumption | exact st_s | exact st_e (by decide) (by assumption) | exact st_e (by omega) (by assumption) | exact st_e (by decide) st_s | exact st_e (by omega) st_s | exact st_e (by decide) (st_e (by decide) (by assumption)) | exact st_e (by omega) (st_e (by omega) (by assumption))) (And.intro rfl (ab_inv_ev (c_live q3 q5) (by first | decide | omega) (Nat.le_refl _) (Nat.le_refl _) ?_)))
        refine Exists.intro _ (And.intro (by first | assumption | exact st_s | exact st_e (by decide) (by assumption) | exact st_e (by omega) (by assumption) | exact st_e (by decide) st_s | exact st_e (by omega) st_s | exact st_e (by decide) (st_e (by decide) (by assumption)) | exact st_e (by omega) (st_e (by omega) (by assumption))) (And.intro rfl (ab_inv_ev (c_read q33 q37 _) (by first | decide | omega) (Nat.le_refl _) (Nat.le_refl _) ?_)))
        refine Exists.intro _ (And.intro (by first | assumption | exact st_s | exact st_e (by decide) (by assumption) | exact st_e (by omega) (by assumption) | exact st_e (by decide) st_s | exact st_e (by omega) st_s | exact st_e (by decide) (st_e (by decide) (by assumption)) | exact st_e (by omega) (st_e (by omega) (by assumption))) (And.intro rfl (ab_inv_ev (c_join (k := 0) (st_e (by decide) q33) (st_e (by decide) q3) qr st_s (by omega) (hB0.ne (by omega) (by omega)) (hB6.ne (by omega) (by omega)) (by omega)) (by first | decide | omega) (Nat.le_refl _) (Nat.le_refl _) ?_)))
        refine Exists.intro _ (And.intro (by first | assumption | exact st_s | exact st_e (by decide) (by assumption) | exact st_e (by omega) (by assumption) | exact st_e (by decide) st_s | exact st_e (by omega) st_s | exact st_e (by decide) (st_e (by decide) (by assumption)) | exact st_e (by omega) (st_e (by omega) (by assumption))) ?_)
        refine Exists.intro _ (Exists.intro _ (And.intro (by first | assumption | exact st_s | exact st_e (by decide) (by assumption) | exact st_e (by omega) (by assumption) | exact st_e (by decide) st_s | exact st_e (by omega) st_s | exact st_e (by decide) (st_e (by decide) (by assumption)) | exact st_e (by omega) (st_e (by omega) (by assumption))) (And.intro (by first | omega | (simp only [Int.toNat_natCast]; omega)) ?_)))
        refine ⟨rfl, ((hf.st (by unfold anA; omega)).st (by unfold anA; omega)).st (by unfold anA; omega), ⟨_, ((hS.ne (by omega)).ne (by omega)).st (j := 0) (by omega) (fun i => jo_lt (hB0.2.2 i) (hB6.2.2 i)), ab_up_s⟩, ⟨s, ((hs.ne (by omega) (by omega)).ne (by omega) (by omega)).ne (by omega) (by omega)⟩, st_e (by decide) st_s⟩
      · omega
    | cons x l ih =>
      intro pre τ S t c y4 hNL hf hS hs q37 ht hw hr
      obtain ⟨i, cn, n⟩ := x
      have hlen : pre.length < L := by rw [l7, hNL, List.length_append, List.length_cons]; omega
      obtain ⟨m1, m2, m3⟩ := l8 pre.length hlen
      have hget : NL.getD pre.length (0, 0, 0) = (i, cn, n) := by rw [hNL]; simp [List.getD]
      rw [hget] at m1 m2 m3
      have m1 : cl pre.length = (i : Nat) := m1
      have m2 : co pre.length = (cn : Nat) := m2
      have m3 : nu pre.length = (n : Nat) := m3
      have q29 := (hf.2 29 (nq _ (by omega))).trans l29
      have q30 := (hf.2 30 (nq _ (by omega))).trans l30
      have q31 := (hf.2 31 (nq _ (by omega))).trans l31
      have q32 := (hf.2 32 (nq _ (by omega))).trans l32
      have hX1 := hX.fr hf (fun a h => h)
      obtain ⟨q33, q3, qr, q5, qC, qR, q34⟩ := id hX1
      obtain ⟨s, hs⟩ := hs
      have hi15 : i < 15 := by
        by_cases h1 : i = 11
        · omega
        · by_cases h2 : 7 ≤ i ∧ i ≤ 10
          · omega
          · have hw : t < 6 ∧ okL cc i cn n ∧ wfN cc l (t + 1) 1 := by
              have hw : (if i = 11 then 1 ≤ t ∧ wfN cc l t 1 else if 7 ≤ i ∧ i ≤ 10 then 2 ≤ t ∧ wfN cc l (t - 1) 1 else t < 6 ∧ okL cc i cn n ∧ wfN cc l (t + 1) 1) := hw
              rw [if_neg h1, if_neg h2] at hw
              exact hw
            exact hw.2.1.2.2.2
      have hpre : ∀ (τ2 : ab_H) (S2 : Nat → V1) (t2 : Nat) (c2 : C3), fr anA σ τ2 → sk6 τ2 S2 → (∃ s : V1, IsB τ2 35 s) → τ2.2 37 = some (spc c2) → t2 ≤ 6 → wfN cc l t2 1 → rnN rows K va R l (stl S2 t2) c2 = ([v], k) → At 14 [some (rf 33), some (rf 29), some (.inl t2), some (.inl pre.length), some (.inl i)] [] τ2 0 0 := fun τ2 S2 t2 c2 a1 a2 a3 a4 a5 a6 a7 => by
        refine hA 14 _ rfl _ _ _ _ _ ?_
        have := ih (pre ++ [(i, cn, n)]) τ2 S2 t2 c2 (some (.inl i)) (by rw [hNL, List.append_assoc]; rfl) a1 a2 a3 a4 a5 a6 a7
        rw [List.length_append] at this
        exact this
      have k5 : At 5 [some (rf 33), some (rf 29), some (.inl t), some (.inl pre.length), y4] [] τ 0 0 := by
        refine hA 5 _ rfl _ _ _ _ _ ?_
        refine Exists.intro _ (And.intro (q29) ?_)
        refine Exists.intro _ (Exists.intro _ (And.intro (q30) (And.intro (by omega) ?_)))
        rw [show cl ((pre.length : Nat) : Int).toNat = ((i : Nat) : Int) from m1]
        have hw : (if i = 11 then 1 ≤ t ∧ wfN cc l t 1 else if 7 ≤ i ∧ i ≤ 10 then 2 ≤ t ∧ wfN cc l (t - 1) 1 else t < 6 ∧ okL cc i cn n ∧ wfN cc l (t + 1) 1) := hw
        have k12 : ¬ i = 11 → ¬ (7 ≤ i ∧ i ≤ 10) → At 12 [some (rf 33), some (rf 29), some (.inl t), some (.inl pre.length), some (.inl i)] [] τ 0 0 := fun h1 h2 => by
          rw [if_neg h1, if_neg h2] at hw
          have hB := hS t hw.1
          have hcall := c_makeLeaf hX1 q37 (h := 38 + 2 * t) (by omega) hB hs i cn n hw.2.1
          refine hA 12 _ rfl _ _ _ _ _ ?_
          refine Exists.intro _ (And.intro (by first | assumption | exact st_s | exact st_e (by decide) (by assumption) | exact st_e (by omega) (by assumption) | exact st_e (by decide) st_s | exact st_e (by omega) st_s | exact st_e (by decide) (st_e (by decide) (by assumption)) | exact st_e (by omega) (st_e (by omega) (by assumption))) ?_)
          refine Exists.intro _ (Exists.intro _ (And.intro (by first | assumption | exact st_s | exact st_e (by decide) (by assumption) | exact st_e (by omega) (by assumption) | exact st_e (by decide) st_s | exact st_e (by omega) st_s | exact st_e (by decide) (st_e (by decide) (by assumption)) | exact st_e (by omega) (st_e (by omega) (by assumption))) ?_))
          refine And.intro (And.intro (by first | assumption | exact b2i_R _ | exact rR (by omega) (by omega) | exact rR (by simp only [Int.toNat_natCast]; omega) (by simp only [Int.toNat_natCast]; omega)) (by first | assumption | exact b2i_R _ | exact rR (by omega) (by omega) | exact rR (by simp only [Int.toNat_natCast]; omega) (by simp only [Int.toNat_natCast]; omega))) (And.intro (fun q => ?_) (fun q => ?_))
          · omega
          · refine hA 13 _ rfl _ _ _ _ _ ?_
            refine Exists.intro _ (And.intro (q29) ?_)
            refine Exists.intro _ (Exists.intro _ (And.intro (q31) (And.intro (by omega) ?_)))
            refine Exists.intro _ (And.intro (q29) ?_)
            refine Exists.intro _ (Exists.intro _ (And.intro (q32) (And.intro (by omega) ?_)))
            refine Exists.intro _ (And.intro (q33) ?_)
            refine Exists.intro _ (Exists.intro _ (And.intro (q34) (And.intro (by omega) ?_)))
            rw [show co ((pre.length : Nat) : Int).toNat = ((cn : Nat) : Int) from m2, show nu ((pre.length : Nat) : Int).toNat = ((n : Nat) : Int) from m3]
            simp only [Int.toNat_natCast]
            refine Exists.intro _ (And.intro q33 (And.intro rfl (ab_inv_of hcall (by first | decide | omega) (by omega) (by omega) ?_)))
            intro r υ hpost
            obtain ⟨rfl, hL⟩ := hpost
            refine hpre υ (ab_up S t (leafZ rows K va R i cn n c).1) (t + 1) (leafZ rows K va R i cn n c).2 (hf.tr (hL.1.mono (leA_a (by omega)))) (hS.lf hw.1 hL) hL.2.2.1 hL.2.2.2 (by omega) hw.2.2 ?_
            rw [← hr]
            show rnN rows K va R l (ab_up S t _ t :: stl (ab_up S t _) t) _ = rnN rows K va R ((i, cn, n) :: l) (stl S t) c
            rw [ab_up_s, stl_up S t _ t (Nat.le_refl _)]
            show _ = if i = 11 then _ else if 7 ≤ i ∧ i ≤ 10 then _ else _
            rw [if_neg h1, if_neg h2]
        have k8 : ¬ i = 11 → At 8 [some (rf 33), some (rf 29), some (.inl t), some (.inl pre.length), some (.inl i)] [] τ 0 0 := fun h1 => by
          refine hA 8 _ rfl _ _ _ _ _ ?_
          refine And.intro (And.intro (by first | assumption | exact b2i_R _ | exact rR (by omega) (by omega) | exact rR (by simp only [Int.toNat_natCast]; omega) (by simp only [Int.toNat_natCast]; omega)) (by first | assumption | exact b2i_R _ | exact rR (by omega) (by omega) | exact rR (by simp only [Int.toNat_natCast]; omega) (by simp only [Int.toNat_natCast]; omega))) (And.intro (fun q => ?_) (fun q => ?_))
          · exact k12 h1 (by omega)
          · refine hA 9 _ rfl _ _ _ _ _ ?_
            refine And.intro (And.intro (by first | assumption | exact b2i_R _ | exact rR (by omega) (by omega) | exact rR (by simp only [Int.toNat_natCast]; omega) (by simp only [Int.toNat_natCast]; omega)) (by first | assumption | exact b2i_R _ | exact rR (by omega) (by omega) | exact rR (by simp only [Int.toNat_natCast]; omega) (by simp only [Int.toNat_natCast]; omega))) (And.intro (fun q => ?_) (fun q => ?_))
            · exact k12 h1 (by omega)
            · have h2 : 7 ≤ i ∧ i ≤ 10 := by omega
              rw [if_neg h1, if_pos h2] at hw
              obtain ⟨w1, w2⟩ := hw
              refine hA 10 _ rfl _ _ _ _ _ ?_
              refine And.intro (And.intro (by first | assumption | exact b2i_R _ | exact rR (by omega) (by omega) | exact rR (by simp only [Int.toNat_natCast]; omega) (by simp only [Int.toNat_natCast]; omega)) (by first | assumption | exact b2i_R _ | exact rR (by omega) (by omega) | exact rR (by simp only [Int.toNat_natCast]; omega) (by simp only [Int.toNat_natCast]; omega))) (And.intro (fun q => ?_) (fun q => ?_))
              · omega
              · obtain ⟨t', rfl⟩ : ∃ t', t = t' + 2 := ⟨t - 2, by omega⟩
                have e1 : ((t' + 2 : Nat) : Int) + -1 = ((t' + 1 : Nat) : Int) := by omega
                have e2 : ((t' + 1 : Nat) : Int) - 1 = ((t' : Nat) : Int) := by omega
                have e3 : ((i : Nat) : Int) - 7 = ((i - 7 : Nat) : Int) := by omega
                have hB1 := hS t' (by omega)
                have hB2 := hS (t' + 1) (by omega)
                have hcall := c_join q33 q3 qr q37 (i - 7) (by omega) hB1 hB2 (by omega)
                refine hA 11 _ rfl _ _ _ _ _ ?_
                refine Exists.intro _ (And.intro (q33) ?_)
                rw [e1]
                refine Exists.intro _ (Exists.intro _ (And.intro (q34) (And.intro (by omega) ?_)))
                refine Exists.intro _ (And.intro (q33) ?_)
                refine Exists.intro _ (Exists.intro _ (And.intro (q34) (And.intro (by omega) ?_)))
                rw [e2, e3]
                simp only [Int.toNat_natCast]
                refine Exists.intro _ (And.intro q33 (And.intro rfl (ab_inv_ev hcall (by first | decide | omega) (Nat.le_refl _) (Nat.le_refl _) ?_)))
                refine hpre _ (ab_up S t' (jn (i - 7) (S t') (S (t' + 1)))) (t' + 1) _ ((hf.st (by unfold anA; omega)).st (by unfold anA; omega)) ((hS.ne (by omega)).st (by omega) (fun j => jo_lt (hB1.2.2 j) (hB2.2.2 j))) ⟨s, (hs.ne (by omega) (by omega)).ne (by omega) (by omega)⟩ (st_e (by omega) st_s) (by omega) w2 ?_
                rw [← hr]
                show rnN rows K va R l (ab_up S t' _ t' :: stl (ab_up S t' _) t') _ = rnN rows K va R ((i, cn, n) :: l) (S (t' + 1) :: S t' :: stl S t') c
                rw [ab_up_s, stl_up S t' _ t' (Nat.le_refl _)]
                show _ = if i = 11 then _ else if 7 ≤ i ∧ i ≤ 10 then _ else _
                rw [if_neg h1, if_pos h2]
        refine And.intro (And.intro (rR (by omega) (by omega)) (rR (by omega) (by omega))) (And.intro (fun q => ?_) (fun q => ?_))
        · exact k8 (by omega)
        · have h1 : i = 11 := by omega
          rw [if_pos h1] at hw
          obtain ⟨w1, w2⟩ := hw
          refine hA 6 _ rfl _ _ _ _ _ ?_
          refine And.intro (And.intro (by first | assumption | exact b2i_R _ | exact rR (by omega) (by omega) | exact rR (by simp only [Int.toNat_natCast]; omega) (by simp only [Int.toNat_natCast]; omega)) (by first | assumption | exact b2i_R _ | exact rR (by omega) (by omega) | exact rR (by simp only [Int.toNat_natCast]; omega) (by simp only [Int.toNat_natCast]; omega))) (And.intro (fun q => ?_) (fun q => ?_))
          · omega
          · obtain ⟨t', rfl⟩ : ∃ t', t = t' + 1 := ⟨t - 1, by omega⟩
            have e2 : ((t' + 1 : Nat) : Int) - 1 = ((t' : Nat) : Int) := by omega
            have hB1 := hS t' (by omega)
            have hcall := c_turnAround q33 q3 qr q37 hB1 (by omega)
            refine hA 7 _ rfl _ _ _ _ _ ?_
            refine Exists.intro _ (And.intro (q33) ?_)
            refine Exists.intro _ (Exists.intro _ (And.intro (q34) (And.intro (by omega) ?_)))
            rw [e2]
            simp only [Int.toNat_natCast]
            refine Exists.intro _ (And.intro q33 (And.intro rfl (ab_inv_ev hcall (by first | decide | omega) (Nat.le_refl _) (Nat.le_refl _) ?_)))
            refine hpre _ (ab_up S t' (tn rows (S t'))) (t' + 1) _ ((hf.st (by unfold anA; omega)).st (by unfold anA; omega)) ((hS.ne (by omega)).st (by omega) (fun j => tn_lt _ _ j)) ⟨s, (hs.ne (by omega) (by omega)).ne (by omega) (by omega)⟩ (st_e (by omega) st_s) (by omega) w2 ?_
            rw [← hr]
            show rnN rows K va R l (ab_up S t' _ t' :: stl (ab_up S t' _) t') _ = rnN rows K va R ((i, cn, n) :: l) (S t' :: stl S t') c
            rw [ab_up_s, stl_up S t' _ t' (Nat.le_refl _)]
            show _ = if i = 11 then _ else _
            rw [if_pos h1]
      refine hA 4 _ rfl _ _ _ _ _ ?_
      refine Exists.intro _ (And.intro (by first | assumption | exact st_s | exact st_e (by decide) (by assumption) | exact st_e (by omega) (by assumption) | exact st_e (by decide) st_s | exact st_e (by omega) st_s | exact st_e (by decide) (st_e (by decide) (by assumption)) | exact st_e (by omega) (st_e (by omega) (by assumption))) ?_)
      refine And.intro (And.intro (by first | assumption | exact b2i_R _ | exact rR (by omega) (by omega) | exact rR (by simp only [Int.toNat_natCast]; omega) (by simp only [Int.toNat_natCast]; omega)) (by first | assumption | exact b2i_R _ | exact rR (by omega) (by omega) | exact rR (by simp only [Int.toNat_natCast]; omega) (by simp only [Int.toNat_natCast]; omega))) (And.intro (fun q => ?_) (fun q => ?_))
      · omega
      · exact k5
  -- what it costs is set to 0
  have zero : ∀ (m j : Nat) (f : Nat → Int), j + m = 3 → (∀ i, i < j → f i = 0) → (∀ i, 3 ≤ i → f i = 0) → At 1 [some (rf 33), some (rf 29), some (.inl j), none, none] [] (ab_st σ 37 (.inr (.inl (0, 3, f)))) 0 0 := by
    intro m
    induction m with
    | zero =>
      intro j f hj hf hf3
      have q33 : (ab_st σ 37 (.inr (.inl (0, 3, f)))).2 33 = some anc := st_e (by decide) hX.1
      refine hA 1 _ rfl _ _ _ _ _ ?_
      refine Exists.intro _ (And.intro (by first | assumption | exact st_s | exact st_e (by decide) (by assumption) | exact st_e (by omega) (by assumption) | exact st_e (by decide) st_s | exact st_e (by omega) st_s | exact st_e (by decide) (st_e (by decide) (by assumption)) | exact st_e (by omega) (st_e (by omega) (by assumption))) ?_)
      refine Exists.intro _ (Exists.intro _ (And.intro (by first | assumption | exact st_s | exact st_e (by decide) (by assumption) | exact st_e (by omega) (by assumption) | exact st_e (by decide) st_s | exact st_e (by omega) st_s | exact st_e (by decide) (st_e (by decide) (by assumption)) | exact st_e (by omega) (st_e (by omega) (by assumption))) ?_))
      refine And.intro (And.intro (by first | assumption | exact b2i_R _ | exact rR (by omega) (by omega) | exact rR (by simp only [Int.toNat_natCast]; omega) (by simp only [Int.toNat_natCast]; omega)) (by first | assumption | exact b2i_R _ | exact rR (by omega) (by omega) | exact rR (by simp only [Int.toNat_natCast]; omega) (by simp only [Int.toNat_natCast]; omega))) (And.intro (fun q => ?_) (fun q => ?_))
      · have e : f = fun j => if j = 0 then (((0, 0, 0) : C3).1 : Int) else if j = 1 then (((0, 0, 0) : C3).2.1 : Int) else (((0, 0, 0) : C3).2.2 : Int) := by
          funext i
          have : f i = 0 := by
            by_cases h : i < 3
            · exact hf i (by omega)
            · exact hf3 i (by omega)
          rw [this]
          split
          · rfl
          · split <;> rfl
        rw [e]
        refine hA 3 _ rfl _ _ _ _ _ ?_
        exact loop NL [] _ S0 0 (0, 0, 0) _ rfl (fr_st (by unfold anA; omega)) (hS.ne (by omega)) ⟨s0, hsp.ne (by omega) (by omega)⟩ st_s (by omega) hw hr
      · omega
    | succ m ih =>
      intro j f hj hf hf3
      have q33 : (ab_st σ 37 (.inr (.inl (0, 3, f)))).2 33 = some anc := st_e (by decide) hX.1
      refine hA 1 _ rfl _ _ _ _ _ ?_
      refine Exists.intro _ (And.intro (by first | assumption | exact st_s | exact st_e (by decide) (by assumption) | exact st_e (by omega) (by assumption) | exact st_e (by decide) st_s | exact st_e (by omega) st_s | exact st_e (by decide) (st_e (by decide) (by assumption)) | exact st_e (by omega) (st_e (by omega) (by assumption))) ?_)
      refine Exists.intro _ (Exists.intro _ (And.intro (by first | assumption | exact st_s | exact st_e (by decide) (by assumption) | exact st_e (by omega) (by assumption) | exact st_e (by decide) st_s | exact st_e (by omega) st_s | exact st_e (by decide) (st_e (by decide) (by assumption)) | exact st_e (by omega) (st_e (by omega) (by assumption))) ?_))
      refine And.intro (And.intro (by first | assumption | exact b2i_R _ | exact rR (by omega) (by omega) | exact rR (by simp only [Int.toNat_natCast]; omega) (by simp only [Int.toNat_natCast]; omega)) (by first | assumption | exact b2i_R _ | exact rR (by omega) (by omega) | exact rR (by simp only [Int.toNat_natCast]; omega) (by simp only [Int.toNat_natCast]; omega))) (And.intro (fun q => ?_) (fun q => ?_))
      · omega
      · refine hA 2 _ rfl _ _ _ _ _ ?_
        refine Exists.intro _ (And.intro (by first | assumption | exact st_s | exact st_e (by decide) (by assumption) | exact st_e (by omega) (by assumption) | exact st_e (by decide) st_s | exact st_e (by omega) st_s | exact st_e (by decide) (st_e (by decide) (by assumption)) | exact st_e (by omega) (st_e (by omega) (by assumption))) ?_)
        refine Exists.intro _ (Exists.intro _ (And.intro (by first | assumption | exact st_s | exact st_e (by decide) (by assumption) | exact st_e (by omega) (by assumption) | exact st_e (by decide) st_s | exact st_e (by omega) st_s | exact st_e (by decide) (st_e (by decide) (by assumption)) | exact st_e (by omega) (st_e (by omega) (by assumption))) (And.intro (by first | omega | (simp only [Int.toNat_natCast]; omega)) ?_)))
        rw [st_st]
        refine ih (j + 1) _ (by omega) (fun i hi => ?_) (fun i hi => ?_)
        · show ab_up f j 0 i = 0
          unfold ab_up
          split
          · rfl
          · exact hf i (by omega)
        · show ab_up f j 0 i = 0
          rw [ab_up_n (by omega)]
          exact hf3 i hi
  refine hA 0 _ rfl _ _ _ _ _ ?_
  have := zero 3 0 g (by omega) (fun i hi => by omega) hg
  rw [st_id h37] at this
  exact this
theorem c_answerTo (hX : anX σ cc rows K va ad R) {g : Nat → Int} (h37 : σ.2 37 = some (.inr (.inl (0, 3, g)))) {S0 : Nat → V1} (hS : sk6 σ S0) {s0 : V1} (hsp : IsB σ 35 s0) {NL : List N3} (hN : NS σ true NL) (hw : wfN cc NL 0 1) {v : V1} {k : C3} (hr : rnN rows K va R NL [] (0, 0, 0) = ([v], k)) : ab_call 7 0 0 yX0_answerTo [rf 33, rf 29] σ (fun r σ' => r = .inl (some (rf 38)) ∧ anQ rows σ v k (R 6) σ') := by
  have hf : fr anA σ (ab_st σ 37 (.inr (.inl (0, 3, fun j => if j < 3 then g j else 0)))) := fr_st (by unfold anA; omega)
  refine hq_from (τ := ab_st σ 37 (.inr (.inl (0, 3, fun j => if j < 3 then g j else 0)))) (hq_set h37 (hq_ints (fun j hj => by rw [if_pos hj]))) ?_
  have := c_answerTo0 (σ := ab_st σ 37 (.inr (.inl (0, 3, fun j => if j < 3 then g j else 0)))) (hX.fr hf (fun a h => h)) st_s (fun j hj => if_neg (by omega)) (hS.ne (by omega)) (hsp.ne (by omega) (by omega)) (hN.fr hf (fun a h1 h2 h3 => by unfold anA at h3; omega)) hw hr
  refine ab_call_mono this (fun r σ' q => ?_)
  obtain ⟨rfl, q1, q2⟩ := q
  exact ⟨rfl, hf.tr q1, q2⟩
end Ans3
