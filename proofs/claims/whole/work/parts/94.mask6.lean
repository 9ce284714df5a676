-- ===== the model: asking =====
section Mask6
variable {σ τ : ab_H} {cc rows : Nat} {K : Nat → CT} {va : Nat → Nat → Nat} {R : Nat → V1} {f : Nat → Int} {n : Nat} {pl : Int} {c : C3} {t : Nat → Int} {r : Nat → Nat} {th : Int}
/-- what it cost last -/
theorem MI.tk (hI : MI σ cc rows K va R f n pl c t r th) {t' : Nat → Int} {c' : C3} (h24 : t' 24 = c'.1) (h25 : t' 25 = c'.2.1) (h26 : t' 26 = c'.2.2) (h : ∀ j, j = 0 ∨ j = 2 ∨ j = 5 ∨ j = 12 ∨ j = 13 → t' j = t j) : MI (ab_st σ 57 (m10 t')) cc rows K va R f n pl c' t' r th := by
  obtain ⟨w, s, co, v, gn, hm, ⟨f0, f1, f2, f3, f4, f5, f6, f7⟩, fx⟩ := hI
  exact ⟨w, s.ne (by omega), co, v, gn, hm.ut t', ⟨(h 0 (by omega)).trans f0, (h 2 (by omega)).trans f1, (h 5 (by omega)).trans f2, (h 12 (by omega)).trans f3, (h 13 (by omega)).trans f4, h24, h25, h26⟩, fx⟩
theorem rnA_s (x : N4) (l : List N4) (st : List V1) (k : C3) : rnA rows K va R (x :: l) st k = rnA rows K va R l (acZ rows K va R x st k).1 (acZ rows K va R x st k).2 := rnA_app [x] l st k
/-- one act of what is within the pile -/
theorem ac_step {x : N4} {l : List N4} {e : Nat} {st : List V1} {k : C3} (h : wfA cc (x :: l) st.length e) (hst : st.length ≤ 30) : okA cc x ∧ okS x st.length ∧ wfA cc l (acZ rows K va R x st k).1.length e ∧ (acZ rows K va R x st k).1.length ≤ 30 := by
  obtain ⟨i, a, b, c'⟩ := x
  rw [wfA_c] at h
  obtain ⟨h1, h⟩ := h
  refine ⟨h1, ?_⟩
  by_cases i6 : i ≤ 6
  · rw [if_pos i6] at h
    have hl : (acZ rows K va R (i, a, b, c') st k).1.length = st.length + 1 := by
      rw [ac_0 i6]
      split
      · obtain ⟨v, d, hv⟩ := lay_btw (rows := rows) (K := K) (va := va) (R := R) a b c'
        rw [hv]
        rfl
      · obtain ⟨v, d, hv⟩ := lay_cmp (rows := rows) (K := K) (va := va) (R := R) i a b
        rw [hv]
        rfl
    rw [hl]
    exact ⟨⟨hst, fun _ => h.1, fun q => by have q : 7 ≤ i ∧ i ≤ 10 := q; omega, fun q => by have q : i = 11 := q; omega, fun q => by have q : 12 ≤ i := q; omega⟩, h.2, by omega⟩
  · rw [if_neg i6] at h
    by_cases i10 : i ≤ 10
    · rw [if_pos i10] at h
      have hl : (acZ rows K va R (i, a, b, c') st k).1.length = st.length - a + 1 := by
        rw [ac_j (by omega)]
        show (st.drop a).length + 1 = _
        rw [List.length_drop]
      rw [hl]
      exact ⟨⟨hst, fun q => absurd q i6, fun _ => ⟨h.1, h.2.1⟩, fun q => by have q : i = 11 := q; omega, fun q => by have q : 12 ≤ i := q; omega⟩, h.2.2, by omega⟩
    · rw [if_neg i10] at h
      by_cases i11 : i = 11
      · rw [if_pos i11] at h
        cases st with
        | nil => exact absurd h.1 (by decide)
        | cons v st =>
          have hl : (acZ rows K va R (i, a, b, c') (v :: st) k).1.length = (v :: st).length := by
            rw [i11, ac_n]
            rfl
          rw [hl]
          exact ⟨⟨hst, fun q => absurd q i6, fun q => by have q : 7 ≤ i ∧ i ≤ 10 := q; omega, fun _ => h.1, fun q => by have q : 12 ≤ i := q; omega⟩, h.2, hst⟩
      · rw [if_neg i11] at h
        have hl : (acZ rows K va R (i, a, b, c') st k).1.length = st.length + 1 := by
          rw [ac_l (by omega)]
          rfl
        rw [hl]
        exact ⟨⟨hst, fun q => absurd q i6, fun q => by have q : 7 ≤ i ∧ i ≤ 10 := q; omega, fun q => absurd q i11, fun _ => h.1⟩, h.2, by omega⟩
theorem QM.mi {σ0 : ab_H} {u : Nat → Int} {len o : Nat} {s : S2} {AL : List N4} (h : QM σ0 f len u τ s o AL) (hI : MI σ0 cc rows K va R f n pl c u r th) : ∃ t, QT σ0 f len u τ t s o AL ∧ MI τ cc rows K va R f n pl c t r th := by
  obtain ⟨t, hT⟩ := h.qt
  obtain ⟨h1, h2, h3, h4, h5, h6, h7⟩ := id hT
  refine ⟨t, hT, hI.gen h1 (fun a ha => by unfold RA at ha; omega) h3 ((h5 0 (by omega) (by omega) (by omega) (by omega) (by omega)).trans hI.t0) (fun j hj => h5 j (by omega) (by omega) (by omega) (by omega) (by omega)) (fun a ha h57 => ?_)⟩
  unfold RA at ha
  obtain ⟨g, hg, -⟩ := h2 (a - 80) (by omega)
  rw [show 80 + (a - 80) = a by omega] at hg
  exact ⟨_, hg, shp_act (by omega)⟩
/-- the pile before the first act -/
theorem PL.nil (hI : MI σ cc rows K va R f n pl c t r th) (h : t 20 = 0 ∧ t 21 = 0 ∧ t 22 = 0 ∧ t 23 = 0) : PL σ σ t rows [] (0, 0, 0) := ⟨fun _ _ => 0, ⟨fr_rf _ σ, ⟨t, hI.h57, fun j _ => rfl, h.1, h.2.1, h.2.2.1, h.2.2.2⟩, fun i hi => absurd hi (Nat.not_lt_zero i), fun i hi => hI.sc.bm (a := 281 + i) (by omega) (by omega)⟩, rfl⟩
set_option maxRecDepth 100000 in
set_option maxHeartbeats 1000000 in
theorem g_ask (hI : MI σ cc rows K va R f n pl c t r th) (k x : Int) (hk : ab_R k) (hx : ab_R x) : ab_call 18 0 0 yX10_ask [rf 57, .inl k, .inl x] σ (mdP σ (cc, rows, K, va, R, f, n, pl, c) r (fun i => (i : Int) + 1) (sg_ask cc rows K va R f n c k x)) := by
  have q57 := hI.h57
  have hr := hI.hr
  have hcc := hI.hc
  have hgl := gu_le hr
  have hI0 := hI.uth 0
  have hf0 : fr mA σ (ab_st σ 57 (m10 (ab_up t 0 0))) := fr_st (by unfold mA; omega)
  generalize ht0 : ab_up t 0 0 = t0 at hI0 hf0
  generalize hs0 : ab_st σ 57 (m10 t0) = σ0 at hI0 hf0
  have p57 := hI0.h57
  have p58 := hI0.h58
  have p0 := hI0.t0
  have p2 := hI0.t2
  have p12 := hI0.t12
  have p13 := hI0.t13
  have hn4 := hI0.1.2.2.2.2.2
  have hle := m_less (σ := σ0) 200 (t0 2) (rR (by omega) (by omega)) (rR (by omega) (by omega))
  have hmn : (if t0 2 ≤ (200 : Int) then t0 2 else 200) = ((min 200 n : Nat) : Int) := by split <;> omega
  rw [hmn] at hle
  refine eX10_ask rfl (fun At hA => ?_)
  have gK1 : (0 ≤ k ∧ k ≤ 5) → At 3 [some (rf 57), some (.inl k), some (.inl x), none] [.inl 0, rf 57] σ0 0 0 := fun hP1 => by
    refine hA 3 _ rfl _ _ _ _ _ ?_
    refine Exists.intro _ (And.intro (by first | assumption | exact st_s | exact st_e (by decide) (by assumption) | exact st_e (by omega) (by assumption) | exact st_e (by decide) st_s | exact st_e (by omega) st_s | exact st_e (by decide) (st_e (by decide) (by assumption)) | exact st_e (by omega) (st_e (by omega) (by assumption))) (And.intro rfl (ab_inv_ev (m_bad0 p57 p0 1 0) (by first | decide | omega) (by first | exact Nat.le_refl _ | omega) (by first | exact Nat.le_refl _ | omega) ?_)))
    refine And.intro (by first | assumption | exact b2i_R _ | exact rR (by omega) (by omega) | exact rR (by simp only [Int.toNat_natCast]; omega) (by simp only [Int.toNat_natCast]; omega)) (And.intro (fun q => ?_) (fun q => ?_))
    · exact absurd rfl q
    · have gK2 : (0 ≤ x ∧ x ≤ 200 ∧ x ≤ n) → At 7 [some (rf 57), some (.inl k), some (.inl x), none] [.inl 0, rf 57] σ0 0 0 := fun hP2 => by
        refine hA 7 _ rfl _ _ _ _ _ ?_
        refine Exists.intro _ (And.intro (by first | assumption | exact st_s | exact st_e (by decide) (by assumption) | exact st_e (by omega) (by assumption) | exact st_e (by decide) st_s | exact st_e (by omega) st_s | exact st_e (by decide) (st_e (by decide) (by assumption)) | exact st_e (by omega) (st_e (by omega) (by assumption))) (And.intro rfl (ab_inv_ev (m_bad0 p57 p0 2 1) (by first | decide | omega) (by first | exact Nat.le_refl _ | omega) (by first | exact Nat.le_refl _ | omega) ?_)))
        refine And.intro (by first | assumption | exact b2i_R _ | exact rR (by omega) (by omega) | exact rR (by simp only [Int.toNat_natCast]; omega) (by simp only [Int.toNat_natCast]; omega)) (And.intro (fun q => ?_) (fun q => ?_))
        · obtain ⟨k', rfl⟩ : ∃ m : Nat, k = (m : Int) := ⟨k.toNat, by omega⟩
          obtain ⟨x', rfl⟩ : ∃ m : Nat, x = (m : Int) := ⟨x.toNat, by omega⟩
          have hby := hI0.1.2.2.2.2.1
          have hst := m_starts p57 (x' : Nat)
          have hM0 := stT_M t0 f x'
          have hfu : fr mA σ (ab_st σ0 57 (m10 (ab_up (stT t0 (x' : Nat)) 18 0))) := hf0.st (by unfold mA; omega)
          have hIu : MI (ab_st σ0 57 (m10 (ab_up (stT t0 (x' : Nat)) 18 0))) cc rows K va R f 0 (t0 5) c (ab_up (stT t0 (x' : Nat)) 18 0) r 0 := hI0.tp (by omega) (by rw [ab_up_n (by omega)]; rfl) (by rw [ab_up_n (by omega)]; exact stT_e (by omega)) (fun j hj => by rw [ab_up_n (by omega)]; exact stT_e (by omega))
          have hMu : MT (ab_up (stT t0 (x' : Nat)) 18 0) f x' (.inr 0) := hM0.op (fun j hj => ab_up_n (by omega))
          have u8 : ab_up (stT t0 (x' : Nat)) 18 0 8 = 0 := by rw [ab_up_n (by omega)]; rfl
          have u18 : ab_up (stT t0 (x' : Nat)) 18 0 18 = 0 := ab_up_s
          have v57 : (ab_st σ0 57 (m10 (stT t0 (x' : Nat)))).2 57 = some (m10 (stT t0 (x' : Nat))) := st_s
          have hsg : sg_ask cc rows K va R f n c (k' : Nat) (x' : Nat) = match qsT f x' K cc with
              | .inl (u, v) => .inl (u - 10, (cc, rows, K, va, R, f, 0, v, c))
              | .inr _ => .inl ((cnt (bit (finV rows K va R (pqT f x' K cc 5 (.inr 0)).2.1)) 1500 : Nat), (cc, rows, K, va, ab_up R k' (finV rows K va R (pqT f x' K cc 5 (.inr 0)).2.1), f, 0, -1, finC rows K va R (pqT f x' K cc 5 (.inr 0)).2.1)) := by
            unfold sg_ask
            rw [if_pos hP1, if_pos hP2, Int.toNat_natCast, Int.toNat_natCast]
            cases qsT f x' K cc <;> rfl
          refine hA 9 _ rfl _ _ _ _ _ ?_
          refine Exists.intro _ (And.intro (by first | assumption | exact st_s | exact st_e (by decide) (by assumption) | exact st_e (by omega) (by assumption) | exact st_e (by decide) st_s | exact st_e (by omega) st_s | exact st_e (by decide) (st_e (by decide) (by assumption)) | exact st_e (by omega) (st_e (by omega) (by assumption))) (And.intro rfl (ab_inv_ev hst (by first | decide | omega) (by first | exact Nat.le_refl _ | omega) (by first | exact Nat.le_refl _ | omega) ?_)))
          refine Exists.intro _ (And.intro (by first | assumption | exact st_s | exact st_e (by decide) (by assumption) | exact st_e (by omega) (by assumption) | exact st_e (by decide) st_s | exact st_e (by omega) st_s | exact st_e (by decide) (st_e (by decide) (by assumption)) | exact st_e (by omega) (st_e (by omega) (by assumption))) ?_)
          rw [m10_s18, st_st]
          generalize ab_up (stT t0 (x' : Nat)) 18 0 = u at hIu hMu u8 u18 hfu
          generalize ab_st σ0 57 (m10 u) = σ1 at hIu hfu
          have w57 := hIu.h57
          have Q0 : QM σ1 f x' u σ1 (.inr 0) 0 [] := ⟨fr_rf _ σ1, fun i hi => by obtain ⟨g, hg⟩ := hIu.sc.act (a := 80 + i) (by omega) (by omega); exact ⟨g, hg, fun _ y hy => by cases hy⟩, u, w57, hMu, fun j _ _ _ _ _ => rfl, fun _ => u8, 0, u18, by omega, fun _ => rfl⟩
          have hrq := q_questions (K := K) (cc := cc) hIu.h59 hIu.h79 hby (by omega : x' ≤ 200) hIu.t12 hcc 5 0 rfl σ1 (.inr 0) [] Q0 (fun a e => Nat.zero_le _)
          refine Exists.intro _ (And.intro w57 (And.intro rfl (ab_inv_of hrq (by first | decide | omega) (by omega) (by omega) ?_)))
          intro z υ1 hpost
          obtain ⟨rfl, Q1⟩ := hpost
          obtain ⟨_, c1⟩ := Q1.c57
          refine Exists.intro _ (And.intro (by first | assumption | exact st_s | exact st_e (by decide) (by assumption) | exact st_e (by omega) (by assumption) | exact st_e (by decide) st_s | exact st_e (by omega) st_s | exact st_e (by decide) (st_e (by decide) (by assumption)) | exact st_e (by omega) (st_e (by omega) (by assumption))) (And.intro rfl (ab_inv_of (q_mend hIu.h59 hby (by omega) Q1) (by first | decide | omega) (by omega) (by omega) ?_)))
          intro z υ2 hpost
          obtain ⟨rfl, Q2⟩ := hpost
          rw [show endT f x' (pqT f x' K cc 5 (.inr 0)).1 = qsT f x' K cc from rfl] at Q2
          obtain ⟨t2, hT2, hI2⟩ := Q2.mi hIu
          have c2 := hT2.h57
          have hfi := q_mfine Q2
          have hf2 : fr mA σ υ2 := hfu.tr (hT2.1.mono (fun a ha => by unfold RA at ha; unfold mA; omega))
          have hM2 := hT2.2.2.2.1
          cases hL : qsT f x' K cc with
          | inl e =>
            obtain ⟨u9, v9⟩ := e
            rw [hL] at hsg hM2 hfi
            have hen := m_ends c2 hM2 0
            rw [if_neg (show ¬ isR (.inl (u9, v9)) = true from Bool.false_ne_true)] at hen
            have hJ := hI2.tp (t' := ab_up t2 5 (t2 7)) (n' := 0) (pl' := v9) (by omega) (by rw [ab_up_n (by omega)]; exact hI2.t2) (by rw [ab_up_s]; exact hM2.2.2.2.2.1) (fun j hj => ab_up_n (by omega))
            refine Exists.intro _ (And.intro (by first | assumption | exact st_s | exact st_e (by decide) (by assumption) | exact st_e (by omega) (by assumption) | exact st_e (by decide) st_s | exact st_e (by omega) st_s | exact st_e (by decide) (st_e (by decide) (by assumption)) | exact st_e (by omega) (st_e (by omega) (by assumption))) (And.intro rfl (ab_inv_ev hfi (by first | decide | omega) (by first | exact Nat.le_refl _ | omega) (by first | exact Nat.le_refl _ | omega) ?_)))
            refine And.intro (by first | assumption | exact b2i_R _ | exact rR (by omega) (by omega) | exact rR (by simp only [Int.toNat_natCast]; omega) (by simp only [Int.toNat_natCast]; omega)) (And.intro (fun q => ?_) (fun q => ?_))
            · exact absurd rfl q
            · refine hA 10 _ rfl _ _ _ _ _ ?_
              refine Exists.intro _ (And.intro c2 (And.intro rfl (ab_inv_ev hen (by first | decide | omega) (by first | exact Nat.le_refl _ | omega) (by first | exact Nat.le_refl _ | omega) ?_)))
              exact md_ok (S := (cc, rows, K, va, R, f, n, pl, c)) (e := fun i => (i : Int) + 1) hsg (by rw [hM2.2.2.2.1]) (hf2.st (by unfold mA; omega)) hJ
          | inr y =>
            rw [hL] at hsg hM2 hfi hT2
            obtain ⟨y0, hy0⟩ := endT_isR hL
            have hk200 : ∀ d, d < cc → (K d).2.1 ≤ 200 := fun d hd => (hIu.hK hd).2.2.2.2.1
            have hgq := pq_good (rows := rows) (va := va) (R := R) hk200 5 0 y0 (Nat.zero_le x') hy0
            generalize (pqT f x' K cc 5 (.inr 0)).2.2 = A at hT2 hgq
            generalize (pqT f x' K cc 5 (.inr 0)).2.1 = N at hsg hgq
            obtain ⟨⟨v, d, hl, hlA⟩, -, hwA⟩ := hgq
            have hwA := hwA [] 1 0 (by decide) rfl
            rw [List.append_nil] at hwA
            have hrA := hlA [] (0, 0, 0)
            rw [z_cp] at hrA
            have hrn := hl [] (0, 0, 0)
            rw [z_cp] at hrn
            have hV : valN rows K va R N = v := by unfold valN; rw [hrn]; rfl
            have hCo : costN rows K va R N = d := by unfold costN; rw [hrn]
            have hfV : finV rows K va R N = jn 0 v (R 6) := by unfold finV; rw [hV]
            have hfC : finC rows K va R N = (d.1 + 1, d.2.1 + 1, d.2.2 + stp (gu rows) v (R 6)) := by unfold finC; rw [hV, hCo]
            rw [hfV, hfC] at hsg
            obtain ⟨-, hAC, -, -, -, -, L, l18, lL, lA⟩ := hT2
            have lA : L = A.length := lA rfl
            subst lA
            have hcl := m_clears c2
            have hI3 := hI2.tt (t' := ab_up (ab_up (ab_up (ab_up t2 20 0) 21 0) 22 0) 23 0) (th' := 0) (by rw [ab_up_n (by omega), ab_up_n (by omega), ab_up_n (by omega), ab_up_n (by omega)]; exact hI2.t0) (fun j hj => by rw [ab_up_n (by omega), ab_up_n (by omega), ab_up_n (by omega), ab_up_n (by omega)])
            have m3 : ∀ j, j < 20 → ab_up (ab_up (ab_up (ab_up t2 20 0) 21 0) 22 0) 23 0 j = t2 j := fun j hj => by rw [ab_up_n (by omega), ab_up_n (by omega), ab_up_n (by omega), ab_up_n (by omega)]
            have hP3 := PL.nil hI3 ⟨by rw [ab_up_n (by omega), ab_up_n (by omega), ab_up_n (by omega), ab_up_s], by rw [ab_up_n (by omega), ab_up_n (by omega), ab_up_s], by rw [ab_up_n (by omega), ab_up_s], ab_up_s⟩
            have hf3 : fr mA σ (ab_st υ2 57 (m10 (ab_up (ab_up (ab_up (ab_up t2 20 0) 21 0) 22 0) 23 0))) := hf2.st (by unfold mA; omega)
            have hAC3 := hAC.st (t' := ab_up (ab_up (ab_up (ab_up t2 20 0) 21 0) 22 0) 23 0)
            have hM3 : MT (ab_up (ab_up (ab_up (ab_up t2 20 0) 21 0) 22 0) 23 0) f x' (.inr y) := hM2.op (fun j hj => m3 j (by omega))
            have e18 := (m3 18 (by omega)).trans l18
            clear m3
            generalize ab_up (ab_up (ab_up (ab_up t2 20 0) 21 0) 22 0) 23 0 = t3 at hI3 hP3 hf3 hAC3 hM3 e18 hcl
            generalize ab_st υ2 57 (m10 t3) = σ3 at hI3 hP3 hf3 hAC3 hcl
            have loop : ∀ (m i : Nat) (υ : ab_H) (st : List V1) (k9 : C3), i + m = A.length → PL σ3 υ t3 rows st k9 → rnA rows K va R (A.drop i) st k9 = ([v], d) → wfA cc (A.drop i) st.length 1 → st.length ≤ 30 → At 12 [some (rf 57), some (.inl k'), some (.inl x'), some (.inl i)] [] υ 0 0 := by
              intro m
              induction m with
              | zero =>
                intro i υ st k9 hi hP hr9 hw9 hs9
                have hi : i = A.length := by omega
                subst hi
                rw [List.drop_length] at hr9
                have e1 : st = [v] := congrArg Prod.fst hr9
                have e2 : d = k9 := (congrArg Prod.snd hr9).symm
                subst e1
                subst e2
                obtain ⟨P, hPS, hPv⟩ := hP
                have hPv : P 0 :: [] = [v] := hPv
                have hP0 : P 0 = v := by injection hPv
                obtain ⟨t4, hI4, h4, -⟩ := hPS.mi hI3
                have d57 := hI4.h57
                have d18 : t4 18 = A.length := (h4 18 (by omega)).trans e18
                have hwl := m_withLive hI3 hPS
                refine hA 12 _ rfl _ _ _ _ _ ?_
                refine Exists.intro _ (And.intro (by first | assumption | exact st_s | exact st_e (by decide) (by assumption) | exact st_e (by omega) (by assumption) | exact st_e (by decide) st_s | exact st_e (by omega) st_s | exact st_e (by decide) (st_e (by decide) (by assumption)) | exact st_e (by omega) (st_e (by omega) (by assumption))) ?_)
                refine And.intro (And.intro (by first | assumption | exact b2i_R _ | exact rR (by omega) (by omega) | exact rR (by simp only [Int.toNat_natCast]; omega) (by simp only [Int.toNat_natCast]; omega)) (by first | assumption | exact b2i_R _ | exact rR (by omega) (by omega) | exact rR (by simp only [Int.toNat_natCast]; omega) (by simp only [Int.toNat_natCast]; omega))) (And.intro (fun q => ?_) (fun q => ?_))
                · refine hA 14 _ rfl _ _ _ _ _ ?_
                  refine Exists.intro _ (And.intro (by first | assumption | exact st_s | exact st_e (by decide) (by assumption) | exact st_e (by omega) (by assumption) | exact st_e (by decide) st_s | exact st_e (by omega) st_s | exact st_e (by decide) (st_e (by decide) (by assumption)) | exact st_e (by omega) (st_e (by omega) (by assumption))) (And.intro rfl (ab_inv_of hwl (by first | decide | omega) (by omega) (by omega) ?_)))
                  intro z υ5 hpost
                  obtain ⟨rfl, hP5⟩ := hpost
                  rw [hP0] at hP5
                  obtain ⟨t5, hI5, h5, h520, h521, h522, h523⟩ := hP5.mi hI3
                  obtain ⟨b5, hhi⟩ := hP5.2.2.1 0 (by omega)
                  rw [ab_up_s] at b5 hhi
                  have hf5 : fr mA σ υ5 := hf3.tr (hP5.1.mono (fun a ha => by unfold piA at ha; unfold mA; omega))
                  have r57 := hI5.h57
                  have r72 := hI5.h72
                  have r280 := hI5.h280
                  have hcp := m_copies (hI5.rs (k := k') (by omega)) b5
                  have hI6 := hI5.res (k := k') (by omega) hhi
                  have hM5 : MT t5 f x' (.inr y) := hM3.op (fun j hj => h5 j (by omega))
                  generalize jn 0 v (R 6) = G at hcp hI6 hsg hhi
                  have hf6 : fr mA σ (ab_st υ5 (73 + k') (bmc G)) := hf5.st (by unfold mA; omega)
                  have r73 : (ab_st υ5 (73 + k') (bmc G)).2 (73 + k') = some (bmc G) := st_s
                  generalize ab_st υ5 (73 + k') (bmc G) = σ6 at hcp hI6 hf6 r73
                  have s57 := hI6.h57
                  have s72 := hI6.h72
                  have t24 : ab_up (ab_up (ab_up t5 24 (t5 21)) 25 (t5 22)) 26 (t5 23) 24 = ((d.1 + 1 : Nat) : Int) := by rw [ab_up_n (by omega), ab_up_n (by omega), ab_up_s]; exact h521
                  have t25 : ab_up (ab_up (ab_up t5 24 (t5 21)) 25 (t5 22)) 26 (t5 23) 25 = ((d.2.1 + 1 : Nat) : Int) := by rw [ab_up_n (by omega), ab_up_s]; exact h522
                  have t26 : ab_up (ab_up (ab_up t5 24 (t5 21)) 25 (t5 22)) 26 (t5 23) 26 = ((d.2.2 + stp (gu rows) v (R 6) : Nat) : Int) := by rw [ab_up_s]; exact h523
                  have hI7 := hI6.tk (c' := (d.1 + 1, d.2.1 + 1, d.2.2 + stp (gu rows) v (R 6))) t24 t25 t26 (fun j hj => by rw [ab_up_n (by omega), ab_up_n (by omega), ab_up_n (by omega)])
                  have hM7 : MT (ab_up (ab_up (ab_up t5 24 (t5 21)) 25 (t5 22)) 26 (t5 23)) f x' (.inr y) := hM5.op (fun j hj => by rw [ab_up_n (by omega), ab_up_n (by omega), ab_up_n (by omega)])
                  have e3 : ab_up (ab_up t5 24 (t5 21)) 25 (t5 22) 23 = t5 23 := by rw [ab_up_n (by omega), ab_up_n (by omega)]
                  have e2 : ab_up t5 24 (t5 21) 22 = t5 22 := ab_up_n (by omega)
                  clear t24 t25 t26
                  have u57 : ∀ w : Nat → Int, (ab_st σ6 57 (m10 w)).2 57 = some (m10 w) := fun w => st_s
                  have v57 := hI7.h57
                  have v72 := hI7.h72
                  have hma := m_many2 v57 hI7.t13 hr (st_e (by omega) r73) hhi
                  have hen := m_ends v57 hM7 (cnt (bit G) 1500)
                  rw [st_st, if_pos (show isR (.inr y) = true from rfl)] at hen
                  have hJ := hI7.tp (t' := ab_up (ab_up (ab_up (ab_up t5 24 (t5 21)) 25 (t5 22)) 26 (t5 23)) 5 (ab_up (ab_up (ab_up t5 24 (t5 21)) 25 (t5 22)) 26 (t5 23) 7)) (n' := 0) (pl' := -1) (by omega) (by rw [ab_up_n (by omega)]; exact hI7.t2) (by rw [ab_up_s]; exact hM7.2.2.2.1) (fun j hj => ab_up_n (by omega))
                  rw [st_st] at hJ
                  refine Exists.intro _ (And.intro (by first | assumption | exact st_s | exact st_e (by decide) (by assumption) | exact st_e (by omega) (by assumption) | exact st_e (by decide) st_s | exact st_e (by omega) st_s | exact st_e (by decide) (st_e (by decide) (by assumption)) | exact st_e (by omega) (st_e (by omega) (by assumption))) ?_)
                  refine Exists.intro _ (Exists.intro _ (And.intro (by first | assumption | exact st_s | exact st_e (by decide) (by assumption) | exact st_e (by omega) (by assumption) | exact st_e (by decide) st_s | exact st_e (by omega) st_s | exact st_e (by decide) (st_e (by decide) (by assumption)) | exact st_e (by omega) (st_e (by omega) (by assumption))) (And.intro (by first | omega | (simp only [Int.toNat_natCast]; omega)) ?_)))
                  refine Exists.intro _ (And.intro (by first | assumption | exact st_s | exact st_e (by decide) (by assumption) | exact st_e (by omega) (by assumption) | exact st_e (by decide) st_s | exact st_e (by omega) st_s | exact st_e (by decide) (st_e (by decide) (by assumption)) | exact st_e (by omega) (st_e (by omega) (by assumption))) ?_)
                  refine Exists.intro _ (Exists.intro _ (And.intro (by first | assumption | exact st_s | exact st_e (by decide) (by assumption) | exact st_e (by omega) (by assumption) | exact st_e (by decide) st_s | exact st_e (by omega) st_s | exact st_e (by decide) (st_e (by decide) (by assumption)) | exact st_e (by omega) (st_e (by omega) (by assumption))) (And.intro (by first | omega | (simp only [Int.toNat_natCast]; omega)) ?_)))
                  refine And.intro rfl (ab_inv_ev hcp (by first | decide | omega) (by first | exact Nat.le_refl _ | omega) (by first | exact Nat.le_refl _ | omega) ?_)
                  refine Exists.intro _ (And.intro (s57) ?_)
                  refine Exists.intro _ (And.intro (s57) ?_)
                  rw [m10_s24]
                  refine Exists.intro _ (And.intro (u57 _) ?_)
                  refine Exists.intro _ (And.intro (u57 _) ?_)
                  rw [m10_s25, st_st, e2]
                  refine Exists.intro _ (And.intro (u57 _) ?_)
                  refine Exists.intro _ (And.intro (u57 _) ?_)
                  rw [m10_s26, st_st, e3]
                  refine Exists.intro _ (And.intro (v57) ?_)
                  refine Exists.intro _ (Exists.intro _ (And.intro (v72) (And.intro (by omega) ?_)))
                  refine Exists.intro _ (And.intro v57 (And.intro rfl (ab_inv_ev hma (by first | decide | omega) (by first | exact Nat.le_refl _ | omega) (by first | exact Nat.le_refl _ | omega) ?_)))
                  refine Exists.intro _ (And.intro v57 (And.intro rfl (ab_inv_ev hen (by first | decide | omega) (by first | exact Nat.le_refl _ | omega) (by first | exact Nat.le_refl _ | omega) ?_)))
                  exact md_ok (S := (cc, rows, K, va, R, f, n, pl, c)) (e := fun i => (i : Int) + 1) hsg rfl (hf6.st (by unfold mA; omega)) hJ
                · exact absurd (show ((A.length : Nat) : Int) < t4 18 from q) (by omega)
              | succ m ih =>
                intro i υ st k9 hi hP hr9 hw9 hs9
                have hlt : i < A.length := by omega
                rw [List.drop_eq_getElem_cons hlt] at hr9 hw9
                obtain ⟨s1, s2, s3, s4⟩ := ac_step (rows := rows) (K := K) (va := va) (R := R) (k := k9) hw9 hs9
                rw [rnA_s] at hr9
                obtain ⟨P, hPS, hPv⟩ := id hP
                obtain ⟨t4, hI4, h4, -⟩ := hPS.mi hI3
                have d57 := hI4.h57
                have d79 := hI4.h79
                have d18 : t4 18 = A.length := (h4 18 (by omega)).trans e18
                obtain ⟨g, hg, hg2⟩ := hAC3 i (by omega)
                have hg : υ.2 (80 + i) = some (iar 4 g) := (hPS.1.2 (80 + i) (by unfold piA; omega)).trans hg
                have hg2 := hg2 rfl A[i] (List.getElem?_eq_getElem hlt)
                generalize A[i] = x at s1 s2 s3 s4 hr9 hg2
                obtain ⟨i1, a1, b1, c1'⟩ := x
                have han := m_answers hI3 hP hg hg2.1 hg2.2.1 (fun _ => hg2.2.2.1) (fun _ => hg2.2.2.2) s1 s2
                have ihi := fun υ6 h => ih (i + 1) υ6 (acZ rows K va R (i1, a1, b1, c1') st k9).1 (acZ rows K va R (i1, a1, b1, c1') st k9).2 (by omega) h hr9 s3 s4
                refine hA 12 _ rfl _ _ _ _ _ ?_
                refine Exists.intro _ (And.intro (by first | assumption | exact st_s | exact st_e (by decide) (by assumption) | exact st_e (by omega) (by assumption) | exact st_e (by decide) st_s | exact st_e (by omega) st_s | exact st_e (by decide) (st_e (by decide) (by assumption)) | exact st_e (by omega) (st_e (by omega) (by assumption))) ?_)
                refine And.intro (And.intro (by first | assumption | exact b2i_R _ | exact rR (by omega) (by omega) | exact rR (by simp only [Int.toNat_natCast]; omega) (by simp only [Int.toNat_natCast]; omega)) (by first | assumption | exact b2i_R _ | exact rR (by omega) (by omega) | exact rR (by simp only [Int.toNat_natCast]; omega) (by simp only [Int.toNat_natCast]; omega))) (And.intro (fun q => ?_) (fun q => ?_))
                · exact absurd (show ((i : Nat) : Int) ≥ t4 18 from q) (by omega)
                · refine hA 13 _ rfl _ _ _ _ _ ?_
                  refine Exists.intro _ (And.intro (d57) ?_)
                  refine Exists.intro _ (Exists.intro _ (And.intro (d79) (And.intro (by omega) ?_)))
                  refine Exists.intro _ (And.intro d57 (And.intro rfl (ab_inv_of han (by first | decide | omega) (by omega) (by omega) ?_)))
                  intro z υ6 hpost
                  obtain ⟨rfl, hP6⟩ := hpost
                  have ihi := ihi υ6 hP6
                  
                  exact ihi
            have l0 := loop A.length 0 σ3 [] (0, 0, 0) (by omega) hP3 hrA hwA (by decide)
            refine Exists.intro _ (And.intro (by first | assumption | exact st_s | exact st_e (by decide) (by assumption) | exact st_e (by omega) (by assumption) | exact st_e (by decide) st_s | exact st_e (by omega) st_s | exact st_e (by decide) (st_e (by decide) (by assumption)) | exact st_e (by omega) (st_e (by omega) (by assumption))) (And.intro rfl (ab_inv_ev hfi (by first | decide | omega) (by first | exact Nat.le_refl _ | omega) (by first | exact Nat.le_refl _ | omega) ?_)))
            refine And.intro (by first | assumption | exact b2i_R _ | exact rR (by omega) (by omega) | exact rR (by simp only [Int.toNat_natCast]; omega) (by simp only [Int.toNat_natCast]; omega)) (And.intro (fun q => ?_) (fun q => ?_))
            · refine hA 11 _ rfl _ _ _ _ _ ?_
              refine Exists.intro _ (And.intro (by first | assumption | exact st_s | exact st_e (by decide) (by assumption) | exact st_e (by omega) (by assumption) | exact st_e (by decide) st_s | exact st_e (by omega) st_s | exact st_e (by decide) (st_e (by decide) (by assumption)) | exact st_e (by omega) (st_e (by omega) (by assumption))) (And.intro rfl (ab_inv_ev hcl (by first | decide | omega) (by first | exact Nat.le_refl _ | omega) (by first | exact Nat.le_refl _ | omega) ?_)))
              exact l0
            · exact absurd (show (1 : Int) = 0 from q) (by decide)
        · exact absurd rfl q
      have gF2 : ¬ (0 ≤ x ∧ x ≤ 200 ∧ x ≤ n) → At 7 [some (rf 57), some (.inl k), some (.inl x), none] [.inl 1, rf 57] σ0 0 0 := fun hP2 => by
        refine hA 7 _ rfl _ _ _ _ _ ?_
        refine Exists.intro _ (And.intro (by first | assumption | exact st_s | exact st_e (by decide) (by assumption) | exact st_e (by omega) (by assumption) | exact st_e (by decide) st_s | exact st_e (by omega) st_s | exact st_e (by decide) (st_e (by decide) (by assumption)) | exact st_e (by omega) (st_e (by omega) (by assumption))) (And.intro rfl (ab_inv_ev (m_bad1 p57 p0 p58 2 1 (by decide) (by decide) (by decide)) (by first | decide | omega) (by first | exact Nat.le_refl _ | omega) (by first | exact Nat.le_refl _ | omega) ?_)))
        refine And.intro (by first | assumption | exact b2i_R _ | exact rR (by omega) (by omega) | exact rR (by simp only [Int.toNat_natCast]; omega) (by simp only [Int.toNat_natCast]; omega)) (And.intro (fun q => ?_) (fun q => ?_))
        · exact absurd q (by decide)
        · refine hA 8 _ rfl _ _ _ _ _ ?_
          exact md_no (by unfold sg_ask; rw [if_pos hP1, if_neg hP2] <;> rfl) hf0 hI0 rfl
      have gO2 : ¬ (0 ≤ x ∧ x ≤ 200 ∧ x ≤ n) → At 5 [some (rf 57), some (.inl k), some (.inl x), none] [rf 57] σ0 0 0 := fun h => by
        refine hA 5 _ rfl _ _ _ _ _ ?_
        exact gF2 h
      have gZ2 : (0 ≤ x ∧ x ≤ 200 ∧ x ≤ n) → At 6 [some (rf 57), some (.inl k), some (.inl x), none] [rf 57] σ0 0 0 := fun h => by
        refine hA 6 _ rfl _ _ _ _ _ ?_
        exact gK2 h
      refine hA 4 _ rfl _ _ _ _ _ ?_
      refine Exists.intro _ (And.intro (by first | assumption | exact st_s | exact st_e (by decide) (by assumption) | exact st_e (by omega) (by assumption) | exact st_e (by decide) st_s | exact st_e (by omega) st_s | exact st_e (by decide) (st_e (by decide) (by assumption)) | exact st_e (by omega) (st_e (by omega) (by assumption))) ?_)
      refine And.intro rfl (ab_inv_ev hle (by first | decide | omega) (by first | exact Nat.le_refl _ | omega) (by first | exact Nat.le_refl _ | omega) ?_)
      refine And.intro rfl (ab_inv_ev (m_in x 0 ((min 200 n : Nat) : Int) hx (rR (by omega) (by omega)) (rR (by omega) (by omega))) (by first | decide | omega) (by first | exact Nat.le_refl _ | omega) (by first | exact Nat.le_refl _ | omega) ?_)
      refine And.intro (by first | assumption | exact b2i_R _ | exact rR (by omega) (by omega) | exact rR (by simp only [Int.toNat_natCast]; omega) (by simp only [Int.toNat_natCast]; omega)) (And.intro (fun q => ?_) (fun q => ?_))
      · have q10 := of_decide_eq_true (b2i_1 q)
        exact gZ2 (by omega)
      · exact gO2 (by have q1 := of_decide_eq_false (b2i_0 q); omega)
  have gF1 : ¬ (0 ≤ k ∧ k ≤ 5) → At 3 [some (rf 57), some (.inl k), some (.inl x), none] [.inl 1, rf 57] σ0 0 0 := fun hP1 => by
    refine hA 3 _ rfl _ _ _ _ _ ?_
    refine Exists.intro _ (And.intro (by first | assumption | exact st_s | exact st_e (by decide) (by assumption) | exact st_e (by omega) (by assumption) | exact st_e (by decide) st_s | exact st_e (by omega) st_s | exact st_e (by decide) (st_e (by decide) (by assumption)) | exact st_e (by omega) (st_e (by omega) (by assumption))) (And.intro rfl (ab_inv_ev (m_bad1 p57 p0 p58 1 0 (by decide) (by decide) (by decide)) (by first | decide | omega) (by first | exact Nat.le_refl _ | omega) (by first | exact Nat.le_refl _ | omega) ?_)))
    refine And.intro (by first | assumption | exact b2i_R _ | exact rR (by omega) (by omega) | exact rR (by simp only [Int.toNat_natCast]; omega) (by simp only [Int.toNat_natCast]; omega)) (And.intro (fun q => ?_) (fun q => ?_))
    · refine hA 8 _ rfl _ _ _ _ _ ?_
      exact md_no (by unfold sg_ask; rw [if_neg hP1] <;> rfl) hf0 hI0 rfl
    · exact absurd q (by decide)
  have gO1 : ¬ (0 ≤ k ∧ k ≤ 5) → At 1 [some (rf 57), some (.inl k), some (.inl x), none] [rf 57] σ0 0 0 := fun h => by
    refine hA 1 _ rfl _ _ _ _ _ ?_
    exact gF1 h
  have gZ1 : (0 ≤ k ∧ k ≤ 5) → At 2 [some (rf 57), some (.inl k), some (.inl x), none] [rf 57] σ0 0 0 := fun h => by
    refine hA 2 _ rfl _ _ _ _ _ ?_
    exact gK1 h
  refine hA 0 _ rfl _ _ _ _ _ ?_
  refine Exists.intro _ (And.intro (q57) ?_)
  rw [m10_s0, ht0, hs0]
  refine Exists.intro _ (And.intro (by first | assumption | exact st_s | exact st_e (by decide) (by assumption) | exact st_e (by omega) (by assumption) | exact st_e (by decide) st_s | exact st_e (by omega) st_s | exact st_e (by decide) (st_e (by decide) (by assumption)) | exact st_e (by omega) (st_e (by omega) (by assumption))) (And.intro rfl (ab_inv_ev (m_isResult k hk) (by first | decide | omega) (by first | exact Nat.le_refl _ | omega) (by first | exact Nat.le_refl _ | omega) ?_)))
  refine And.intro (by first | assumption | exact b2i_R _ | exact rR (by omega) (by omega) | exact rR (by simp only [Int.toNat_natCast]; omega) (by simp only [Int.toNat_natCast]; omega)) (And.intro (fun q => ?_) (fun q => ?_))
  · have q00 := of_decide_eq_true (b2i_1 q)
    exact gZ1 (by omega)
  · exact gO1 (by have q1 := of_decide_eq_false (b2i_0 q); omega)

end Mask6
