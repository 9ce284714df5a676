-- ===== the calls that change something: rows =====
section State2
variable {σ : ab_H} {cc rows : Nat} {K : Nat → CT} {va : Nat → Nat → Nat} {ad : Nat → Nat} {R : Nat → V1} {f : Nat → Int} {n : Nat} {pl : Int} {c : C3} {r : Nat → Nat}
theorem fitI_ext {K : Nat → CT} {v w : Nat → Int} : ∀ m, (∀ j, j < m → v j = w j) → fitI K v m = fitI K w m := by
  intro m
  induction m with
  | zero => intro _; rfl
  | succ m ih =>
    intro h
    show (fitI K v m && (decide (0 ≤ v m) && decide (v m < (K m).2.1))) = (fitI K w m && (decide (0 ≤ w m) && decide (w m < (K m).2.1)))
    rw [ih (fun j hj => h j (by omega)), h m (by omega)]
abbrev giv (g : Nat → Int) (x1 x2 x3 x4 : Int) : Nat → Int := ab_up (ab_up (ab_up (ab_up g 0 x1) 1 x2) 2 x3) 3 x4
theorem giv_e (g : Nat → Int) (x1 x2 x3 x4 : Int) : ∀ j, j < 4 → giv g x1 x2 x3 x4 j = gvn x1 x2 x3 x4 j := fun j hj => by
  have e : j = 0 ∨ j = 1 ∨ j = 2 ∨ j = 3 := by omega
  rcases e with rfl | rfl | rfl | rfl <;> rfl
theorem gvn_R {x1 x2 x3 x4 : Int} (h1 : ab_R x1) (h2 : ab_R x2) (h3 : ab_R x3) (h4 : ab_R x4) (j : Nat) : ab_R (gvn x1 x2 x3 x4 j) := by
  unfold gvn
  repeat' split
  all_goals assumption
theorem CI.g55 (h : CI σ cc rows K va ad R f n pl c r) {g : Nat → Int} : CI (ab_st σ 55 (.inr (.inl (0, 4, g)))) cc rows K va ad R f n pl c r := by
  have ho := h.2.2.2.2.2.2
  obtain ⟨k1, ⟨s, k2⟩, k3, ⟨g6, k4, k4b⟩, k5⟩ := ho
  have hf : fr (fun a => a = 55) σ (ab_st σ 55 (.inr (.inl (0, 4, g)))) := fr_st rfl
  exact h.oth (hf.mono (fun a ha => by omega)) ⟨k1.gr hf.gr k5 (fun a _ _ => by omega), ⟨s, k2.ne (by decide) (by decide)⟩, ⟨g, st_s⟩, ⟨g6, st_e (by decide) k4, k4b⟩, k5⟩
theorem lvA_bit (R : Nat → V1) (rows m x : Nat) : bit (lvA R rows m) x = (decide (rows ≤ x ∧ x < rows + m) || bit (R 6) x) := bit_mk _ x
theorem vaN_ext {va : Nat → Nat → Nat} {v w : Nat → Int} {a b c : Nat} (h : v c = w c) : vaN va v a b c = vaN va w a b c := by
  funext x
  unfold vaN
  rw [h]
/-- rows have come -/
theorem CI.app {σ' : ab_H} (h : CI σ cc rows K va ad R f n pl c r) (hf : fr apA σ σ') {m : Nat} (hm : rows + m ≤ 1500) {v w : Nat → Int} (hvw : ∀ j, j < 4 → v j = w j) (h3 : σ'.2 3 = some (tbc cc (rows + m))) (hL : ∃ lv' : Nat → Nat, IsB σ' 24 lv' ∧ ∀ x, bit lv' x = (decide (rows ≤ x ∧ x < rows + m) || bit (R 6) x)) (hM : ∃ m' : Nat → Nat, σ'.2 10 = some (ints 200 m') ∧ ∀ j, m' j < 32768) (hC : IsCs σ' cc (rows + m) K (vaN va v rows (rows + m)) ad) : CI σ' cc (rows + m) K (vaN va w rows (rows + m)) ad (ab_up R 6 (lvA R rows m)) f n pl c r := by
  have hs := h.s
  have hg := hf.gr
  have na : ∀ a, a ≠ 3 → a ≠ 10 → a ≠ 25 → a < 320 → ¬ apA a := fun a h1 h2 h3 h4 => by unfold apA; omega
  obtain ⟨h0, h1, ⟨t1, t2, t3, t4, t5, t6⟩, ⟨⟨e6, s1⟩, ⟨t8, s2⟩, ⟨ar, s3, s4⟩, -, mb, s5⟩, h4, h5, h6⟩ := h
  obtain ⟨lv', l1, l2⟩ := hL
  have hlv : lv' = lvA R rows m := mk_of l1.2.2 l2
  subst hlv
  obtain ⟨q1, q2, q3⟩ := hC
  have hC' : IsCs σ' cc (rows + m) K (vaN va w rows (rows + m)) ad := ⟨q1, q2, fun c hc => by
    rw [← vaN_ext (hvw c (by omega))]
    exact q3 c hc⟩
  refine ⟨(hf.2 0 (na _ (by omega) (by omega) (by omega) (by omega))).trans h0, h1.gr hg hs ⟨na _ (by omega) (by omega) (by omega) (by omega), na _ (by omega) (by omega) (by omega) (by omega)⟩, ⟨h3, hm, (hf.2 5 (na _ (by omega) (by omega) (by omega) (by omega))).trans t3, hC', fun i hi => ?_, fun i hi x hx => ?_⟩, ⟨⟨e6, s1.fr hf (na _ (by omega) (by omega) (by omega) (by omega)) (na _ (by omega) (by omega) (by omega) (by omega))⟩, ⟨t8, (hf.2 8 (na _ (by omega) (by omega) (by omega) (by omega))).trans s2⟩, ⟨ar, (hf.2 9 (na _ (by omega) (by omega) (by omega) (by omega))).trans s3, s4⟩, hM, mb, (hf.2 11 (na _ (by omega) (by omega) (by omega) (by omega))).trans s5⟩, h4.gr hg hs (fun a _ _ => na a (by omega) (by omega) (by omega) (by omega)), h5.gr hg hs (fun a _ _ => na a (by omega) (by omega) (by omega) (by omega)), h6.gr hg (fun a _ _ => na a (by omega) (by omega) (by omega) (by omega))⟩
  · by_cases e : i = 6
    · subst e; rw [ab_up_s]; exact l1
    · rw [ab_up_n e]; exact (t5 i hi).fr hf (na _ (by omega) (by omega) (by omega) (by omega)) (na _ (by omega) (by omega) (by omega) (by omega))
  · by_cases e : i = 6
    · subst e
      rw [ab_up_s, lvA_bit, decide_eq_false (by omega), t6 6 hi x (by omega)]
      rfl
    · rw [ab_up_n e]; exact t6 i hi x (by omega)
set_option maxRecDepth 100000 in
set_option maxHeartbeats 1000000 in
theorem f_add (hI : CI σ cc rows K va ad R f n pl c r) (x1 x2 x3 x4 : Int) (hx1 : ab_R x1) (hx2 : ab_R x2) (hx3 : ab_R x3) (hx4 : ab_R x4) : ab_call 8 2 12 yX9_add [rf 0, .inl x1, .inl x2, .inl x3, .inl x4] σ (stP σ (cc, rows, K, va, R, f, n, pl, c) r (sg_add cc rows K va R f n pl c x1 x2 x3 x4)) := by
  obtain ⟨h0, -, ⟨h3, hr, h5, hC, hR, hRr⟩, ⟨-, -, -, ⟨m10, h10, h10b⟩, -⟩, -, -, -, -, ⟨g55, h55⟩, -⟩ := id hI
  have hgc := c_give h0 h55 x1 x2 x3 x4
  have hI1 := hI.g55 (g := giv g55 x1 x2 x3 x4)
  have hgr1 : gr fcA σ (ab_st σ 55 (.inr (.inl (0, 4, giv g55 x1 x2 x3 x4)))) := (fr_st (by unfold fcA; omega)).gr
  have z55 : (ab_st σ 55 (.inr (.inl (0, 4, giv g55 x1 x2 x3 x4)))).2 55 = some (.inr (.inl (0, 4, giv g55 x1 x2 x3 x4))) := st_s
  have z10 : (ab_st σ 55 (.inr (.inl (0, 4, giv g55 x1 x2 x3 x4)))).2 10 = _ := st_e (by decide) h10
  have hfi : fitI K (giv g55 x1 x2 x3 x4) cc = fitI K (gvn x1 x2 x3 x4) cc := fitI_ext cc (fun j hj => giv_e _ _ _ _ _ j (by have := hC.1; omega))
  have hvR : ∀ j, j < 4 → ab_R (giv g55 x1 x2 x3 x4 j) := fun j hj => by rw [giv_e _ _ _ _ _ j hj]; exact gvn_R hx1 hx2 hx3 hx4 j
  refine eX9_add rfl (fun At hA => ?_)
  refine hA 0 _ rfl _ _ _ _ _ ?_
  refine Exists.intro _ (And.intro (by first | assumption | exact st_s | exact st_e (by decide) (by assumption) | exact st_e (by omega) (by assumption) | exact st_e (by decide) st_s | exact st_e (by omega) st_s | exact st_e (by decide) (st_e (by decide) (by assumption)) | exact st_e (by omega) (st_e (by omega) (by assumption))) (And.intro rfl (ab_inv_ev hgc (by first | decide | omega) (by first | exact Nat.le_refl _ | omega) (by first | exact Nat.le_refl _ | omega) ?_)))
  refine Exists.intro _ (And.intro (by first | assumption | exact st_s | exact st_e (by decide) (by assumption) | exact st_e (by omega) (by assumption) | exact st_e (by decide) st_s | exact st_e (by omega) st_s | exact st_e (by decide) (st_e (by decide) (by assumption)) | exact st_e (by omega) (st_e (by omega) (by assumption))) ?_)
  refine Exists.intro _ (And.intro (by first | assumption | exact st_s | exact st_e (by decide) (by assumption) | exact st_e (by omega) (by assumption) | exact st_e (by decide) st_s | exact st_e (by omega) st_s | exact st_e (by decide) (st_e (by decide) (by assumption)) | exact st_e (by omega) (st_e (by omega) (by assumption))) ?_)
  generalize ab_st σ 55 (.inr (.inl (0, 4, giv g55 x1 x2 x3 x4))) = σ1 at hI1 hgr1 z55 z10 ⊢
  obtain ⟨y0', -, ⟨y3, -, y5, yC, yR, -⟩, -⟩ := id hI1
  refine Exists.intro _ (And.intro y3 (And.intro rfl (ab_inv_ev (c_fits y3 yC z55 hvR) (by first | decide | omega) (by first | exact Nat.le_refl _ | omega) (by first | exact Nat.le_refl _ | omega) ?_)))
  refine Exists.intro _ (And.intro y0' (And.intro rfl (ab_inv_of (c_needArgument y0' (fitI K (giv g55 x1 x2 x3 x4) cc)) (by first | decide | omega) (by omega) (by omega) ?_)))
  intro r' τ hpost
  rcases hpost with ⟨hb, rfl, rfl⟩ | ⟨hb, rfl, q9, hq9, rfl⟩
  · have hfit := hb
    rw [hfi] at hb
    have k3 : ∀ z : Int, z = b2i (decide (rows < 1500)) → At 3 [some (rf 0), some (.inl x1), some (.inl x2), some (.inl x3), some (.inl x4)] [.inl z, rf 0] τ (0 + 1) (0 + 6) := fun z hz => by
      subst hz
      refine hA 3 _ rfl _ _ _ _ _ ?_
      refine Exists.intro _ (And.intro (by first | assumption | exact st_s | exact st_e (by decide) (by assumption) | exact st_e (by omega) (by assumption) | exact st_e (by decide) st_s | exact st_e (by omega) st_s | exact st_e (by decide) (st_e (by decide) (by assumption)) | exact st_e (by omega) (st_e (by omega) (by assumption))) (And.intro rfl (ab_inv_of (c_needState y0' (decide (rows < 1500))) (by first | decide | omega) (by omega) (by omega) ?_)))
      intro r' τ2 hpost
      rcases hpost with ⟨hb2, rfl, rfl⟩ | ⟨hb2, rfl, q9, hq9, rfl⟩
      · have hP2 := of_decide_eq_true hb2
        refine Exists.intro _ (And.intro (by first | assumption | exact st_s | exact st_e (by decide) (by assumption) | exact st_e (by omega) (by assumption) | exact st_e (by decide) st_s | exact st_e (by omega) st_s | exact st_e (by decide) (st_e (by decide) (by assumption)) | exact st_e (by omega) (st_e (by omega) (by assumption))) ?_)
        refine Exists.intro _ (And.intro (by first | assumption | exact st_s | exact st_e (by decide) (by assumption) | exact st_e (by omega) (by assumption) | exact st_e (by decide) st_s | exact st_e (by omega) st_s | exact st_e (by decide) (st_e (by decide) (by assumption)) | exact st_e (by omega) (st_e (by omega) (by assumption))) ?_)
        refine Exists.intro _ (And.intro (by first | assumption | exact st_s | exact st_e (by decide) (by assumption) | exact st_e (by omega) (by assumption) | exact st_e (by decide) st_s | exact st_e (by omega) st_s | exact st_e (by decide) (st_e (by decide) (by assumption)) | exact st_e (by omega) (st_e (by omega) (by assumption))) (And.intro rfl (ab_inv_of (c_append y3 y5 yC (yR 6 (by omega)) z10 h10b z55 (by unfold apA; omega) hfit 1 (by omega)) (by first | decide | omega) (by omega) (by omega) ?_)))
        intro r' υ hpost
        obtain ⟨rfl, f1, f2, f3, f4, f5⟩ := hpost
        have hI3 := hI1.app f1 (m := 1) (by omega) (giv_e g55 x1 x2 x3 x4) f2 f3 f4 f5
        have u0 := hI3.1
        refine Exists.intro _ (And.intro (by first | assumption | exact st_s | exact st_e (by decide) (by assumption) | exact st_e (by omega) (by assumption) | exact st_e (by decide) st_s | exact st_e (by omega) st_s | exact st_e (by decide) (st_e (by decide) (by assumption)) | exact st_e (by omega) (st_e (by omega) (by assumption))) ?_)
        refine Exists.intro _ (And.intro (by first | assumption | exact st_s | exact st_e (by decide) (by assumption) | exact st_e (by omega) (by assumption) | exact st_e (by decide) st_s | exact st_e (by omega) st_s | exact st_e (by decide) (st_e (by decide) (by assumption)) | exact st_e (by omega) (st_e (by omega) (by assumption))) ?_)
        refine st_ok ?_ (hgr1.tr (f1.mono (fun a ha => by unfold apA at ha; unfold fcA; omega)).gr) hI3
        unfold sg_add
        rw [if_pos hb, if_pos hP2]
        unfold stA
        congr 2
        omega
      · have hP2 := of_decide_eq_false hb2
        exact st_no (by unfold sg_add; rw [if_pos hb, if_neg hP2]) hgr1 hI1 hq9
    refine Exists.intro _ (And.intro (by first | assumption | exact st_s | exact st_e (by decide) (by assumption) | exact st_e (by omega) (by assumption) | exact st_e (by decide) st_s | exact st_e (by omega) st_s | exact st_e (by decide) (st_e (by decide) (by assumption)) | exact st_e (by omega) (st_e (by omega) (by assumption))) ?_)
    refine Exists.intro _ (And.intro (by first | assumption | exact st_s | exact st_e (by decide) (by assumption) | exact st_e (by omega) (by assumption) | exact st_e (by decide) st_s | exact st_e (by omega) st_s | exact st_e (by decide) (st_e (by decide) (by assumption)) | exact st_e (by omega) (st_e (by omega) (by assumption))) ?_)
    refine And.intro (And.intro (by first | assumption | exact b2i_R _ | exact rR (by omega) (by omega) | exact rR (by simp only [Int.toNat_natCast]; omega) (by simp only [Int.toNat_natCast]; omega)) (by first | assumption | exact b2i_R _ | exact rR (by omega) (by omega) | exact rR (by simp only [Int.toNat_natCast]; omega) (by simp only [Int.toNat_natCast]; omega))) (And.intro (fun q => ?_) (fun q => ?_))
    · refine hA 2 _ rfl _ _ _ _ _ ?_
      exact k3 0 (by rw [decide_eq_false (by omega)]; rfl)
    · refine hA 1 _ rfl _ _ _ _ _ ?_
      exact k3 1 (by rw [decide_eq_true (by omega)]; rfl)
  · rw [hfi] at hb
    exact st_no (by unfold sg_add; rw [if_neg (by rw [hb]; decide)]) hgr1 hI1 hq9
set_option maxRecDepth 100000 in
set_option maxHeartbeats 1000000 in
theorem f_many (hI : CI σ cc rows K va ad R f n pl c r) (m x1 x2 x3 x4 : Int) (hm : ab_R m) (hx1 : ab_R x1) (hx2 : ab_R x2) (hx3 : ab_R x3) (hx4 : ab_R x4) : ab_call 8 2 12 yX9_many [rf 0, .inl m, .inl x1, .inl x2, .inl x3, .inl x4] σ (stP σ (cc, rows, K, va, R, f, n, pl, c) r (sg_many cc rows K va R f n pl c m x1 x2 x3 x4)) := by
  obtain ⟨h0, -, ⟨h3, hr, h5, hC, hR, hRr⟩, ⟨-, -, -, ⟨m10, h10, h10b⟩, -⟩, -, -, -, -, ⟨g55, h55⟩, -⟩ := id hI
  have hgc := c_give h0 h55 x1 x2 x3 x4
  have hI1 := hI.g55 (g := giv g55 x1 x2 x3 x4)
  have hgr1 : gr fcA σ (ab_st σ 55 (.inr (.inl (0, 4, giv g55 x1 x2 x3 x4)))) := (fr_st (by unfold fcA; omega)).gr
  have z55 : (ab_st σ 55 (.inr (.inl (0, 4, giv g55 x1 x2 x3 x4)))).2 55 = some (.inr (.inl (0, 4, giv g55 x1 x2 x3 x4))) := st_s
  have z10 : (ab_st σ 55 (.inr (.inl (0, 4, giv g55 x1 x2 x3 x4)))).2 10 = _ := st_e (by decide) h10
  have hfi : fitI K (giv g55 x1 x2 x3 x4) cc = fitI K (gvn x1 x2 x3 x4) cc := fitI_ext cc (fun j hj => giv_e _ _ _ _ _ j (by have := hC.1; omega))
  have hvR : ∀ j, j < 4 → ab_R (giv g55 x1 x2 x3 x4 j) := fun j hj => by rw [giv_e _ _ _ _ _ j hj]; exact gvn_R hx1 hx2 hx3 hx4 j
  generalize hPP : ((1 ≤ m ∧ m ≤ 400) ∧ fitI K (gvn x1 x2 x3 x4) cc = true) = PP
  generalize hbb : decide ((1 ≤ m ∧ m ≤ 400) ∧ fitI K (gvn x1 x2 x3 x4) cc = true) = bb
  refine eX9_many rfl (fun At hA => ?_)
  have main : ∀ σ1 : ab_H, CI σ1 cc rows K va ad R f n pl c r → gr fcA σ σ1 → σ1.2 55 = some (.inr (.inl (0, 4, giv g55 x1 x2 x3 x4))) → σ1.2 10 = some (ints 200 m10) → ∀ z : Int, z = b2i bb → At 5 [some (rf 0), some (.inl m), some (.inl x1), some (.inl x2), some (.inl x3), some (.inl x4)] [.inl z, rf 0] σ1 0 0 := fun σ1 hI1 hgr1 z55 z10 z hz => by
    obtain ⟨y0', -, ⟨y3, -, y5, yC, yR, -⟩, -⟩ := id hI1
    subst hz
    refine hA 5 _ rfl _ _ _ _ _ ?_
    refine Exists.intro _ (And.intro (by first | assumption | exact st_s | exact st_e (by decide) (by assumption) | exact st_e (by omega) (by assumption) | exact st_e (by decide) st_s | exact st_e (by omega) st_s | exact st_e (by decide) (st_e (by decide) (by assumption)) | exact st_e (by omega) (st_e (by omega) (by assumption))) (And.intro rfl (ab_inv_of (c_needArgument y0' bb) (by first | decide | omega) (by omega) (by omega) ?_)))
    intro r' τ hpost
    rcases hpost with ⟨hb, rfl, rfl⟩ | ⟨hb, rfl, q9, hq9, rfl⟩
    · rw [hb] at hbb
      have hP := of_decide_eq_true hbb
      have hfit := hP.2
      rw [← hfi] at hfit
      have k8 : ∀ z : Int, z = b2i (decide ((rows : Int) + m ≤ 1500)) → At 8 [some (rf 0), some (.inl m), some (.inl x1), some (.inl x2), some (.inl x3), some (.inl x4)] [.inl z, rf 0] τ (0 + 1) (0 + 6) := fun z hz => by
        subst hz
        refine hA 8 _ rfl _ _ _ _ _ ?_
        refine Exists.intro _ (And.intro (by first | assumption | exact st_s | exact st_e (by decide) (by assumption) | exact st_e (by omega) (by assumption) | exact st_e (by decide) st_s | exact st_e (by omega) st_s | exact st_e (by decide) (st_e (by decide) (by assumption)) | exact st_e (by omega) (st_e (by omega) (by assumption))) (And.intro rfl (ab_inv_of (c_needState y0' (decide ((rows : Int) + m ≤ 1500))) (by first | decide | omega) (by omega) (by omega) ?_)))
        intro r' τ2 hpost
        rcases hpost with ⟨hb2, rfl, rfl⟩ | ⟨hb2, rfl, q9, hq9, rfl⟩
        · have hP2 := of_decide_eq_true hb2
          have hap := c_append y3 y5 yC (yR 6 (by omega)) z10 h10b z55 (by unfold apA; omega) hfit m.toNat (by omega)
          rw [show ((m.toNat : Nat) : Int) = m by omega] at hap
          refine Exists.intro _ (And.intro (by first | assumption | exact st_s | exact st_e (by decide) (by assumption) | exact st_e (by omega) (by assumption) | exact st_e (by decide) st_s | exact st_e (by omega) st_s | exact st_e (by decide) (st_e (by decide) (by assumption)) | exact st_e (by omega) (st_e (by omega) (by assumption))) ?_)
          refine Exists.intro _ (And.intro (by first | assumption | exact st_s | exact st_e (by decide) (by assumption) | exact st_e (by omega) (by assumption) | exact st_e (by decide) st_s | exact st_e (by omega) st_s | exact st_e (by decide) (st_e (by decide) (by assumption)) | exact st_e (by omega) (st_e (by omega) (by assumption))) ?_)
          refine Exists.intro _ (And.intro (by first | assumption | exact st_s | exact st_e (by decide) (by assumption) | exact st_e (by omega) (by assumption) | exact st_e (by decide) st_s | exact st_e (by omega) st_s | exact st_e (by decide) (st_e (by decide) (by assumption)) | exact st_e (by omega) (st_e (by omega) (by assumption))) (And.intro rfl (ab_inv_of hap (by first | decide | omega) (by omega) (by omega) ?_)))
          intro r' υ hpost
          obtain ⟨rfl, f1, f2, f3, f4, f5⟩ := hpost
          have hI3 := hI1.app f1 (m := m.toNat) (by omega) (giv_e g55 x1 x2 x3 x4) f2 f3 f4 f5
          have u0 := hI3.1
          refine Exists.intro _ (And.intro (by first | assumption | exact st_s | exact st_e (by decide) (by assumption) | exact st_e (by omega) (by assumption) | exact st_e (by decide) st_s | exact st_e (by omega) st_s | exact st_e (by decide) (st_e (by decide) (by assumption)) | exact st_e (by omega) (st_e (by omega) (by assumption))) ?_)
          refine Exists.intro _ (And.intro (by first | assumption | exact st_s | exact st_e (by decide) (by assumption) | exact st_e (by omega) (by assumption) | exact st_e (by decide) st_s | exact st_e (by omega) st_s | exact st_e (by decide) (st_e (by decide) (by assumption)) | exact st_e (by omega) (st_e (by omega) (by assumption))) ?_)
          have em : ((rows + m.toNat : Nat) : Int) = (rows : Int) + m := by omega
          rw [em]
          refine st_ok ?_ (hgr1.tr (f1.mono (fun a ha => by unfold apA at ha; unfold fcA; omega)).gr) hI3
          unfold sg_many
          rw [if_pos hP, if_pos hP2]
          rfl
        · have hP2 := of_decide_eq_false hb2
          exact st_no (by unfold sg_many; rw [if_pos hP, if_neg hP2]) hgr1 hI1 hq9
      refine Exists.intro _ (And.intro (by first | assumption | exact st_s | exact st_e (by decide) (by assumption) | exact st_e (by omega) (by assumption) | exact st_e (by decide) st_s | exact st_e (by omega) st_s | exact st_e (by decide) (st_e (by decide) (by assumption)) | exact st_e (by omega) (st_e (by omega) (by assumption))) ?_)
      refine Exists.intro _ (And.intro (by first | assumption | exact st_s | exact st_e (by decide) (by assumption) | exact st_e (by omega) (by assumption) | exact st_e (by decide) st_s | exact st_e (by omega) st_s | exact st_e (by decide) (st_e (by decide) (by assumption)) | exact st_e (by omega) (st_e (by omega) (by assumption))) ?_)
      refine And.intro (And.intro (by first | assumption | exact b2i_R _ | exact rR (by omega) (by omega) | exact rR (by simp only [Int.toNat_natCast]; omega) (by simp only [Int.toNat_natCast]; omega)) (by first | assumption | exact b2i_R _ | exact rR (by omega) (by omega) | exact rR (by simp only [Int.toNat_natCast]; omega) (by simp only [Int.toNat_natCast]; omega))) (And.intro (fun q => ?_) (fun q => ?_))
      · refine hA 7 _ rfl _ _ _ _ _ ?_
        exact k8 0 (by rw [decide_eq_false (by omega)]; rfl)
      · refine hA 6 _ rfl _ _ _ _ _ ?_
        exact k8 1 (by rw [decide_eq_true (by omega)]; rfl)
    · rw [hb] at hbb
      have hP := of_decide_eq_false hbb
      exact st_no (by unfold sg_many; rw [if_neg hP]) hgr1 hI1 hq9
  have k4 : ∀ σ1 : ab_H, CI σ1 cc rows K va ad R f n pl c r → gr fcA σ σ1 → σ1.2 55 = some (.inr (.inl (0, 4, giv g55 x1 x2 x3 x4))) → σ1.2 10 = some (ints 200 m10) → bb = false → At 4 [some (rf 0), some (.inl m), some (.inl x1), some (.inl x2), some (.inl x3), some (.inl x4)] [rf 0] σ1 0 0 := fun σ1 a1 a2 a3 a4 hb => by
    refine hA 4 _ rfl _ _ _ _ _ ?_
    exact main σ1 a1 a2 a3 a4 0 (by rw [hb]; rfl)
  refine hA 0 _ rfl _ _ _ _ _ ?_
  refine Exists.intro _ (And.intro (by first | assumption | exact st_s | exact st_e (by decide) (by assumption) | exact st_e (by omega) (by assumption) | exact st_e (by decide) st_s | exact st_e (by omega) st_s | exact st_e (by decide) (st_e (by decide) (by assumption)) | exact st_e (by omega) (st_e (by omega) (by assumption))) (And.intro rfl (ab_inv_ev hgc (by first | decide | omega) (by first | exact Nat.le_refl _ | omega) (by first | exact Nat.le_refl _ | omega) ?_)))
  refine And.intro (And.intro (by first | assumption | exact b2i_R _ | exact rR (by omega) (by omega) | exact rR (by simp only [Int.toNat_natCast]; omega) (by simp only [Int.toNat_natCast]; omega)) (by first | assumption | exact b2i_R _ | exact rR (by omega) (by omega) | exact rR (by simp only [Int.toNat_natCast]; omega) (by simp only [Int.toNat_natCast]; omega))) (And.intro (fun q => ?_) (fun q => ?_))
  · exact k4 _ hI1 hgr1 z55 z10 (by rw [← hbb]; exact decide_eq_false (fun h => by have := h.1; omega))
  · refine hA 1 _ rfl _ _ _ _ _ ?_
    refine And.intro (And.intro (by first | assumption | exact b2i_R _ | exact rR (by omega) (by omega) | exact rR (by simp only [Int.toNat_natCast]; omega) (by simp only [Int.toNat_natCast]; omega)) (by first | assumption | exact b2i_R _ | exact rR (by omega) (by omega) | exact rR (by simp only [Int.toNat_natCast]; omega) (by simp only [Int.toNat_natCast]; omega))) (And.intro (fun q => ?_) (fun q => ?_))
    · exact k4 _ hI1 hgr1 z55 z10 (by rw [← hbb]; exact decide_eq_false (fun h => by have := h.1; omega))
    · generalize ab_st σ 55 (.inr (.inl (0, 4, giv g55 x1 x2 x3 x4))) = σ1 at hI1 hgr1 z55 z10 ⊢
      obtain ⟨y0', -, ⟨y3, -, y5, yC, yR, -⟩, -⟩ := id hI1
      refine hA 2 _ rfl _ _ _ _ _ ?_
      refine Exists.intro _ (And.intro (by first | assumption | exact st_s | exact st_e (by decide) (by assumption) | exact st_e (by omega) (by assumption) | exact st_e (by decide) st_s | exact st_e (by omega) st_s | exact st_e (by decide) (st_e (by decide) (by assumption)) | exact st_e (by omega) (st_e (by omega) (by assumption))) ?_)
      refine Exists.intro _ (And.intro (by first | assumption | exact st_s | exact st_e (by decide) (by assumption) | exact st_e (by omega) (by assumption) | exact st_e (by decide) st_s | exact st_e (by omega) st_s | exact st_e (by decide) (st_e (by decide) (by assumption)) | exact st_e (by omega) (st_e (by omega) (by assumption))) ?_)
      refine Exists.intro _ (And.intro (by first | assumption | exact st_s | exact st_e (by decide) (by assumption) | exact st_e (by omega) (by assumption) | exact st_e (by decide) st_s | exact st_e (by omega) st_s | exact st_e (by decide) (st_e (by decide) (by assumption)) | exact st_e (by omega) (st_e (by omega) (by assumption))) (And.intro rfl (ab_inv_ev (c_fits y3 yC z55 hvR) (by first | decide | omega) (by first | exact Nat.le_refl _ | omega) (by first | exact Nat.le_refl _ | omega) ?_)))
      refine And.intro (by first | assumption | exact b2i_R _ | exact rR (by omega) (by omega) | exact rR (by simp only [Int.toNat_natCast]; omega) (by simp only [Int.toNat_natCast]; omega)) (And.intro (fun q => ?_) (fun q => ?_))
      · have q := b2i_0 q
        rw [hfi] at q
        exact k4 _ hI1 hgr1 z55 z10 (by rw [← hbb]; exact decide_eq_false (fun h => by rw [q] at h; exact absurd h.2 (by decide)))
      · have q := b2i_1 q
        rw [hfi] at q
        refine hA 3 _ rfl _ _ _ _ _ ?_
        exact main _ hI1 hgr1 z55 z10 1 (by rw [← hbb, decide_eq_true ⟨⟨by assumption, by assumption⟩, q⟩]; rfl)
set_option maxRecDepth 100000 in
set_option maxHeartbeats 1000000 in
theorem f_close (hI : CI σ cc rows K va ad R f n pl c r) : ab_call 6 0 0 yX9_close [rf 0] σ (stP σ (cc, rows, K, va, R, f, n, pl, c) r (sg_close cc rows K va R f n pl c)) := by
  have hs := hI.s
  obtain ⟨h0, h1, ⟨h3, hr, h5, hC, hR, hRr⟩, ⟨⟨e6, s1⟩, ⟨t8, s2⟩, ⟨ar, s3, s4⟩, ⟨m10, h10, h10b⟩, mb, s5⟩, k4, k5, k6⟩ := id hI
  have na : ∀ a, a ≠ 3 → a ≠ 10 → a < 13 ∨ 25 < a → a < 320 → ¬ clA a := fun a h1 h2 h3 h4 => by unfold clA; omega
  have hkl := cnt_le (bit (R 6)) rows
  refine eX9_close rfl (fun At hA => ?_)
  refine hA 0 _ rfl _ _ _ _ _ ?_
  refine Exists.intro _ (And.intro (by first | assumption | exact st_s | exact st_e (by decide) (by assumption) | exact st_e (by omega) (by assumption) | exact st_e (by decide) st_s | exact st_e (by omega) st_s | exact st_e (by decide) (st_e (by decide) (by assumption)) | exact st_e (by omega) (st_e (by omega) (by assumption))) ?_)
  refine Exists.intro _ (And.intro (by first | assumption | exact st_s | exact st_e (by decide) (by assumption) | exact st_e (by omega) (by assumption) | exact st_e (by decide) st_s | exact st_e (by omega) st_s | exact st_e (by decide) (st_e (by decide) (by assumption)) | exact st_e (by omega) (st_e (by omega) (by assumption))) (And.intro rfl (ab_inv_of (c_closeUp h3 hr h5 hC (hR 6 (by omega)) (hRr 6 (by omega)) h10 h10b (R := R) (fun i hi => hR i (by omega)) (fun i hi => hRr i (by omega))) (by first | decide | omega) (by omega) (by omega) ?_)))
  intro r' τ hpost
  obtain ⟨rfl, f1, f2, f3, f4, f5, f6⟩ := hpost
  have hg := f1.gr
  have hR5 : τ.2 5 = some rsc := (f1.2 5 (na _ (by omega) (by omega) (by omega) (by omega))).trans h5
  refine st_ok (S := (cc, rows, K, va, R, f, n, pl, c)) (o := sg_close cc rows K va R f n pl c) rfl (f1.mono (fun a ha => by unfold clA at ha; unfold fcA; omega)).gr ⟨(f1.2 0 (na _ (by omega) (by omega) (by omega) (by omega))).trans h0, h1.gr hg hs ⟨na _ (by omega) (by omega) (by omega) (by omega), na _ (by omega) (by omega) (by omega) (by omega)⟩, ⟨f2, by omega, hR5, f6, fun i hi => ?_, fun i hi x hx => ?_⟩, ⟨⟨e6, s1.fr f1 (na _ (by omega) (by omega) (by omega) (by omega)) (na _ (by omega) (by omega) (by omega) (by omega))⟩, ⟨t8, (f1.2 8 (na _ (by omega) (by omega) (by omega) (by omega))).trans s2⟩, ⟨ar, (f1.2 9 (na _ (by omega) (by omega) (by omega) (by omega))).trans s3, s4⟩, f4, mb, (f1.2 11 (na _ (by omega) (by omega) (by omega) (by omega))).trans s5⟩, k4.gr hg hs (fun a _ _ => na a (by omega) (by omega) (by omega) (by omega)), k5.gr hg hs (fun a _ _ => na a (by omega) (by omega) (by omega) (by omega)), k6.gr hg (fun a _ _ => na a (by omega) (by omega) (by omega) (by omega))⟩
  · by_cases e : i = 6
    · subst e; exact f3
    · show IsB τ (12 + 2 * i) (if i = 6 then _ else _)
      rw [if_neg e]; exact f5 i (by omega)
  · by_cases e : i = 6
    · subst e
      show bit (all1 (cnt (bit (R 6)) rows)) x = false
      unfold all1
      rw [bit_rg, decide_eq_false (by omega)]
    · show bit (if i = 6 then _ else RK (R 6) (R i) rows) x = false
      rw [if_neg e]
      unfold RK
      rw [bit_mk, decide_eq_false (by omega)]
      rfl
end State2
