-- ===== the calls that write what nobody sees =====
section Face3
variable {σ : ab_H} {cc rows : Nat} {K : Nat → CT} {va : Nat → Nat → Nat} {ad : Nat → Nat} {R : Nat → V1} {f : Nat → Int} {n : Nat} {pl : Int} {c : C3} {r : Nat → Nat}
set_option maxRecDepth 100000 in
set_option maxHeartbeats 1000000 in
theorem f_differ (hI : CI σ cc rows K va ad R f n pl c r) (a b : Int) (ha : ab_R a) (hb : ab_R b) : ab_call 10 4 24 yX9_differ [rf 0, .inl a, .inl b] σ (pureP σ cc rows K va ad R f n pl c r (sp_differ R a b)) := by
  obtain ⟨h0, ⟨⟨tlen, tat, tst, tk, h1⟩, h2, hby, hn4⟩, ⟨h3, hr, h5, hC, hR, hRr⟩, ⟨⟨e6, h6⟩, ⟨t8, h8⟩, ⟨ar9, h9, h9b⟩, ⟨m10, h10, h10b⟩, mb11, h11⟩, -, -, -, ⟨s53, h53⟩, ⟨g55, h55⟩, ⟨g56, h56, h56a, h56b, h56c⟩, hs⟩ := id hI
  obtain ⟨hcc4, ⟨A, h4, hAd⟩, hcol⟩ := id hC
  have hgu := gu_le hr
  have GR := gr_rf fcA σ
  refine eX9_differ rfl (fun At hA => ?_)
  refine hA 0 _ rfl _ _ _ _ _ ?_
  refine Exists.intro _ (And.intro (by first | assumption | exact st_s | exact st_e (by decide) (by assumption) | exact st_e (by omega) (by assumption) | exact st_e (by decide) st_s | exact st_e (by omega) st_s | exact st_e (by decide) (st_e (by decide) (by assumption)) | exact st_e (by omega) (st_e (by omega) (by assumption))) (And.intro rfl (ab_inv_of (c_existingResult h0 h3 h5 a ha) (by first | decide | omega) (by omega) (by omega) ?_)))
  intro r' τ1 hpost
  rcases hpost with ⟨hb1, rfl, rfl⟩ | ⟨hb1, rfl, q9, hq9, rfl⟩
  · have hP1 := of_decide_eq_true hb1
    refine Exists.intro _ (And.intro (by first | assumption | exact st_s | exact st_e (by decide) (by assumption) | exact st_e (by omega) (by assumption) | exact st_e (by decide) st_s | exact st_e (by omega) st_s | exact st_e (by decide) (st_e (by decide) (by assumption)) | exact st_e (by omega) (st_e (by omega) (by assumption))) (And.intro rfl (ab_inv_of (c_existingResult h0 h3 h5 b hb) (by first | decide | omega) (by omega) (by omega) ?_)))
    intro r' τ2 hpost
    rcases hpost with ⟨hb2, rfl, rfl⟩ | ⟨hb2, rfl, q9, hq9, rfl⟩
    · have hP2 := of_decide_eq_true hb2
      have hAa := hR a.toNat (by omega)
      have hB := hR b.toNat (by omega)
      have hjl : ∀ k, k < 4 → ∀ i, jn k (R a.toNat) (R b.toNat) i < 32768 := fun k hk i => jo_lt (hAa.2.2 i) (hB.2.2 i)
      have h531 := h53.1
      have hI2 := hI.sp (hjl 2 (by omega))
      have hS2 : IsB (ab_st τ2 54 (bmc (jn 2 (R a.toNat) (R b.toNat)))) 53 (jn 2 (R a.toNat) (R b.toNat)) := h53.st (hjl 2 (by omega))
      have hS21 := hS2.1
      have hz0 : (ab_st τ2 54 (bmc (jn 2 (R a.toNat) (R b.toNat)))).2 0 = some (c9 r) := st_e (by decide) h0
      refine Exists.intro _ (And.intro (by first | assumption | exact st_s | exact st_e (by decide) (by assumption) | exact st_e (by omega) (by assumption) | exact st_e (by decide) st_s | exact st_e (by omega) st_s | exact st_e (by decide) (st_e (by decide) (by assumption)) | exact st_e (by omega) (st_e (by omega) (by assumption))) ?_)
      refine Exists.intro _ (And.intro (by first | assumption | exact st_s | exact st_e (by decide) (by assumption) | exact st_e (by omega) (by assumption) | exact st_e (by decide) st_s | exact st_e (by omega) st_s | exact st_e (by decide) (st_e (by decide) (by assumption)) | exact st_e (by omega) (st_e (by omega) (by assumption))) (And.intro rfl (ab_inv_ev (c_becomeLogic h53 hAa hB 2 (by omega)) (by first | decide | omega) (by first | exact Nat.le_refl _ | omega) (by first | exact Nat.le_refl _ | omega) ?_)))
      refine Exists.intro _ (And.intro (by first | assumption | exact st_s | exact st_e (by decide) (by assumption) | exact st_e (by omega) (by assumption) | exact st_e (by decide) st_s | exact st_e (by omega) st_s | exact st_e (by decide) (st_e (by decide) (by assumption)) | exact st_e (by omega) (st_e (by omega) (by assumption))) ?_)
      refine Exists.intro _ (And.intro (by first | assumption | exact st_s | exact st_e (by decide) (by assumption) | exact st_e (by omega) (by assumption) | exact st_e (by decide) st_s | exact st_e (by omega) st_s | exact st_e (by decide) (st_e (by decide) (by assumption)) | exact st_e (by omega) (st_e (by omega) (by assumption))) (And.intro rfl (ab_inv_ev (c_count hS2) (by first | decide | omega) (by first | exact Nat.le_refl _ | omega) (by first | exact Nat.le_refl _ | omega) ?_)))
      exact pure_ok (by unfold sp_differ; rw [if_pos ⟨hP1, hP2⟩]) ((fr_st (A := fcA) (by unfold fcA; omega)).gr) hI2
    · have hP2 := of_decide_eq_false hb2
      exact pure_no (by unfold sp_differ; rw [if_neg (fun h => hP2 h.2)]) GR hI hq9
  · have hP1 := of_decide_eq_false hb1
    exact pure_no (by unfold sp_differ; rw [if_neg (fun h => hP1 h.1)]) GR hI hq9
set_option maxRecDepth 100000 in
set_option maxHeartbeats 1000000 in
theorem f_within (hI : CI σ cc rows K va ad R f n pl c r) (a b : Int) (ha : ab_R a) (hb : ab_R b) : ab_call 10 4 24 yX9_within [rf 0, .inl a, .inl b] σ (pureP σ cc rows K va ad R f n pl c r (sp_within R a b)) := by
  obtain ⟨h0, ⟨⟨tlen, tat, tst, tk, h1⟩, h2, hby, hn4⟩, ⟨h3, hr, h5, hC, hR, hRr⟩, ⟨⟨e6, h6⟩, ⟨t8, h8⟩, ⟨ar9, h9, h9b⟩, ⟨m10, h10, h10b⟩, mb11, h11⟩, -, -, -, ⟨s53, h53⟩, ⟨g55, h55⟩, ⟨g56, h56, h56a, h56b, h56c⟩, hs⟩ := id hI
  obtain ⟨hcc4, ⟨A, h4, hAd⟩, hcol⟩ := id hC
  have hgu := gu_le hr
  have GR := gr_rf fcA σ
  refine eX9_within rfl (fun At hA => ?_)
  refine hA 0 _ rfl _ _ _ _ _ ?_
  refine Exists.intro _ (And.intro (by first | assumption | exact st_s | exact st_e (by decide) (by assumption) | exact st_e (by omega) (by assumption) | exact st_e (by decide) st_s | exact st_e (by omega) st_s | exact st_e (by decide) (st_e (by decide) (by assumption)) | exact st_e (by omega) (st_e (by omega) (by assumption))) (And.intro rfl (ab_inv_of (c_existingResult h0 h3 h5 a ha) (by first | decide | omega) (by omega) (by omega) ?_)))
  intro r' τ1 hpost
  rcases hpost with ⟨hb1, rfl, rfl⟩ | ⟨hb1, rfl, q9, hq9, rfl⟩
  · have hP1 := of_decide_eq_true hb1
    refine Exists.intro _ (And.intro (by first | assumption | exact st_s | exact st_e (by decide) (by assumption) | exact st_e (by omega) (by assumption) | exact st_e (by decide) st_s | exact st_e (by omega) st_s | exact st_e (by decide) (st_e (by decide) (by assumption)) | exact st_e (by omega) (st_e (by omega) (by assumption))) (And.intro rfl (ab_inv_of (c_existingResult h0 h3 h5 b hb) (by first | decide | omega) (by omega) (by omega) ?_)))
    intro r' τ2 hpost
    rcases hpost with ⟨hb2, rfl, rfl⟩ | ⟨hb2, rfl, q9, hq9, rfl⟩
    · have hP2 := of_decide_eq_true hb2
      have hAa := hR a.toNat (by omega)
      have hB := hR b.toNat (by omega)
      have hjl : ∀ k, k < 4 → ∀ i, jn k (R a.toNat) (R b.toNat) i < 32768 := fun k hk i => jo_lt (hAa.2.2 i) (hB.2.2 i)
      have h531 := h53.1
      have hI2 := hI.sp (hjl 3 (by omega))
      have hS2 : IsB (ab_st τ2 54 (bmc (jn 3 (R a.toNat) (R b.toNat)))) 53 (jn 3 (R a.toNat) (R b.toNat)) := h53.st (hjl 3 (by omega))
      have hS21 := hS2.1
      have hz0 : (ab_st τ2 54 (bmc (jn 3 (R a.toNat) (R b.toNat)))).2 0 = some (c9 r) := st_e (by decide) h0
      have hcl := cnt_le (bit (jn 3 (R a.toNat) (R b.toNat))) 1500
      have k3 : ∀ z : Int, z = b2i (cnt (bit (jn 3 (R a.toNat) (R b.toNat))) 1500 == 0) → At 3 [some (rf 0), some (.inl a), some (.inl b), some (rf (12 + 2 * a.toNat)), some (rf (12 + 2 * b.toNat))] [.inl z] (ab_st τ2 54 (bmc (jn 3 (R a.toNat) (R b.toNat)))) (0 + 1 + 1) (0 + 6 + 6) := fun z hz => by
        subst hz
        refine hA 3 _ rfl _ _ _ _ _ ?_
        refine And.intro (by first | exact Or.inl rfl | exact Or.inr rfl | exact b2i_01 _) ?_
        exact pure_ok (by unfold sp_within; rw [if_pos ⟨hP1, hP2⟩]) ((fr_st (A := fcA) (by unfold fcA; omega)).gr) hI2
      refine Exists.intro _ (And.intro (by first | assumption | exact st_s | exact st_e (by decide) (by assumption) | exact st_e (by omega) (by assumption) | exact st_e (by decide) st_s | exact st_e (by omega) st_s | exact st_e (by decide) (st_e (by decide) (by assumption)) | exact st_e (by omega) (st_e (by omega) (by assumption))) ?_)
      refine Exists.intro _ (And.intro (by first | assumption | exact st_s | exact st_e (by decide) (by assumption) | exact st_e (by omega) (by assumption) | exact st_e (by decide) st_s | exact st_e (by omega) st_s | exact st_e (by decide) (st_e (by decide) (by assumption)) | exact st_e (by omega) (st_e (by omega) (by assumption))) (And.intro rfl (ab_inv_ev (c_becomeLogic h53 hAa hB 3 (by omega)) (by first | decide | omega) (by first | exact Nat.le_refl _ | omega) (by first | exact Nat.le_refl _ | omega) ?_)))
      refine Exists.intro _ (And.intro (by first | assumption | exact st_s | exact st_e (by decide) (by assumption) | exact st_e (by omega) (by assumption) | exact st_e (by decide) st_s | exact st_e (by omega) st_s | exact st_e (by decide) (st_e (by decide) (by assumption)) | exact st_e (by omega) (st_e (by omega) (by assumption))) ?_)
      refine Exists.intro _ (And.intro (by first | assumption | exact st_s | exact st_e (by decide) (by assumption) | exact st_e (by omega) (by assumption) | exact st_e (by decide) st_s | exact st_e (by omega) st_s | exact st_e (by decide) (st_e (by decide) (by assumption)) | exact st_e (by omega) (st_e (by omega) (by assumption))) (And.intro rfl (ab_inv_ev (c_count hS2) (by first | decide | omega) (by first | exact Nat.le_refl _ | omega) (by first | exact Nat.le_refl _ | omega) ?_)))
      refine And.intro (by first | assumption | exact b2i_R _ | exact rR (by omega) (by omega) | exact rR (by simp only [Int.toNat_natCast]; omega) (by simp only [Int.toNat_natCast]; omega)) (And.intro (fun q => ?_) (fun q => ?_))
      · refine hA 2 _ rfl _ _ _ _ _ ?_
        exact k3 0 (by rw [beq_eq_false_iff_ne.mpr (by omega)]; rfl)
      · refine hA 1 _ rfl _ _ _ _ _ ?_
        exact k3 1 (by rw [beq_iff_eq.mpr (by omega)]; rfl)
    · have hP2 := of_decide_eq_false hb2
      exact pure_no (by unfold sp_within; rw [if_neg (fun h => hP2 h.2)]) GR hI hq9
  · have hP1 := of_decide_eq_false hb1
    exact pure_no (by unfold sp_within; rw [if_neg (fun h => hP1 h.1)]) GR hI hq9
set_option maxRecDepth 100000 in
set_option maxHeartbeats 1000000 in
theorem f_would (hI : CI σ cc rows K va ad R f n pl c r) (kind a b what : Int) (hkind : ab_R kind) (ha : ab_R a) (hb : ab_R b) (hwhat : ab_R what) : ab_call 10 4 24 yX9_would [rf 0, .inl kind, .inl a, .inl b, .inl what] σ (pureP σ cc rows K va ad R f n pl c r (sp_would rows R kind a b what)) := by
  obtain ⟨h0, ⟨⟨tlen, tat, tst, tk, h1⟩, h2, hby, hn4⟩, ⟨h3, hr, h5, hC, hR, hRr⟩, ⟨⟨e6, h6⟩, ⟨t8, h8⟩, ⟨ar9, h9, h9b⟩, ⟨m10, h10, h10b⟩, mb11, h11⟩, -, -, -, ⟨s53, h53⟩, ⟨g55, h55⟩, ⟨g56, h56, h56a, h56b, h56c⟩, hs⟩ := id hI
  obtain ⟨hcc4, ⟨A, h4, hAd⟩, hcol⟩ := id hC
  have hgu := gu_le hr
  have GR := gr_rf fcA σ
  refine eX9_would rfl (fun At hA => ?_)
  refine hA 0 _ rfl _ _ _ _ _ ?_
  refine Exists.intro _ (And.intro (by first | assumption | exact st_s | exact st_e (by decide) (by assumption) | exact st_e (by omega) (by assumption) | exact st_e (by decide) st_s | exact st_e (by omega) st_s | exact st_e (by decide) (st_e (by decide) (by assumption)) | exact st_e (by omega) (st_e (by omega) (by assumption))) (And.intro rfl (ab_inv_of (c_existingResult h0 h3 h5 a ha) (by first | decide | omega) (by omega) (by omega) ?_)))
  intro r' τ1 hpost
  rcases hpost with ⟨hb1, rfl, rfl⟩ | ⟨hb1, rfl, q9, hq9, rfl⟩
  · have hP1 := of_decide_eq_true hb1
    refine Exists.intro _ (And.intro (by first | assumption | exact st_s | exact st_e (by decide) (by assumption) | exact st_e (by omega) (by assumption) | exact st_e (by decide) st_s | exact st_e (by omega) st_s | exact st_e (by decide) (st_e (by decide) (by assumption)) | exact st_e (by omega) (st_e (by omega) (by assumption))) (And.intro rfl (ab_inv_of (c_existingResult h0 h3 h5 b hb) (by first | decide | omega) (by omega) (by omega) ?_)))
    intro r' τ2 hpost
    rcases hpost with ⟨hb2, rfl, rfl⟩ | ⟨hb2, rfl, q9, hq9, rfl⟩
    · have hP2 := of_decide_eq_true hb2
      have hAa := hR a.toNat (by omega)
      have hB := hR b.toNat (by omega)
      have hjl : ∀ k, k < 4 → ∀ i, jn k (R a.toNat) (R b.toNat) i < 32768 := fun k hk i => jo_lt (hAa.2.2 i) (hB.2.2 i)
      have h531 := h53.1
      have kN : ∀ z : Int, z = b2i (decide (0 ≤ kind ∧ kind ≤ 3 ∧ 0 ≤ what ∧ what ≤ 2)) → At 6 [some (rf 0), some (.inl kind), some (.inl a), some (.inl b), some (.inl what), some (rf (12 + 2 * a.toNat)), some (rf (12 + 2 * b.toNat))] [.inl z, rf 0] τ2 (0 + 1 + 1) (0 + 6 + 6) := fun z hz => by
        subst hz
        refine hA 6 _ rfl _ _ _ _ _ ?_
        refine Exists.intro _ (And.intro (by first | assumption | exact st_s | exact st_e (by decide) (by assumption) | exact st_e (by omega) (by assumption) | exact st_e (by decide) st_s | exact st_e (by omega) st_s | exact st_e (by decide) (st_e (by decide) (by assumption)) | exact st_e (by omega) (st_e (by omega) (by assumption))) (And.intro rfl (ab_inv_of (c_needArgument h0 (decide (0 ≤ kind ∧ kind ≤ 3 ∧ 0 ≤ what ∧ what ≤ 2))) (by first | decide | omega) (by omega) (by omega) ?_)))
        intro r' τn hpost
        rcases hpost with ⟨hbn, rfl, rfl⟩ | ⟨hbn, rfl, q9, hq9, rfl⟩
        · have hP := of_decide_eq_true hbn
          have hAa1 := hAa.1
          have hI2 := hI.sp (hjl kind.toNat (by omega))
          have hS2 : IsB (ab_st τn 54 (bmc (jn kind.toNat (R a.toNat) (R b.toNat)))) 53 (jn kind.toNat (R a.toNat) (R b.toNat)) := h53.st (hjl kind.toNat (by omega))
          have hS21 := hS2.1
          have hz0 : (ab_st τn 54 (bmc (jn kind.toNat (R a.toNat) (R b.toNat)))).2 0 = some (c9 r) := st_e (by decide) h0
          have hz3 : (ab_st τn 54 (bmc (jn kind.toNat (R a.toNat) (R b.toNat)))).2 3 = some (tbc cc rows) := st_e (by decide) h3
          have hlg := c_becomeLogic h53 hAa hB kind.toNat (by omega)
          rw [show ((kind.toNat : Nat) : Int) = kind by omega] at hlg
          refine And.intro (And.intro (by first | assumption | exact b2i_R _ | exact rR (by omega) (by omega) | exact rR (by simp only [Int.toNat_natCast]; omega) (by simp only [Int.toNat_natCast]; omega)) (by first | assumption | exact b2i_R _ | exact rR (by omega) (by omega) | exact rR (by simp only [Int.toNat_natCast]; omega) (by simp only [Int.toNat_natCast]; omega))) (And.intro (fun q => ?_) (fun q => ?_))
          · have hne : what ≠ 2 := by omega
            refine hA 8 _ rfl _ _ _ _ _ ?_
            refine Exists.intro _ (And.intro (by first | assumption | exact st_s | exact st_e (by decide) (by assumption) | exact st_e (by omega) (by assumption) | exact st_e (by decide) st_s | exact st_e (by omega) st_s | exact st_e (by decide) (st_e (by decide) (by assumption)) | exact st_e (by omega) (st_e (by omega) (by assumption))) ?_)
            refine Exists.intro _ (And.intro (by first | assumption | exact st_s | exact st_e (by decide) (by assumption) | exact st_e (by omega) (by assumption) | exact st_e (by decide) st_s | exact st_e (by omega) st_s | exact st_e (by decide) (st_e (by decide) (by assumption)) | exact st_e (by omega) (st_e (by omega) (by assumption))) (And.intro rfl (ab_inv_ev hlg (by first | decide | omega) (by first | exact Nat.le_refl _ | omega) (by first | exact Nat.le_refl _ | omega) ?_)))
            refine And.intro (by first | assumption | exact b2i_R _ | exact rR (by omega) (by omega) | exact rR (by simp only [Int.toNat_natCast]; omega) (by simp only [Int.toNat_natCast]; omega)) (And.intro (fun q => ?_) (fun q => ?_))
            · have hn0 : what ≠ 0 := by omega
              refine hA 10 _ rfl _ _ _ _ _ ?_
              refine Exists.intro _ (And.intro (by first | assumption | exact st_s | exact st_e (by decide) (by assumption) | exact st_e (by omega) (by assumption) | exact st_e (by decide) st_s | exact st_e (by omega) st_s | exact st_e (by decide) (st_e (by decide) (by assumption)) | exact st_e (by omega) (st_e (by omega) (by assumption))) ?_)
              refine Exists.intro _ (And.intro (by first | assumption | exact st_s | exact st_e (by decide) (by assumption) | exact st_e (by omega) (by assumption) | exact st_e (by decide) st_s | exact st_e (by omega) st_s | exact st_e (by decide) (st_e (by decide) (by assumption)) | exact st_e (by omega) (st_e (by omega) (by assumption))) ?_)
              refine Exists.intro _ (And.intro (by first | assumption | exact st_s | exact st_e (by decide) (by assumption) | exact st_e (by omega) (by assumption) | exact st_e (by decide) st_s | exact st_e (by omega) st_s | exact st_e (by decide) (st_e (by decide) (by assumption)) | exact st_e (by omega) (st_e (by omega) (by assumption))) (And.intro rfl (ab_inv_ev (c_groupsUsed hz3 hr) (by first | decide | omega) (by first | exact Nat.le_refl _ | omega) (by first | exact Nat.le_refl _ | omega) ?_)))
              refine Exists.intro _ (And.intro (by first | assumption | exact st_s | exact st_e (by decide) (by assumption) | exact st_e (by omega) (by assumption) | exact st_e (by decide) st_s | exact st_e (by omega) st_s | exact st_e (by decide) (st_e (by decide) (by assumption)) | exact st_e (by omega) (st_e (by omega) (by assumption))) (And.intro rfl (ab_inv_ev (c_wordCount hS2 (gu rows) hgu) (by first | decide | omega) (by first | exact Nat.le_refl _ | omega) (by first | exact Nat.le_refl _ | omega) ?_)))
              refine hA 11 _ rfl _ _ _ _ _ ?_
              exact pure_ok (by unfold sp_would; rw [if_pos ⟨hP1, hP2⟩, if_pos hP, if_neg hne, if_neg hn0]) ((fr_st (A := fcA) (by unfold fcA; omega)).gr) hI2
            · have h0w : what = 0 := by omega
              refine hA 9 _ rfl _ _ _ _ _ ?_
              refine Exists.intro _ (And.intro (by first | assumption | exact st_s | exact st_e (by decide) (by assumption) | exact st_e (by omega) (by assumption) | exact st_e (by decide) st_s | exact st_e (by omega) st_s | exact st_e (by decide) (st_e (by decide) (by assumption)) | exact st_e (by omega) (st_e (by omega) (by assumption))) ?_)
              refine Exists.intro _ (And.intro (by first | assumption | exact st_s | exact st_e (by decide) (by assumption) | exact st_e (by omega) (by assumption) | exact st_e (by decide) st_s | exact st_e (by omega) st_s | exact st_e (by decide) (st_e (by decide) (by assumption)) | exact st_e (by omega) (st_e (by omega) (by assumption))) (And.intro rfl (ab_inv_ev (c_count hS2) (by first | decide | omega) (by first | exact Nat.le_refl _ | omega) (by first | exact Nat.le_refl _ | omega) ?_)))
              refine hA 11 _ rfl _ _ _ _ _ ?_
              exact pure_ok (by unfold sp_would; rw [if_pos ⟨hP1, hP2⟩, if_pos hP, if_neg hne, if_pos h0w]) ((fr_st (A := fcA) (by unfold fcA; omega)).gr) hI2
          · have h2w : what = 2 := by omega
            refine hA 7 _ rfl _ _ _ _ _ ?_
            refine Exists.intro _ (And.intro (by first | assumption | exact st_s | exact st_e (by decide) (by assumption) | exact st_e (by omega) (by assumption) | exact st_e (by decide) st_s | exact st_e (by omega) st_s | exact st_e (by decide) (st_e (by decide) (by assumption)) | exact st_e (by omega) (st_e (by omega) (by assumption))) ?_)
            refine Exists.intro _ (And.intro (by first | assumption | exact st_s | exact st_e (by decide) (by assumption) | exact st_e (by omega) (by assumption) | exact st_e (by decide) st_s | exact st_e (by omega) st_s | exact st_e (by decide) (st_e (by decide) (by assumption)) | exact st_e (by omega) (st_e (by omega) (by assumption))) (And.intro rfl (ab_inv_ev (c_groupsUsed h3 hr) (by first | decide | omega) (by first | exact Nat.le_refl _ | omega) (by first | exact Nat.le_refl _ | omega) ?_)))
            refine Exists.intro _ (And.intro (by first | assumption | exact st_s | exact st_e (by decide) (by assumption) | exact st_e (by omega) (by assumption) | exact st_e (by decide) st_s | exact st_e (by omega) st_s | exact st_e (by decide) (st_e (by decide) (by assumption)) | exact st_e (by omega) (st_e (by omega) (by assumption))) (And.intro rfl (ab_inv_ev (c_stepsWith hAa hB (gu rows) hgu) (by first | decide | omega) (by first | exact Nat.le_refl _ | omega) (by first | exact Nat.le_refl _ | omega) ?_)))
            exact pure_ok (by unfold sp_would; rw [if_pos ⟨hP1, hP2⟩, if_pos hP, if_pos h2w]; rfl) GR hI
        · have hP := of_decide_eq_false hbn
          exact pure_no (by unfold sp_would; rw [if_pos ⟨hP1, hP2⟩, if_neg hP]) GR hI hq9
      have kF : ¬ (0 ≤ kind ∧ kind ≤ 3 ∧ 0 ≤ what ∧ what ≤ 2) → At 5 [some (rf 0), some (.inl kind), some (.inl a), some (.inl b), some (.inl what), some (rf (12 + 2 * a.toNat)), some (rf (12 + 2 * b.toNat))] [rf 0] τ2 (0 + 1 + 1) (0 + 6 + 6) := fun h => by
        refine hA 5 _ rfl _ _ _ _ _ ?_
        exact kN 0 (by rw [decide_eq_false h]; rfl)
      refine And.intro (by first | assumption | exact b2i_R _ | exact rR (by omega) (by omega) | exact rR (by simp only [Int.toNat_natCast]; omega) (by simp only [Int.toNat_natCast]; omega)) (And.intro (fun q => ?_) (fun q => ?_))
      · exact kF (by omega)
      · refine hA 1 _ rfl _ _ _ _ _ ?_
        refine And.intro (And.intro (by first | assumption | exact b2i_R _ | exact rR (by omega) (by omega) | exact rR (by simp only [Int.toNat_natCast]; omega) (by simp only [Int.toNat_natCast]; omega)) (by first | assumption | exact b2i_R _ | exact rR (by omega) (by omega) | exact rR (by simp only [Int.toNat_natCast]; omega) (by simp only [Int.toNat_natCast]; omega))) (And.intro (fun q => ?_) (fun q => ?_))
        · exact kF (by omega)
        · refine hA 2 _ rfl _ _ _ _ _ ?_
          refine And.intro (by first | assumption | exact b2i_R _ | exact rR (by omega) (by omega) | exact rR (by simp only [Int.toNat_natCast]; omega) (by simp only [Int.toNat_natCast]; omega)) (And.intro (fun q => ?_) (fun q => ?_))
          · exact kF (by omega)
          · refine hA 3 _ rfl _ _ _ _ _ ?_
            refine And.intro (And.intro (by first | assumption | exact b2i_R _ | exact rR (by omega) (by omega) | exact rR (by simp only [Int.toNat_natCast]; omega) (by simp only [Int.toNat_natCast]; omega)) (by first | assumption | exact b2i_R _ | exact rR (by omega) (by omega) | exact rR (by simp only [Int.toNat_natCast]; omega) (by simp only [Int.toNat_natCast]; omega))) (And.intro (fun q => ?_) (fun q => ?_))
            · exact kF (by omega)
            · refine hA 4 _ rfl _ _ _ _ _ ?_
              exact kN 1 (by rw [decide_eq_true (by omega)]; rfl)
    · have hP2 := of_decide_eq_false hb2
      exact pure_no (by unfold sp_would; rw [if_neg (fun h => hP2 h.2)]) GR hI hq9
  · have hP1 := of_decide_eq_false hb1
    exact pure_no (by unfold sp_would; rw [if_neg (fun h => hP1 h.1)]) GR hI hq9
set_option maxRecDepth 100000 in
set_option maxHeartbeats 1000000 in
theorem f_ordered (hI : CI σ cc rows K va ad R f n pl c r) (a b : Int) (ha : ab_R a) (hb : ab_R b) : ab_call 10 4 24 yX9_ordered [rf 0, .inl a, .inl b] σ (pureP σ cc rows K va ad R f n pl c r (sp_ordered cc rows K va a b)) := by
  obtain ⟨h0, ⟨⟨tlen, tat, tst, tk, h1⟩, h2, hby, hn4⟩, ⟨h3, hr, h5, hC, hR, hRr⟩, ⟨⟨e6, h6⟩, ⟨t8, h8⟩, ⟨ar9, h9, h9b⟩, ⟨m10, h10, h10b⟩, mb11, h11⟩, -, -, -, ⟨s53, h53⟩, ⟨g55, h55⟩, ⟨g56, h56, h56a, h56b, h56c⟩, hs⟩ := id hI
  obtain ⟨hcc4, ⟨A, h4, hAd⟩, hcol⟩ := id hC
  have hgu := gu_le hr
  have GR := gr_rf fcA σ
  refine eX9_ordered rfl (fun At hA => ?_)
  refine hA 0 _ rfl _ _ _ _ _ ?_
  refine Exists.intro _ (And.intro (by first | assumption | exact st_s | exact st_e (by decide) (by assumption) | exact st_e (by omega) (by assumption) | exact st_e (by decide) st_s | exact st_e (by omega) st_s | exact st_e (by decide) (st_e (by decide) (by assumption)) | exact st_e (by omega) (st_e (by omega) (by assumption))) (And.intro rfl (ab_inv_of (c_existingColumn h0 h3 hC a ha) (by first | decide | omega) (by omega) (by omega) ?_)))
  intro r' τ1 hpost
  rcases hpost with ⟨hb1, rfl, rfl⟩ | ⟨hb1, rfl, q9, hq9, rfl⟩
  · have hP1 := of_decide_eq_true hb1
    refine Exists.intro _ (And.intro (by first | assumption | exact st_s | exact st_e (by decide) (by assumption) | exact st_e (by omega) (by assumption) | exact st_e (by decide) st_s | exact st_e (by omega) st_s | exact st_e (by decide) (st_e (by decide) (by assumption)) | exact st_e (by omega) (st_e (by omega) (by assumption))) (And.intro rfl (ab_inv_of (c_existingColumn h0 h3 hC b hb) (by first | decide | omega) (by omega) (by omega) ?_)))
    intro r' τ2 hpost
    rcases hpost with ⟨hb2, rfl, rfl⟩ | ⟨hb2, rfl, q9, hq9, rfl⟩
    · have hP2 := of_decide_eq_true hb2
      obtain ⟨k1, k2, k3, k4, k5, k6⟩ := hcol a.toNat (by omega)
      obtain ⟨l1, l2, l3, l4, l5, l6⟩ := hcol b.toNat (by omega)
      refine Exists.intro _ (And.intro (by first | assumption | exact st_s | exact st_e (by decide) (by assumption) | exact st_e (by omega) (by assumption) | exact st_e (by decide) st_s | exact st_e (by omega) st_s | exact st_e (by decide) (st_e (by decide) (by assumption)) | exact st_e (by omega) (st_e (by omega) (by assumption))) ?_)
      refine Exists.intro _ (And.intro (by first | assumption | exact st_s | exact st_e (by decide) (by assumption) | exact st_e (by omega) (by assumption) | exact st_e (by decide) st_s | exact st_e (by omega) st_s | exact st_e (by decide) (st_e (by decide) (by assumption)) | exact st_e (by omega) (st_e (by omega) (by assumption))) (And.intro rfl (ab_inv_of (c_wordsIfOrdered h3 hr h8 h9 h6 h10 h11 h10b k3 k1 l3 (by omega) (by omega) l2 (fun r => by have := k2 r; omega) h9b) (by first | decide | omega) (by omega) (by omega) ?_)))
      intro r' τ3 hpost
      obtain ⟨rfl, hf, e1, t1, ar1, m1, mb1, j1, j2, j3, j4, j5, j6, j7⟩ := hpost
      have hI2 := hI.scr (hf.mono (fun a ha => by unfold woA arA awA at ha; omega)) ⟨⟨e1, j1⟩, ⟨t1, j2⟩, ⟨ar1, j3, j4⟩, ⟨m1, j6, j5⟩, mb1, j7⟩
      exact pure_ok (by unfold sp_ordered; rw [if_pos ⟨hP1, hP2⟩]) (hf.mono (fun a ha => by unfold woA arA awA at ha; unfold fcA; omega)).gr hI2
    · have hP2 := of_decide_eq_false hb2
      exact pure_no (by unfold sp_ordered; rw [if_neg (fun h => hP2 h.2)]) GR hI hq9
  · have hP1 := of_decide_eq_false hb1
    exact pure_no (by unfold sp_ordered; rw [if_neg (fun h => hP1 h.1)]) GR hI hq9
set_option maxRecDepth 100000 in
set_option maxHeartbeats 1000000 in
theorem f_sum (hI : CI σ cc rows K va ad R f n pl c r) (k res : Int) (hk : ab_R k) (hres : ab_R res) : ab_call 10 4 24 yX9_sum [rf 0, .inl k, .inl res] σ (pureP σ cc rows K va ad R f n pl c r (sp_sum cc rows va R k res)) := by
  obtain ⟨h0, ⟨⟨tlen, tat, tst, tk, h1⟩, h2, hby, hn4⟩, ⟨h3, hr, h5, hC, hR, hRr⟩, ⟨⟨e6, h6⟩, ⟨t8, h8⟩, ⟨ar9, h9, h9b⟩, ⟨m10, h10, h10b⟩, mb11, h11⟩, -, -, -, ⟨s53, h53⟩, ⟨g55, h55⟩, ⟨g56, h56, h56a, h56b, h56c⟩, hs⟩ := id hI
  obtain ⟨hcc4, ⟨A, h4, hAd⟩, hcol⟩ := id hC
  have hgu := gu_le hr
  have GR := gr_rf fcA σ
  refine eX9_sum rfl (fun At hA => ?_)
  refine hA 0 _ rfl _ _ _ _ _ ?_
  refine Exists.intro _ (And.intro (by first | assumption | exact st_s | exact st_e (by decide) (by assumption) | exact st_e (by omega) (by assumption) | exact st_e (by decide) st_s | exact st_e (by omega) st_s | exact st_e (by decide) (st_e (by decide) (by assumption)) | exact st_e (by omega) (st_e (by omega) (by assumption))) (And.intro rfl (ab_inv_of (c_tallyValues hI k res hk hres) (by first | decide | omega) (by omega) (by omega) ?_)))
  intro r' τ1 hpost
  rcases hpost with ⟨hP1, rfl, rfl⟩ | ⟨hP1, rfl, q9, hq9, rfl⟩
  · have hlt : ∀ v, tly (R res.toNat) (va k.toNat) rows v ≤ 1500 := fun v => Nat.le_trans (cnt_le _ _) hr
    generalize ht : tly (R res.toNat) (va k.toNat) rows = t at hlt ⊢
    have ht' : tlK rows va R k res = t := ht
    have hI2 := hI.t8 (t := t)
    have z0 : (ab_st σ 8 (ints 200 t)).2 0 = some (c9 r) := st_e (by decide) h0
    have z3 : (ab_st σ 8 (ints 200 t)).2 3 = some (tbc cc rows) := st_e (by decide) h3
    have z8 : (ab_st σ 8 (ints 200 t)).2 8 = some (ints 200 t) := st_s
    have hG2 : gr fcA σ (ab_st σ 8 (ints 200 t)) := (fr_st (by unfold fcA; omega)).gr
    generalize ab_st σ 8 (ints 200 t) = H at hI2 z0 z3 z8 hG2 ⊢
    have loop : ∀ (m i : Nat), i + m = 200 → At 1 [some (rf 0), some (.inl k), some (.inl res), some (.inl (sm (fun v => v * t v) i)), some (.inl i)] [] H (0 + 2) (0 + 12) := by
      intro m
      induction m with
      | zero =>
        intro i hi
        refine hA 1 _ rfl _ _ _ _ _ ?_
        refine And.intro (And.intro (by first | assumption | exact b2i_R _ | exact rR (by omega) (by omega) | exact rR (by simp only [Int.toNat_natCast]; omega) (by simp only [Int.toNat_natCast]; omega)) (by first | assumption | exact b2i_R _ | exact rR (by omega) (by omega) | exact rR (by simp only [Int.toNat_natCast]; omega) (by simp only [Int.toNat_natCast]; omega))) (And.intro (fun q => ?_) (fun q => ?_))
        · refine hA 3 _ rfl _ _ _ _ _ ?_
          exact pure_ok (by unfold sp_sum; rw [if_pos hP1, ht', show i = 200 by omega]) hG2 hI2
        · omega
      | succ m ih =>
        intro i hi
        refine hA 1 _ rfl _ _ _ _ _ ?_
        refine And.intro (And.intro (by first | assumption | exact b2i_R _ | exact rR (by omega) (by omega) | exact rR (by simp only [Int.toNat_natCast]; omega) (by simp only [Int.toNat_natCast]; omega)) (by first | assumption | exact b2i_R _ | exact rR (by omega) (by omega) | exact rR (by simp only [Int.toNat_natCast]; omega) (by simp only [Int.toNat_natCast]; omega))) (And.intro (fun q => ?_) (fun q => ?_))
        · omega
        · refine hA 2 _ rfl _ _ _ _ _ ?_
          refine Exists.intro _ (And.intro (by first | assumption | exact st_s | exact st_e (by decide) (by assumption) | exact st_e (by omega) (by assumption) | exact st_e (by decide) st_s | exact st_e (by omega) st_s | exact st_e (by decide) (st_e (by decide) (by assumption)) | exact st_e (by omega) (st_e (by omega) (by assumption))) ?_)
          refine Exists.intro _ (And.intro (by first | assumption | exact st_s | exact st_e (by decide) (by assumption) | exact st_e (by omega) (by assumption) | exact st_e (by decide) st_s | exact st_e (by omega) st_s | exact st_e (by decide) (st_e (by decide) (by assumption)) | exact st_e (by omega) (st_e (by omega) (by assumption))) ?_)
          refine Exists.intro _ (Exists.intro _ (And.intro (by first | assumption | exact st_s | exact st_e (by decide) (by assumption) | exact st_e (by omega) (by assumption) | exact st_e (by decide) st_s | exact st_e (by omega) st_s | exact st_e (by decide) (st_e (by decide) (by assumption)) | exact st_e (by omega) (st_e (by omega) (by assumption))) (And.intro (by first | omega | (simp only [Int.toNat_natCast]; omega)) ?_)))
          have := ih (i + 1) (by omega)
          rw [show ((sm (fun v => v * t v) (i + 1) : Nat) : Int) = (sm (fun v => v * t v) i : Nat) + (i : Int) * (t i : Nat) by show ((sm (fun v => v * t v) i + i * t i : Nat) : Int) = _; rw [Int.natCast_add, Int.natCast_mul]] at this
          exact this
    
    exact loop 200 0 (by omega)
  · exact pure_no (by unfold sp_sum; rw [if_neg hP1]) GR hI hq9
set_option maxRecDepth 100000 in
set_option maxHeartbeats 1000000 in
theorem f_kth (hI : CI σ cc rows K va ad R f n pl c r) (k res x : Int) (hk : ab_R k) (hres : ab_R res) (hx : ab_R x) : ab_call 10 4 24 yX9_kth [rf 0, .inl k, .inl res, .inl x] σ (pureP σ cc rows K va ad R f n pl c r (sp_kth cc rows va R k res x)) := by
  obtain ⟨h0, ⟨⟨tlen, tat, tst, tk, h1⟩, h2, hby, hn4⟩, ⟨h3, hr, h5, hC, hR, hRr⟩, ⟨⟨e6, h6⟩, ⟨t8, h8⟩, ⟨ar9, h9, h9b⟩, ⟨m10, h10, h10b⟩, mb11, h11⟩, -, -, -, ⟨s53, h53⟩, ⟨g55, h55⟩, ⟨g56, h56, h56a, h56b, h56c⟩, hs⟩ := id hI
  obtain ⟨hcc4, ⟨A, h4, hAd⟩, hcol⟩ := id hC
  have hgu := gu_le hr
  have GR := gr_rf fcA σ
  refine eX9_kth rfl (fun At hA => ?_)
  refine hA 0 _ rfl _ _ _ _ _ ?_
  refine Exists.intro _ (And.intro (by first | assumption | exact st_s | exact st_e (by decide) (by assumption) | exact st_e (by omega) (by assumption) | exact st_e (by decide) st_s | exact st_e (by omega) st_s | exact st_e (by decide) (st_e (by decide) (by assumption)) | exact st_e (by omega) (st_e (by omega) (by assumption))) (And.intro rfl (ab_inv_of (c_tallyValues hI k res hk hres) (by first | decide | omega) (by omega) (by omega) ?_)))
  intro r' τ1 hpost
  rcases hpost with ⟨hP1, rfl, rfl⟩ | ⟨hP1, rfl, q9, hq9, rfl⟩
  · have hlt : ∀ v, tly (R res.toNat) (va k.toNat) rows v ≤ 1500 := fun v => Nat.le_trans (cnt_le _ _) hr
    generalize ht : tly (R res.toNat) (va k.toNat) rows = t at hlt ⊢
    have ht' : tlK rows va R k res = t := ht
    have hI2 := hI.t8 (t := t)
    have z0 : (ab_st σ 8 (ints 200 t)).2 0 = some (c9 r) := st_e (by decide) h0
    have z3 : (ab_st σ 8 (ints 200 t)).2 3 = some (tbc cc rows) := st_e (by decide) h3
    have z8 : (ab_st σ 8 (ints 200 t)).2 8 = some (ints 200 t) := st_s
    have hG2 : gr fcA σ (ab_st σ 8 (ints 200 t)) := (fr_st (by unfold fcA; omega)).gr
    generalize ab_st σ 8 (ints 200 t) = H at hI2 z0 z3 z8 hG2 ⊢
    have loop : ∀ (m i : Nat) (left : Int), i + m = 200 → 0 ≤ left → left < 2147483648 → kfF t m i left = kfF t 200 0 x → ¬ x < 0 → At 3 [some (rf 0), some (.inl k), some (.inl res), some (.inl x), some (.inl left), some (.inl i)] [] H (0 + 2) (0 + 12) := by
      intro m
      induction m with
      | zero =>
        intro i left hi hl0 hl1 hf hx0
        refine hA 3 _ rfl _ _ _ _ _ ?_
        refine And.intro (And.intro (by first | assumption | exact b2i_R _ | exact rR (by omega) (by omega) | exact rR (by simp only [Int.toNat_natCast]; omega) (by simp only [Int.toNat_natCast]; omega)) (by first | assumption | exact b2i_R _ | exact rR (by omega) (by omega) | exact rR (by simp only [Int.toNat_natCast]; omega) (by simp only [Int.toNat_natCast]; omega))) (And.intro (fun q => ?_) (fun q => ?_))
        · refine hA 7 _ rfl _ _ _ _ _ ?_
          exact pure_ok (by unfold sp_kth; rw [if_pos hP1, if_neg hx0, ht', ← hf]; rfl) hG2 hI2
        · omega
      | succ m ih =>
        intro i left hi hl0 hl1 hf hx0
        have hti := hlt i
        have hf : (if left < t i then ((i : Nat) : Int) else kfF t m (i + 1) (left - t i)) = kfF t 200 0 x := hf
        refine hA 3 _ rfl _ _ _ _ _ ?_
        refine And.intro (And.intro (by first | assumption | exact b2i_R _ | exact rR (by omega) (by omega) | exact rR (by simp only [Int.toNat_natCast]; omega) (by simp only [Int.toNat_natCast]; omega)) (by first | assumption | exact b2i_R _ | exact rR (by omega) (by omega) | exact rR (by simp only [Int.toNat_natCast]; omega) (by simp only [Int.toNat_natCast]; omega))) (And.intro (fun q => ?_) (fun q => ?_))
        · omega
        · refine hA 4 _ rfl _ _ _ _ _ ?_
          refine Exists.intro _ (And.intro (z0) ?_)
          refine Exists.intro _ (And.intro (z3) ?_)
          refine Exists.intro _ (Exists.intro _ (And.intro (z8) (And.intro (by omega) ?_)))
          refine And.intro (And.intro (rR (by omega) (by omega)) (show ab_R ((t i : Nat) : Int) from rR (by omega) (by omega))) (And.intro (fun q => ?_) (fun q => ?_))
          · have q : ((t i : Nat) : Int) ≤ left := q
            rw [if_neg (by omega)] at hf
            refine hA 6 _ rfl _ _ _ _ _ ?_
            refine Exists.intro _ (And.intro (by first | assumption | exact st_s | exact st_e (by decide) (by assumption) | exact st_e (by omega) (by assumption) | exact st_e (by decide) st_s | exact st_e (by omega) st_s | exact st_e (by decide) (st_e (by decide) (by assumption)) | exact st_e (by omega) (st_e (by omega) (by assumption))) ?_)
            refine Exists.intro _ (And.intro (by first | assumption | exact st_s | exact st_e (by decide) (by assumption) | exact st_e (by omega) (by assumption) | exact st_e (by decide) st_s | exact st_e (by omega) st_s | exact st_e (by decide) (st_e (by decide) (by assumption)) | exact st_e (by omega) (st_e (by omega) (by assumption))) ?_)
            refine Exists.intro _ (Exists.intro _ (And.intro (by first | assumption | exact st_s | exact st_e (by decide) (by assumption) | exact st_e (by omega) (by assumption) | exact st_e (by decide) st_s | exact st_e (by omega) st_s | exact st_e (by decide) (st_e (by decide) (by assumption)) | exact st_e (by omega) (st_e (by omega) (by assumption))) (And.intro (by first | omega | (simp only [Int.toNat_natCast]; omega)) ?_)))
            exact ih (i + 1) (left - (t i : Nat)) (by omega) (by omega) (by omega) hf hx0
          · have q : left < ((t i : Nat) : Int) := q
            rw [if_pos q] at hf
            refine hA 5 _ rfl _ _ _ _ _ ?_
            exact pure_ok (by unfold sp_kth; rw [if_pos hP1, if_neg hx0, ht', ← hf]) hG2 hI2
    refine And.intro (by first | assumption | exact b2i_R _ | exact rR (by omega) (by omega) | exact rR (by simp only [Int.toNat_natCast]; omega) (by simp only [Int.toNat_natCast]; omega)) (And.intro (fun q => ?_) (fun q => ?_))
    · refine hA 2 _ rfl _ _ _ _ _ ?_
      exact loop 200 0 x (by omega) (by omega) (by have := hx.2; omega) rfl (by omega)
    · have hx0 : x < 0 := q
      refine hA 1 _ rfl _ _ _ _ _ ?_
      exact pure_ok (by unfold sp_kth; rw [if_pos hP1, if_pos hx0]) hG2 hI2
  · exact pure_no (by unfold sp_kth; rw [if_neg hP1]) GR hI hq9
set_option maxRecDepth 100000 in
set_option maxHeartbeats 1000000 in
theorem f_unlike (hI : CI σ cc rows K va ad R f n pl c r) (k res : Int) (hk : ab_R k) (hres : ab_R res) : ab_call 10 4 24 yX9_unlike [rf 0, .inl k, .inl res] σ (pureP σ cc rows K va ad R f n pl c r (sp_unlike cc rows va R k res)) := by
  obtain ⟨h0, ⟨⟨tlen, tat, tst, tk, h1⟩, h2, hby, hn4⟩, ⟨h3, hr, h5, hC, hR, hRr⟩, ⟨⟨e6, h6⟩, ⟨t8, h8⟩, ⟨ar9, h9, h9b⟩, ⟨m10, h10, h10b⟩, mb11, h11⟩, -, -, -, ⟨s53, h53⟩, ⟨g55, h55⟩, ⟨g56, h56, h56a, h56b, h56c⟩, hs⟩ := id hI
  obtain ⟨hcc4, ⟨A, h4, hAd⟩, hcol⟩ := id hC
  have hgu := gu_le hr
  have GR := gr_rf fcA σ
  refine eX9_unlike rfl (fun At hA => ?_)
  refine hA 0 _ rfl _ _ _ _ _ ?_
  refine Exists.intro _ (And.intro (by first | assumption | exact st_s | exact st_e (by decide) (by assumption) | exact st_e (by omega) (by assumption) | exact st_e (by decide) st_s | exact st_e (by omega) st_s | exact st_e (by decide) (st_e (by decide) (by assumption)) | exact st_e (by omega) (st_e (by omega) (by assumption))) (And.intro rfl (ab_inv_of (c_tallyValues hI k res hk hres) (by first | decide | omega) (by omega) (by omega) ?_)))
  intro r' τ1 hpost
  rcases hpost with ⟨hP1, rfl, rfl⟩ | ⟨hP1, rfl, q9, hq9, rfl⟩
  · have hlt : ∀ v, tly (R res.toNat) (va k.toNat) rows v ≤ 1500 := fun v => Nat.le_trans (cnt_le _ _) hr
    generalize ht : tly (R res.toNat) (va k.toNat) rows = t at hlt ⊢
    have ht' : tlK rows va R k res = t := ht
    have hI2 := hI.t8 (t := t)
    have z0 : (ab_st σ 8 (ints 200 t)).2 0 = some (c9 r) := st_e (by decide) h0
    have z3 : (ab_st σ 8 (ints 200 t)).2 3 = some (tbc cc rows) := st_e (by decide) h3
    have z8 : (ab_st σ 8 (ints 200 t)).2 8 = some (ints 200 t) := st_s
    have hG2 : gr fcA σ (ab_st σ 8 (ints 200 t)) := (fr_st (by unfold fcA; omega)).gr
    generalize ab_st σ 8 (ints 200 t) = H at hI2 z0 z3 z8 hG2 ⊢
    have loop : ∀ (m i : Nat), i + m = 200 → At 1 [some (rf 0), some (.inl k), some (.inl res), some (.inl (cnt (fun v => decide (0 < t v)) i)), some (.inl i)] [] H (0 + 2) (0 + 12) := by
      intro m
      induction m with
      | zero =>
        intro i hi
        refine hA 1 _ rfl _ _ _ _ _ ?_
        refine And.intro (And.intro (by first | assumption | exact b2i_R _ | exact rR (by omega) (by omega) | exact rR (by simp only [Int.toNat_natCast]; omega) (by simp only [Int.toNat_natCast]; omega)) (by first | assumption | exact b2i_R _ | exact rR (by omega) (by omega) | exact rR (by simp only [Int.toNat_natCast]; omega) (by simp only [Int.toNat_natCast]; omega))) (And.intro (fun q => ?_) (fun q => ?_))
        · refine hA 5 _ rfl _ _ _ _ _ ?_
          exact pure_ok (by unfold sp_unlike; rw [if_pos hP1, ht', show i = 200 by omega]) hG2 hI2
        · omega
      | succ m ih =>
        intro i hi
        have hti := hlt i
        have k4 : ∀ w : Int, w = cnt (fun v => decide (0 < t v)) (i + 1) → At 4 [some (rf 0), some (.inl k), some (.inl res), some (.inl w), some (.inl i)] [] H (0 + 2) (0 + 12) := fun w hw => by
          subst hw
          refine hA 4 _ rfl _ _ _ _ _ ?_
          exact ih (i + 1) (by omega)
        refine hA 1 _ rfl _ _ _ _ _ ?_
        refine And.intro (And.intro (by first | assumption | exact b2i_R _ | exact rR (by omega) (by omega) | exact rR (by simp only [Int.toNat_natCast]; omega) (by simp only [Int.toNat_natCast]; omega)) (by first | assumption | exact b2i_R _ | exact rR (by omega) (by omega) | exact rR (by simp only [Int.toNat_natCast]; omega) (by simp only [Int.toNat_natCast]; omega))) (And.intro (fun q => ?_) (fun q => ?_))
        · omega
        · refine hA 2 _ rfl _ _ _ _ _ ?_
          refine Exists.intro _ (And.intro (z0) ?_)
          refine Exists.intro _ (And.intro (z3) ?_)
          refine Exists.intro _ (Exists.intro _ (And.intro (z8) (And.intro (by omega) ?_)))
          refine And.intro (show ab_R ((t i : Nat) : Int) from rR (by omega) (by omega)) (And.intro (fun q => ?_) (fun q => ?_))
          · have q : ((t i : Nat) : Int) ≤ 0 := q
            exact k4 _ (by rw [cnt_s0 (p := fun v => decide (0 < t v)) (decide_eq_false (by omega))])
          · have q : (0 : Int) < ((t i : Nat) : Int) := q
            refine hA 3 _ rfl _ _ _ _ _ ?_
            exact k4 _ (by rw [cnt_s1 (p := fun v => decide (0 < t v)) (decide_eq_true (by omega))]; rfl)
    
    exact loop 200 0 (by omega)
  · exact pure_no (by unfold sp_unlike; rw [if_neg hP1]) GR hI hq9
set_option maxRecDepth 100000 in
set_option maxHeartbeats 1000000 in
theorem f_mode (hI : CI σ cc rows K va ad R f n pl c r) (k res what : Int) (hk : ab_R k) (hres : ab_R res) (hwhat : ab_R what) : ab_call 10 4 24 yX9_mode [rf 0, .inl k, .inl res, .inl what] σ (pureP σ cc rows K va ad R f n pl c r (sp_mode cc rows va R k res what)) := by
  obtain ⟨h0, ⟨⟨tlen, tat, tst, tk, h1⟩, h2, hby, hn4⟩, ⟨h3, hr, h5, hC, hR, hRr⟩, ⟨⟨e6, h6⟩, ⟨t8, h8⟩, ⟨ar9, h9, h9b⟩, ⟨m10, h10, h10b⟩, mb11, h11⟩, -, -, -, ⟨s53, h53⟩, ⟨g55, h55⟩, ⟨g56, h56, h56a, h56b, h56c⟩, hs⟩ := id hI
  obtain ⟨hcc4, ⟨A, h4, hAd⟩, hcol⟩ := id hC
  have hgu := gu_le hr
  have GR := gr_rf fcA σ
  refine eX9_mode rfl (fun At hA => ?_)
  refine hA 0 _ rfl _ _ _ _ _ ?_
  refine Exists.intro _ (And.intro (by first | assumption | exact st_s | exact st_e (by decide) (by assumption) | exact st_e (by omega) (by assumption) | exact st_e (by decide) st_s | exact st_e (by omega) st_s | exact st_e (by decide) (st_e (by decide) (by assumption)) | exact st_e (by omega) (st_e (by omega) (by assumption))) (And.intro rfl (ab_inv_of (c_tallyValues hI k res hk hres) (by first | decide | omega) (by omega) (by omega) ?_)))
  intro r' τ1 hpost
  rcases hpost with ⟨hP1, rfl, rfl⟩ | ⟨hP1, rfl, q9, hq9, rfl⟩
  · have hlt : ∀ v, tly (R res.toNat) (va k.toNat) rows v ≤ 1500 := fun v => Nat.le_trans (cnt_le _ _) hr
    generalize ht : tly (R res.toNat) (va k.toNat) rows = t at hlt ⊢
    have ht' : tlK rows va R k res = t := ht
    have hI2 := hI.t8 (t := t)
    have z0 : (ab_st σ 8 (ints 200 t)).2 0 = some (c9 r) := st_e (by decide) h0
    have z3 : (ab_st σ 8 (ints 200 t)).2 3 = some (tbc cc rows) := st_e (by decide) h3
    have z8 : (ab_st σ 8 (ints 200 t)).2 8 = some (ints 200 t) := st_s
    have hG2 : gr fcA σ (ab_st σ 8 (ints 200 t)) := (fr_st (by unfold fcA; omega)).gr
    generalize ab_st σ 8 (ints 200 t) = H at hI2 z0 z3 z8 hG2 ⊢
    have kN : ∀ z : Int, z = b2i (decide (0 ≤ what ∧ what ≤ 1)) → At 4 [some (rf 0), some (.inl k), some (.inl res), some (.inl what), none, none, none] [.inl z, rf 0] H (0 + 2) (0 + 12) := fun z hz => by
      subst hz
      refine hA 4 _ rfl _ _ _ _ _ ?_
      refine Exists.intro _ (And.intro (by first | assumption | exact st_s | exact st_e (by decide) (by assumption) | exact st_e (by omega) (by assumption) | exact st_e (by decide) st_s | exact st_e (by omega) st_s | exact st_e (by decide) (st_e (by decide) (by assumption)) | exact st_e (by omega) (st_e (by omega) (by assumption))) (And.intro rfl (ab_inv_of (c_needArgument z0 (decide (0 ≤ what ∧ what ≤ 1))) (by first | decide | omega) (by omega) (by omega) ?_)))
      intro r' τn hpost
      rcases hpost with ⟨hbn, rfl, rfl⟩ | ⟨hbn, rfl, q9, hq9, rfl⟩
      · have hP := of_decide_eq_true hbn
        have loop : ∀ (m i : Nat), i + m = 200 → At 5 [some (rf 0), some (.inl k), some (.inl res), some (.inl what), some (.inl (mdF t i).2), some (.inl (mdF t i).1), some (.inl i)] [] τn (0 + 2 + 1) (0 + 12 + 6) := by
          intro m
          induction m with
          | zero =>
            intro i hi
            have hi : i = 200 := by omega
            subst hi
            have k12 : ∀ z : Int, z = (if what = 0 then (mdF t 200).1 else ((mdF t 200).2 : Nat)) → ∀ L, At 12 L [.inl z] τn (0 + 2 + 1) (0 + 12 + 6) := fun z hz L => by
              subst hz
              refine hA 12 _ rfl _ _ _ _ _ ?_
              exact pure_ok (by unfold sp_mode; rw [if_pos hP1, if_pos hP, ht']) hG2 hI2
            refine hA 5 _ rfl _ _ _ _ _ ?_
            refine And.intro (And.intro (by first | assumption | exact b2i_R _ | exact rR (by omega) (by omega) | exact rR (by simp only [Int.toNat_natCast]; omega) (by simp only [Int.toNat_natCast]; omega)) (by first | assumption | exact b2i_R _ | exact rR (by omega) (by omega) | exact rR (by simp only [Int.toNat_natCast]; omega) (by simp only [Int.toNat_natCast]; omega))) (And.intro (fun q => ?_) (fun q => ?_))
            · refine hA 9 _ rfl _ _ _ _ _ ?_
              refine And.intro (by first | assumption | exact b2i_R _ | exact rR (by omega) (by omega) | exact rR (by simp only [Int.toNat_natCast]; omega) (by simp only [Int.toNat_natCast]; omega)) (And.intro (fun q => ?_) (fun q => ?_))
              · refine hA 11 _ rfl _ _ _ _ _ ?_
                exact k12 _ (by rw [if_neg (by omega)]) _
              · refine hA 10 _ rfl _ _ _ _ _ ?_
                exact k12 _ (by rw [if_pos (by omega)]) _
            · exact absurd (show (200 : Int) < 200 from q) (by decide)
          | succ m ih =>
            intro i hi
            have hti := hlt i
            have hmd : (mdF t i).2 ≤ 1500 := by
              have key : ∀ j, (mdF t j).2 ≤ 1500 := by
                intro j
                induction j with
                | zero => exact Nat.zero_le _
                | succ j ihj =>
                  show (if (mdF t j).2 < t j then (((j : Nat) : Int), t j) else mdF t j).2 ≤ 1500
                  split
                  · exact hlt j
                  · exact ihj
              exact key i
            have k8 : ∀ a b : Int, a = ((mdF t (i + 1)).2 : Nat) → b = (mdF t (i + 1)).1 → At 8 [some (rf 0), some (.inl k), some (.inl res), some (.inl what), some (.inl a), some (.inl b), some (.inl i)] [] τn (0 + 2 + 1) (0 + 12 + 6) := fun a b ha hb => by
              subst ha hb
              refine hA 8 _ rfl _ _ _ _ _ ?_
              exact ih (i + 1) (by omega)
            have hs : mdF t (i + 1) = if (mdF t i).2 < t i then (((i : Nat) : Int), t i) else mdF t i := rfl
            refine hA 5 _ rfl _ _ _ _ _ ?_
            refine And.intro (And.intro (by first | assumption | exact b2i_R _ | exact rR (by omega) (by omega) | exact rR (by simp only [Int.toNat_natCast]; omega) (by simp only [Int.toNat_natCast]; omega)) (by first | assumption | exact b2i_R _ | exact rR (by omega) (by omega) | exact rR (by simp only [Int.toNat_natCast]; omega) (by simp only [Int.toNat_natCast]; omega))) (And.intro (fun q => ?_) (fun q => ?_))
            · omega
            · refine hA 6 _ rfl _ _ _ _ _ ?_
              refine Exists.intro _ (And.intro (z0) ?_)
              refine Exists.intro _ (And.intro (z3) ?_)
              refine Exists.intro _ (Exists.intro _ (And.intro (z8) (And.intro (by omega) ?_)))
              refine And.intro (And.intro (show ab_R ((t i : Nat) : Int) from rR (by omega) (by omega)) (rR (by omega) (by omega))) (And.intro (fun q => ?_) (fun q => ?_))
              · have q : ((t i : Nat) : Int) ≤ ((mdF t i).2 : Nat) := q
                exact k8 _ _ (by rw [hs, if_neg (by omega)]) (by rw [hs, if_neg (by omega)])
              · have q : (((mdF t i).2 : Nat) : Int) < ((t i : Nat) : Int) := q
                refine hA 7 _ rfl _ _ _ _ _ ?_
                refine Exists.intro _ (And.intro (z0) ?_)
                refine Exists.intro _ (And.intro (z3) ?_)
                refine Exists.intro _ (Exists.intro _ (And.intro (z8) (And.intro (by omega) ?_)))
                exact k8 _ _ (by rw [hs, if_pos (by omega)]; rfl) (by rw [hs, if_pos (by omega)])
        
        exact loop 200 0 (by omega)
      · have hP := of_decide_eq_false hbn
        exact pure_no (by unfold sp_mode; rw [if_pos hP1, if_neg hP]) hG2 hI2 hq9
    have kF : ¬ (0 ≤ what ∧ what ≤ 1) → At 3 [some (rf 0), some (.inl k), some (.inl res), some (.inl what), none, none, none] [rf 0] H (0 + 2) (0 + 12) := fun h => by
      refine hA 3 _ rfl _ _ _ _ _ ?_
      exact kN 0 (by rw [decide_eq_false h]; rfl)
    refine And.intro (by first | assumption | exact b2i_R _ | exact rR (by omega) (by omega) | exact rR (by simp only [Int.toNat_natCast]; omega) (by simp only [Int.toNat_natCast]; omega)) (And.intro (fun q => ?_) (fun q => ?_))
    · refine hA 2 _ rfl _ _ _ _ _ ?_
      exact kN 1 (by rw [decide_eq_true (by omega)]; rfl)
    · refine hA 1 _ rfl _ _ _ _ _ ?_
      refine And.intro (And.intro (by first | assumption | exact b2i_R _ | exact rR (by omega) (by omega) | exact rR (by simp only [Int.toNat_natCast]; omega) (by simp only [Int.toNat_natCast]; omega)) (by first | assumption | exact b2i_R _ | exact rR (by omega) (by omega) | exact rR (by simp only [Int.toNat_natCast]; omega) (by simp only [Int.toNat_natCast]; omega))) (And.intro (fun q => ?_) (fun q => ?_))
      · exact kF (by omega)
      · refine hA 2 _ rfl _ _ _ _ _ ?_
        exact kN 1 (by rw [decide_eq_true (by omega)]; rfl)
  · exact pure_no (by unfold sp_mode; rw [if_neg hP1]) GR hI hq9
set_option maxRecDepth 100000 in
set_option maxHeartbeats 1000000 in
theorem f_span (hI : CI σ cc rows K va ad R f n pl c r) (k res lo hi : Int) (hk : ab_R k) (hres : ab_R res) (hlo : ab_R lo) (hhi : ab_R hi) : ab_call 10 4 24 yX9_span [rf 0, .inl k, .inl res, .inl lo, .inl hi] σ (pureP σ cc rows K va ad R f n pl c r (sp_span cc rows va R k res lo hi)) := by
  obtain ⟨h0, ⟨⟨tlen, tat, tst, tk, h1⟩, h2, hby, hn4⟩, ⟨h3, hr, h5, hC, hR, hRr⟩, ⟨⟨e6, h6⟩, ⟨t8, h8⟩, ⟨ar9, h9, h9b⟩, ⟨m10, h10, h10b⟩, mb11, h11⟩, -, -, -, ⟨s53, h53⟩, ⟨g55, h55⟩, ⟨g56, h56, h56a, h56b, h56c⟩, hs⟩ := id hI
  obtain ⟨hcc4, ⟨A, h4, hAd⟩, hcol⟩ := id hC
  have hgu := gu_le hr
  have GR := gr_rf fcA σ
  refine eX9_span rfl (fun At hA => ?_)
  refine hA 0 _ rfl _ _ _ _ _ ?_
  refine Exists.intro _ (And.intro (by first | assumption | exact st_s | exact st_e (by decide) (by assumption) | exact st_e (by omega) (by assumption) | exact st_e (by decide) st_s | exact st_e (by omega) st_s | exact st_e (by decide) (st_e (by decide) (by assumption)) | exact st_e (by omega) (st_e (by omega) (by assumption))) (And.intro rfl (ab_inv_of (c_tallyValues hI k res hk hres) (by first | decide | omega) (by omega) (by omega) ?_)))
  intro r' τ1 hpost
  rcases hpost with ⟨hP1, rfl, rfl⟩ | ⟨hP1, rfl, q9, hq9, rfl⟩
  · have hlt : ∀ v, tly (R res.toNat) (va k.toNat) rows v ≤ 1500 := fun v => Nat.le_trans (cnt_le _ _) hr
    generalize ht : tly (R res.toNat) (va k.toNat) rows = t at hlt ⊢
    have ht' : tlK rows va R k res = t := ht
    have hI2 := hI.t8 (t := t)
    have z0 : (ab_st σ 8 (ints 200 t)).2 0 = some (c9 r) := st_e (by decide) h0
    have z3 : (ab_st σ 8 (ints 200 t)).2 3 = some (tbc cc rows) := st_e (by decide) h3
    have z8 : (ab_st σ 8 (ints 200 t)).2 8 = some (ints 200 t) := st_s
    have hG2 : gr fcA σ (ab_st σ 8 (ints 200 t)) := (fr_st (by unfold fcA; omega)).gr
    generalize ab_st σ 8 (ints 200 t) = H at hI2 z0 z3 z8 hG2 ⊢
    have kN : ∀ z : Int, z = b2i (decide (0 ≤ lo ∧ lo ≤ 999 ∧ 0 ≤ hi ∧ hi ≤ 999)) → At 6 [some (rf 0), some (.inl k), some (.inl res), some (.inl lo), some (.inl hi), none, none] [.inl z, rf 0] H (0 + 2) (0 + 12) := fun z hz => by
      subst hz
      refine hA 6 _ rfl _ _ _ _ _ ?_
      refine Exists.intro _ (And.intro (by first | assumption | exact st_s | exact st_e (by decide) (by assumption) | exact st_e (by omega) (by assumption) | exact st_e (by decide) st_s | exact st_e (by omega) st_s | exact st_e (by decide) (st_e (by decide) (by assumption)) | exact st_e (by omega) (st_e (by omega) (by assumption))) (And.intro rfl (ab_inv_of (c_needArgument z0 (decide (0 ≤ lo ∧ lo ≤ 999 ∧ 0 ≤ hi ∧ hi ≤ 999))) (by first | decide | omega) (by omega) (by omega) ?_)))
      intro r' τn hpost
      rcases hpost with ⟨hbn, rfl, rfl⟩ | ⟨hbn, rfl, q9, hq9, rfl⟩
      · have hP := of_decide_eq_true hbn
        obtain ⟨l, rfl⟩ : ∃ l : Nat, lo = l := ⟨lo.toNat, by omega⟩
        obtain ⟨u, rfl⟩ : ∃ u : Nat, hi = u := ⟨hi.toNat, by omega⟩
        have key : ∀ N, l ≤ N ∨ N ≤ 200 → True := fun _ _ => trivial
        -- the sum from l on
        have hz : ∀ j, j ≤ l → sm (fun v => if ((l : Nat) : Int) ≤ v ∧ (v : Int) ≤ u then t v else 0) j = 0 := by
          intro j
          induction j with
          | zero => intro _; rfl
          | succ j ih =>
            intro hj
            show sm _ j + (if ((l : Nat) : Int) ≤ ((j : Nat) : Int) ∧ ((j : Nat) : Int) ≤ u then t j else 0) = 0
            rw [ih (by omega), if_neg (by omega)]
        have hlate : ∀ j N, u < j → j ≤ N → sm (fun v => if ((l : Nat) : Int) ≤ v ∧ (v : Int) ≤ u then t v else 0) N = sm (fun v => if ((l : Nat) : Int) ≤ v ∧ (v : Int) ≤ u then t v else 0) j := by
          intro j N huj
          induction N with
          | zero => intro h; rw [show j = 0 by omega]
          | succ N ih =>
            intro h
            by_cases e : j = N + 1
            · rw [e]
            · show sm _ N + (if ((l : Nat) : Int) ≤ ((N : Nat) : Int) ∧ ((N : Nat) : Int) ≤ u then t N else 0) = _
              rw [ih (by omega), if_neg (by omega)]
              rfl
        have fin : ∀ (i : Nat) (L : ab_L), (u < i ∨ 200 ≤ i) → l ≤ i → (i ≤ 200 ∨ i = l) → At 10 ([some (rf 0), some (.inl k), some (.inl res), some (.inl l), some (.inl u), some (.inl (sm (fun v => if ((l : Nat) : Int) ≤ v ∧ (v : Int) ≤ u then t v else 0) (min i 200))), some (.inl i)]) [] τn (0 + 2 + 1) (0 + 12 + 6) := fun i L h1 h2 h3 => by
          refine hA 10 _ rfl _ _ _ _ _ ?_
          refine pure_ok ?_ hG2 hI2
          unfold sp_span
          rw [if_pos hP1, if_pos hP, ht']
          congr 2
          rcases h1 with h1 | h1
          · by_cases h4 : i ≤ 200
            · rw [show min i 200 = i by omega]
              exact hlate i 200 h1 h4
            · rw [show min i 200 = 200 by omega]
          · rw [show min i 200 = 200 by omega]
        have loop : ∀ (m i : Nat), i + m = 200 → l ≤ i → At 7 [some (rf 0), some (.inl k), some (.inl res), some (.inl l), some (.inl u), some (.inl (sm (fun v => if ((l : Nat) : Int) ≤ v ∧ (v : Int) ≤ u then t v else 0) (min i 200))), some (.inl i)] [] τn (0 + 2 + 1) (0 + 12 + 6) := by
          intro m
          induction m with
          | zero =>
            intro i hi hl
            refine hA 7 _ rfl _ _ _ _ _ ?_
            refine And.intro (And.intro (by first | assumption | exact b2i_R _ | exact rR (by omega) (by omega) | exact rR (by simp only [Int.toNat_natCast]; omega) (by simp only [Int.toNat_natCast]; omega)) (by first | assumption | exact b2i_R _ | exact rR (by omega) (by omega) | exact rR (by simp only [Int.toNat_natCast]; omega) (by simp only [Int.toNat_natCast]; omega))) (And.intro (fun q => ?_) (fun q => ?_))
            · exact fin i [] (Or.inl (by omega)) hl (Or.inl (by omega))
            · refine hA 8 _ rfl _ _ _ _ _ ?_
              refine And.intro (And.intro (by first | assumption | exact b2i_R _ | exact rR (by omega) (by omega) | exact rR (by simp only [Int.toNat_natCast]; omega) (by simp only [Int.toNat_natCast]; omega)) (by first | assumption | exact b2i_R _ | exact rR (by omega) (by omega) | exact rR (by simp only [Int.toNat_natCast]; omega) (by simp only [Int.toNat_natCast]; omega))) (And.intro (fun q => ?_) (fun q => ?_))
              · exact fin i [] (Or.inr (by omega)) hl (Or.inl (by omega))
              · omega
          | succ m ih =>
            intro i hi hl
            have hti := hlt i
            refine hA 7 _ rfl _ _ _ _ _ ?_
            refine And.intro (And.intro (by first | assumption | exact b2i_R _ | exact rR (by omega) (by omega) | exact rR (by simp only [Int.toNat_natCast]; omega) (by simp only [Int.toNat_natCast]; omega)) (by first | assumption | exact b2i_R _ | exact rR (by omega) (by omega) | exact rR (by simp only [Int.toNat_natCast]; omega) (by simp only [Int.toNat_natCast]; omega))) (And.intro (fun q => ?_) (fun q => ?_))
            · exact fin i [] (Or.inl (by omega)) hl (Or.inl (by omega))
            · refine hA 8 _ rfl _ _ _ _ _ ?_
              refine And.intro (And.intro (by first | assumption | exact b2i_R _ | exact rR (by omega) (by omega) | exact rR (by simp only [Int.toNat_natCast]; omega) (by simp only [Int.toNat_natCast]; omega)) (by first | assumption | exact b2i_R _ | exact rR (by omega) (by omega) | exact rR (by simp only [Int.toNat_natCast]; omega) (by simp only [Int.toNat_natCast]; omega))) (And.intro (fun q => ?_) (fun q => ?_))
              · omega
              · refine hA 9 _ rfl _ _ _ _ _ ?_
                refine Exists.intro _ (And.intro (z0) ?_)
                refine Exists.intro _ (And.intro (z3) ?_)
                refine Exists.intro _ (Exists.intro _ (And.intro (z8) (And.intro (by omega) ?_)))
                have := ih (i + 1) (by omega) (by omega)
                rw [show min (i + 1) 200 = i + 1 by omega, show ((sm (fun v => if ((l : Nat) : Int) ≤ v ∧ (v : Int) ≤ u then t v else 0) (i + 1) : Nat) : Int) = (sm (fun v => if ((l : Nat) : Int) ≤ v ∧ (v : Int) ≤ u then t v else 0) i : Nat) + ((t i : Nat) : Int) by
                  show ((sm (fun v => if ((l : Nat) : Int) ≤ v ∧ (v : Int) ≤ u then t v else 0) i + (if ((l : Nat) : Int) ≤ ((i : Nat) : Int) ∧ ((i : Nat) : Int) ≤ u then t i else 0) : Nat) : Int) = _
                  rw [if_pos (by omega)]
                  omega] at this
                rw [show min i 200 = i by omega]
                exact this
        
        by_cases hl2 : l ≤ 200
        · have := loop (200 - l) l (by omega) (Nat.le_refl _)
          rw [show min l 200 = l by omega, hz l (Nat.le_refl _)] at this
          exact this
        · have h0s : sm (fun v => if ((l : Nat) : Int) ≤ v ∧ (v : Int) ≤ u then t v else 0) (min l 200) = 0 := hz _ (by omega)
          have f2 := fin l []
          rw [h0s] at f2
          refine hA 7 _ rfl _ _ _ _ _ ?_
          refine And.intro (And.intro (by first | assumption | exact b2i_R _ | exact rR (by omega) (by omega) | exact rR (by simp only [Int.toNat_natCast]; omega) (by simp only [Int.toNat_natCast]; omega)) (by first | assumption | exact b2i_R _ | exact rR (by omega) (by omega) | exact rR (by simp only [Int.toNat_natCast]; omega) (by simp only [Int.toNat_natCast]; omega))) (And.intro (fun q => ?_) (fun q => ?_))
          · exact f2 (Or.inl (by omega)) (Nat.le_refl _) (Or.inr rfl)
          · refine hA 8 _ rfl _ _ _ _ _ ?_
            refine And.intro (And.intro (by first | assumption | exact b2i_R _ | exact rR (by omega) (by omega) | exact rR (by simp only [Int.toNat_natCast]; omega) (by simp only [Int.toNat_natCast]; omega)) (by first | assumption | exact b2i_R _ | exact rR (by omega) (by omega) | exact rR (by simp only [Int.toNat_natCast]; omega) (by simp only [Int.toNat_natCast]; omega))) (And.intro (fun q => ?_) (fun q => ?_))
            · exact f2 (Or.inr (by omega)) (Nat.le_refl _) (Or.inr rfl)
            · omega
      · have hP := of_decide_eq_false hbn
        exact pure_no (by unfold sp_span; rw [if_pos hP1, if_neg hP]) hG2 hI2 hq9
    have kF : ¬ (0 ≤ lo ∧ lo ≤ 999 ∧ 0 ≤ hi ∧ hi ≤ 999) → At 5 [some (rf 0), some (.inl k), some (.inl res), some (.inl lo), some (.inl hi), none, none] [rf 0] H (0 + 2) (0 + 12) := fun h => by
      refine hA 5 _ rfl _ _ _ _ _ ?_
      exact kN 0 (by rw [decide_eq_false h]; rfl)
    refine And.intro (by first | assumption | exact b2i_R _ | exact rR (by omega) (by omega) | exact rR (by simp only [Int.toNat_natCast]; omega) (by simp only [Int.toNat_natCast]; omega)) (And.intro (fun q => ?_) (fun q => ?_))
    · exact kF (by omega)
    · refine hA 1 _ rfl _ _ _ _ _ ?_
      refine And.intro (And.intro (by first | assumption | exact b2i_R _ | exact rR (by omega) (by omega) | exact rR (by simp only [Int.toNat_natCast]; omega) (by simp only [Int.toNat_natCast]; omega)) (by first | assumption | exact b2i_R _ | exact rR (by omega) (by omega) | exact rR (by simp only [Int.toNat_natCast]; omega) (by simp only [Int.toNat_natCast]; omega))) (And.intro (fun q => ?_) (fun q => ?_))
      · exact kF (by omega)
      · refine hA 2 _ rfl _ _ _ _ _ ?_
        refine And.intro (by first | assumption | exact b2i_R _ | exact rR (by omega) (by omega) | exact rR (by simp only [Int.toNat_natCast]; omega) (by simp only [Int.toNat_natCast]; omega)) (And.intro (fun q => ?_) (fun q => ?_))
        · exact kF (by omega)
        · refine hA 3 _ rfl _ _ _ _ _ ?_
          refine And.intro (And.intro (by first | assumption | exact b2i_R _ | exact rR (by omega) (by omega) | exact rR (by simp only [Int.toNat_natCast]; omega) (by simp only [Int.toNat_natCast]; omega)) (by first | assumption | exact b2i_R _ | exact rR (by omega) (by omega) | exact rR (by simp only [Int.toNat_natCast]; omega) (by simp only [Int.toNat_natCast]; omega))) (And.intro (fun q => ?_) (fun q => ?_))
          · exact kF (by omega)
          · refine hA 4 _ rfl _ _ _ _ _ ?_
            exact kN 1 (by rw [decide_eq_true (by omega)]; rfl)
  · exact pure_no (by unfold sp_span; rw [if_neg hP1]) GR hI hq9
end Face3
