-- ===== the calls that change nothing =====
section Face2
variable {σ : ab_H} {cc rows : Nat} {K : Nat → CT} {va : Nat → Nat → Nat} {ad : Nat → Nat} {R : Nat → V1} {f : Nat → Int} {n : Nat} {pl : Int} {c : C3} {r : Nat → Nat}
set_option maxRecDepth 100000 in
set_option maxHeartbeats 1000000 in
theorem f_rank (hI : CI σ cc rows K va ad R f n pl c r) (k row : Int) (hk : ab_R k) (hrow : ab_R row) : ab_call 10 4 24 yX9_rank [rf 0, .inl k, .inl row] σ (pureP σ cc rows K va ad R f n pl c r (sp_rank rows R k row)) := by
  obtain ⟨h0, ⟨⟨tlen, tat, tst, tk, h1⟩, h2, hby, hn4⟩, ⟨h3, hr, h5, hC, hR, hRr⟩, ⟨⟨e6, h6⟩, ⟨t8, h8⟩, ⟨ar9, h9, h9b⟩, ⟨m10, h10, h10b⟩, mb11, h11⟩, -, -, -, ⟨s53, h53⟩, ⟨g55, h55⟩, ⟨g56, h56, h56a, h56b, h56c⟩, hs⟩ := id hI
  obtain ⟨hcc4, ⟨A, h4, hAd⟩, hcol⟩ := id hC
  have hgu := gu_le hr
  have GR := gr_rf fcA σ
  refine eX9_rank rfl (fun At hA => ?_)
  refine hA 0 _ rfl _ _ _ _ _ ?_
  refine Exists.intro _ (And.intro (by first | assumption | exact st_s | exact st_e (by decide) (by assumption) | exact st_e (by omega) (by assumption) | exact st_e (by decide) st_s | exact st_e (by omega) st_s | exact st_e (by decide) (st_e (by decide) (by assumption)) | exact st_e (by omega) (st_e (by omega) (by assumption))) (And.intro rfl (ab_inv_of (c_existingResult h0 h3 h5 k hk) (by first | decide | omega) (by omega) (by omega) ?_)))
  intro r' τ1 hpost
  rcases hpost with ⟨hb1, rfl, rfl⟩ | ⟨hb1, rfl, q9, hq9, rfl⟩
  · have hP1 := of_decide_eq_true hb1
    have kN : ∀ z : Int, z = b2i (decide (0 ≤ row ∧ row ≤ (rows : Int))) → At 4 [some (rf 0), some (.inl k), some (.inl row), some (rf (12 + 2 * k.toNat))] [.inl z, rf 0] τ1 (0 + 1) (0 + 6) := fun z hz => by
      subst hz
      refine hA 4 _ rfl _ _ _ _ _ ?_
      refine Exists.intro _ (And.intro (by first | assumption | exact st_s | exact st_e (by decide) (by assumption) | exact st_e (by omega) (by assumption) | exact st_e (by decide) st_s | exact st_e (by omega) st_s | exact st_e (by decide) (st_e (by decide) (by assumption)) | exact st_e (by omega) (st_e (by omega) (by assumption))) (And.intro rfl (ab_inv_of (c_needArgument h0 (decide (0 ≤ row ∧ row ≤ (rows : Int)))) (by first | decide | omega) (by omega) (by omega) ?_)))
      intro r' τn hpost
      rcases hpost with ⟨hbn, rfl, rfl⟩ | ⟨hbn, rfl, q9, hq9, rfl⟩
      · have hP := of_decide_eq_true hbn
        have hB := hR k.toNat (by omega)
        have hB1 := hB.1
        have hc := c_countBelow hB row.toNat (by omega)
        rw [show ((row.toNat : Nat) : Int) = row by omega] at hc
        refine Exists.intro _ (And.intro (by first | assumption | exact st_s | exact st_e (by decide) (by assumption) | exact st_e (by omega) (by assumption) | exact st_e (by decide) st_s | exact st_e (by omega) st_s | exact st_e (by decide) (st_e (by decide) (by assumption)) | exact st_e (by omega) (st_e (by omega) (by assumption))) (And.intro rfl (ab_inv_ev hc (by first | decide | omega) (by first | exact Nat.le_refl _ | omega) (by first | exact Nat.le_refl _ | omega) ?_)))
        exact pure_ok (by unfold sp_rank; rw [if_pos hP1, if_pos hP]) GR hI
      · have hP := of_decide_eq_false hbn
        exact pure_no (by unfold sp_rank; rw [if_pos hP1, if_neg hP]) GR hI hq9
    have kF : ¬ (0 ≤ row ∧ row ≤ (rows : Int)) → At 3 [some (rf 0), some (.inl k), some (.inl row), some (rf (12 + 2 * k.toNat))] [rf 0] τ1 (0 + 1) (0 + 6) := fun h => by
      refine hA 3 _ rfl _ _ _ _ _ ?_
      exact kN 0 (by rw [decide_eq_false h]; rfl)
    refine And.intro (by first | assumption | exact b2i_R _ | exact rR (by omega) (by omega) | exact rR (by simp only [Int.toNat_natCast]; omega) (by simp only [Int.toNat_natCast]; omega)) (And.intro (fun q => ?_) (fun q => ?_))
    · exact kF (by omega)
    · refine hA 1 _ rfl _ _ _ _ _ ?_
      refine Exists.intro _ (And.intro (by first | assumption | exact st_s | exact st_e (by decide) (by assumption) | exact st_e (by omega) (by assumption) | exact st_e (by decide) st_s | exact st_e (by omega) st_s | exact st_e (by decide) (st_e (by decide) (by assumption)) | exact st_e (by omega) (st_e (by omega) (by assumption))) ?_)
      refine Exists.intro _ (And.intro (by first | assumption | exact st_s | exact st_e (by decide) (by assumption) | exact st_e (by omega) (by assumption) | exact st_e (by decide) st_s | exact st_e (by omega) st_s | exact st_e (by decide) (st_e (by decide) (by assumption)) | exact st_e (by omega) (st_e (by omega) (by assumption))) ?_)
      refine And.intro (And.intro (by first | assumption | exact b2i_R _ | exact rR (by omega) (by omega) | exact rR (by simp only [Int.toNat_natCast]; omega) (by simp only [Int.toNat_natCast]; omega)) (by first | assumption | exact b2i_R _ | exact rR (by omega) (by omega) | exact rR (by simp only [Int.toNat_natCast]; omega) (by simp only [Int.toNat_natCast]; omega))) (And.intro (fun q => ?_) (fun q => ?_))
      · exact kF (by omega)
      · refine hA 2 _ rfl _ _ _ _ _ ?_
        exact kN 1 (by rw [decide_eq_true (by omega)]; rfl)
  · have hP1 := of_decide_eq_false hb1
    exact pure_no (by unfold sp_rank; rw [if_neg hP1]) GR hI hq9
set_option maxRecDepth 100000 in
set_option maxHeartbeats 1000000 in
theorem f_next (hI : CI σ cc rows K va ad R f n pl c r) (k row : Int) (hk : ab_R k) (hrow : ab_R row) : ab_call 10 4 24 yX9_next [rf 0, .inl k, .inl row] σ (pureP σ cc rows K va ad R f n pl c r (sp_next rows R k row)) := by
  obtain ⟨h0, ⟨⟨tlen, tat, tst, tk, h1⟩, h2, hby, hn4⟩, ⟨h3, hr, h5, hC, hR, hRr⟩, ⟨⟨e6, h6⟩, ⟨t8, h8⟩, ⟨ar9, h9, h9b⟩, ⟨m10, h10, h10b⟩, mb11, h11⟩, -, -, -, ⟨s53, h53⟩, ⟨g55, h55⟩, ⟨g56, h56, h56a, h56b, h56c⟩, hs⟩ := id hI
  obtain ⟨hcc4, ⟨A, h4, hAd⟩, hcol⟩ := id hC
  have hgu := gu_le hr
  have GR := gr_rf fcA σ
  refine eX9_next rfl (fun At hA => ?_)
  refine hA 0 _ rfl _ _ _ _ _ ?_
  refine Exists.intro _ (And.intro (by first | assumption | exact st_s | exact st_e (by decide) (by assumption) | exact st_e (by omega) (by assumption) | exact st_e (by decide) st_s | exact st_e (by omega) st_s | exact st_e (by decide) (st_e (by decide) (by assumption)) | exact st_e (by omega) (st_e (by omega) (by assumption))) (And.intro rfl (ab_inv_of (c_existingResult h0 h3 h5 k hk) (by first | decide | omega) (by omega) (by omega) ?_)))
  intro r' τ1 hpost
  rcases hpost with ⟨hb1, rfl, rfl⟩ | ⟨hb1, rfl, q9, hq9, rfl⟩
  · have hP1 := of_decide_eq_true hb1
    have kN : ∀ z : Int, z = b2i (decide (0 ≤ row ∧ row ≤ (rows : Int))) → At 4 [some (rf 0), some (.inl k), some (.inl row), some (rf (12 + 2 * k.toNat))] [.inl z, rf 0] τ1 (0 + 1) (0 + 6) := fun z hz => by
      subst hz
      refine hA 4 _ rfl _ _ _ _ _ ?_
      refine Exists.intro _ (And.intro (by first | assumption | exact st_s | exact st_e (by decide) (by assumption) | exact st_e (by omega) (by assumption) | exact st_e (by decide) st_s | exact st_e (by omega) st_s | exact st_e (by decide) (st_e (by decide) (by assumption)) | exact st_e (by omega) (st_e (by omega) (by assumption))) (And.intro rfl (ab_inv_of (c_needArgument h0 (decide (0 ≤ row ∧ row ≤ (rows : Int)))) (by first | decide | omega) (by omega) (by omega) ?_)))
      intro r' τn hpost
      rcases hpost with ⟨hbn, rfl, rfl⟩ | ⟨hbn, rfl, q9, hq9, rfl⟩
      · have hP := of_decide_eq_true hbn
        have hB := hR k.toNat (by omega)
        have hB1 := hB.1
        have hc := c_firstRowFrom hB row.toNat (by omega)
        rw [show ((row.toNat : Nat) : Int) = row by omega] at hc
        refine Exists.intro _ (And.intro (by first | assumption | exact st_s | exact st_e (by decide) (by assumption) | exact st_e (by omega) (by assumption) | exact st_e (by decide) st_s | exact st_e (by omega) st_s | exact st_e (by decide) (st_e (by decide) (by assumption)) | exact st_e (by omega) (st_e (by omega) (by assumption))) (And.intro rfl (ab_inv_ev hc (by first | decide | omega) (by first | exact Nat.le_refl _ | omega) (by first | exact Nat.le_refl _ | omega) ?_)))
        exact pure_ok (by unfold sp_next; rw [if_pos hP1, if_pos hP]) GR hI
      · have hP := of_decide_eq_false hbn
        exact pure_no (by unfold sp_next; rw [if_pos hP1, if_neg hP]) GR hI hq9
    have kF : ¬ (0 ≤ row ∧ row ≤ (rows : Int)) → At 3 [some (rf 0), some (.inl k), some (.inl row), some (rf (12 + 2 * k.toNat))] [rf 0] τ1 (0 + 1) (0 + 6) := fun h => by
      refine hA 3 _ rfl _ _ _ _ _ ?_
      exact kN 0 (by rw [decide_eq_false h]; rfl)
    refine And.intro (by first | assumption | exact b2i_R _ | exact rR (by omega) (by omega) | exact rR (by simp only [Int.toNat_natCast]; omega) (by simp only [Int.toNat_natCast]; omega)) (And.intro (fun q => ?_) (fun q => ?_))
    · exact kF (by omega)
    · refine hA 1 _ rfl _ _ _ _ _ ?_
      refine Exists.intro _ (And.intro (by first | assumption | exact st_s | exact st_e (by decide) (by assumption) | exact st_e (by omega) (by assumption) | exact st_e (by decide) st_s | exact st_e (by omega) st_s | exact st_e (by decide) (st_e (by decide) (by assumption)) | exact st_e (by omega) (st_e (by omega) (by assumption))) ?_)
      refine Exists.intro _ (And.intro (by first | assumption | exact st_s | exact st_e (by decide) (by assumption) | exact st_e (by omega) (by assumption) | exact st_e (by decide) st_s | exact st_e (by omega) st_s | exact st_e (by decide) (st_e (by decide) (by assumption)) | exact st_e (by omega) (st_e (by omega) (by assumption))) ?_)
      refine And.intro (And.intro (by first | assumption | exact b2i_R _ | exact rR (by omega) (by omega) | exact rR (by simp only [Int.toNat_natCast]; omega) (by simp only [Int.toNat_natCast]; omega)) (by first | assumption | exact b2i_R _ | exact rR (by omega) (by omega) | exact rR (by simp only [Int.toNat_natCast]; omega) (by simp only [Int.toNat_natCast]; omega))) (And.intro (fun q => ?_) (fun q => ?_))
      · exact kF (by omega)
      · refine hA 2 _ rfl _ _ _ _ _ ?_
        exact kN 1 (by rw [decide_eq_true (by omega)]; rfl)
  · have hP1 := of_decide_eq_false hb1
    exact pure_no (by unfold sp_next; rw [if_neg hP1]) GR hI hq9
set_option maxRecDepth 100000 in
set_option maxHeartbeats 1000000 in
theorem f_result (hI : CI σ cc rows K va ad R f n pl c r) (k what : Int) (hk : ab_R k) (hwhat : ab_R what) : ab_call 10 4 24 yX9_result [rf 0, .inl k, .inl what] σ (pureP σ cc rows K va ad R f n pl c r (sp_result rows R k what)) := by
  obtain ⟨h0, ⟨⟨tlen, tat, tst, tk, h1⟩, h2, hby, hn4⟩, ⟨h3, hr, h5, hC, hR, hRr⟩, ⟨⟨e6, h6⟩, ⟨t8, h8⟩, ⟨ar9, h9, h9b⟩, ⟨m10, h10, h10b⟩, mb11, h11⟩, -, -, -, ⟨s53, h53⟩, ⟨g55, h55⟩, ⟨g56, h56, h56a, h56b, h56c⟩, hs⟩ := id hI
  obtain ⟨hcc4, ⟨A, h4, hAd⟩, hcol⟩ := id hC
  have hgu := gu_le hr
  have GR := gr_rf fcA σ
  refine eX9_result rfl (fun At hA => ?_)
  refine hA 0 _ rfl _ _ _ _ _ ?_
  refine Exists.intro _ (And.intro (by first | assumption | exact st_s | exact st_e (by decide) (by assumption) | exact st_e (by omega) (by assumption) | exact st_e (by decide) st_s | exact st_e (by omega) st_s | exact st_e (by decide) (st_e (by decide) (by assumption)) | exact st_e (by omega) (st_e (by omega) (by assumption))) (And.intro rfl (ab_inv_of (c_existingResult h0 h3 h5 k hk) (by first | decide | omega) (by omega) (by omega) ?_)))
  intro r' τ1 hpost
  rcases hpost with ⟨hb1, rfl, rfl⟩ | ⟨hb1, rfl, q9, hq9, rfl⟩
  · have hP1 := of_decide_eq_true hb1
    have kN : ∀ z : Int, z = b2i (decide (0 ≤ what ∧ what ≤ 7)) → At 4 [some (rf 0), some (.inl k), some (.inl what), some (rf (12 + 2 * k.toNat))] [.inl z, rf 0] τ1 (0 + 1) (0 + 6) := fun z hz => by
      subst hz
      refine hA 4 _ rfl _ _ _ _ _ ?_
      refine Exists.intro _ (And.intro (by first | assumption | exact st_s | exact st_e (by decide) (by assumption) | exact st_e (by omega) (by assumption) | exact st_e (by decide) st_s | exact st_e (by omega) st_s | exact st_e (by decide) (st_e (by decide) (by assumption)) | exact st_e (by omega) (st_e (by omega) (by assumption))) (And.intro rfl (ab_inv_of (c_needArgument h0 (decide (0 ≤ what ∧ what ≤ 7))) (by first | decide | omega) (by omega) (by omega) ?_)))
      intro r' τn hpost
      rcases hpost with ⟨hbn, rfl, rfl⟩ | ⟨hbn, rfl, q9, hq9, rfl⟩
      · have hP := of_decide_eq_true hbn
        have hB := hR k.toNat (by omega)
        have hB1 := hB.1
        have hc := c_measure hB what.toNat (gu rows) (by omega) hgu
        rw [show ((what.toNat : Nat) : Int) = what by omega] at hc
        refine Exists.intro _ (And.intro (by first | assumption | exact st_s | exact st_e (by decide) (by assumption) | exact st_e (by omega) (by assumption) | exact st_e (by decide) st_s | exact st_e (by omega) st_s | exact st_e (by decide) (st_e (by decide) (by assumption)) | exact st_e (by omega) (st_e (by omega) (by assumption))) ?_)
        refine Exists.intro _ (And.intro (by first | assumption | exact st_s | exact st_e (by decide) (by assumption) | exact st_e (by omega) (by assumption) | exact st_e (by decide) st_s | exact st_e (by omega) st_s | exact st_e (by decide) (st_e (by decide) (by assumption)) | exact st_e (by omega) (st_e (by omega) (by assumption))) (And.intro rfl (ab_inv_ev (c_groupsUsed h3 hr) (by first | decide | omega) (by first | exact Nat.le_refl _ | omega) (by first | exact Nat.le_refl _ | omega) ?_)))
        refine Exists.intro _ (And.intro (by first | assumption | exact st_s | exact st_e (by decide) (by assumption) | exact st_e (by omega) (by assumption) | exact st_e (by decide) st_s | exact st_e (by omega) st_s | exact st_e (by decide) (st_e (by decide) (by assumption)) | exact st_e (by omega) (st_e (by omega) (by assumption))) (And.intro rfl (ab_inv_ev hc (by first | decide | omega) (by first | exact Nat.le_refl _ | omega) (by first | exact Nat.le_refl _ | omega) ?_)))
        exact pure_ok (by unfold sp_result; rw [if_pos hP1, if_pos hP]) GR hI
      · have hP := of_decide_eq_false hbn
        exact pure_no (by unfold sp_result; rw [if_pos hP1, if_neg hP]) GR hI hq9
    have kF : ¬ (0 ≤ what ∧ what ≤ 7) → At 3 [some (rf 0), some (.inl k), some (.inl what), some (rf (12 + 2 * k.toNat))] [rf 0] τ1 (0 + 1) (0 + 6) := fun h => by
      refine hA 3 _ rfl _ _ _ _ _ ?_
      exact kN 0 (by rw [decide_eq_false h]; rfl)
    refine And.intro (by first | assumption | exact b2i_R _ | exact rR (by omega) (by omega) | exact rR (by simp only [Int.toNat_natCast]; omega) (by simp only [Int.toNat_natCast]; omega)) (And.intro (fun q => ?_) (fun q => ?_))
    · exact kF (by omega)
    · refine hA 1 _ rfl _ _ _ _ _ ?_
      refine And.intro (And.intro (by first | assumption | exact b2i_R _ | exact rR (by omega) (by omega) | exact rR (by simp only [Int.toNat_natCast]; omega) (by simp only [Int.toNat_natCast]; omega)) (by first | assumption | exact b2i_R _ | exact rR (by omega) (by omega) | exact rR (by simp only [Int.toNat_natCast]; omega) (by simp only [Int.toNat_natCast]; omega))) (And.intro (fun q => ?_) (fun q => ?_))
      · exact kF (by omega)
      · refine hA 2 _ rfl _ _ _ _ _ ?_
        exact kN 1 (by rw [decide_eq_true (by omega)]; rfl)
  · have hP1 := of_decide_eq_false hb1
    exact pure_no (by unfold sp_result; rw [if_neg hP1]) GR hI hq9
set_option maxRecDepth 100000 in
set_option maxHeartbeats 1000000 in
theorem f_word (hI : CI σ cc rows K va ad R f n pl c r) (k w : Int) (hk : ab_R k) (hw : ab_R w) : ab_call 10 4 24 yX9_word [rf 0, .inl k, .inl w] σ (pureP σ cc rows K va ad R f n pl c r (sp_word rows R k w)) := by
  obtain ⟨h0, ⟨⟨tlen, tat, tst, tk, h1⟩, h2, hby, hn4⟩, ⟨h3, hr, h5, hC, hR, hRr⟩, ⟨⟨e6, h6⟩, ⟨t8, h8⟩, ⟨ar9, h9, h9b⟩, ⟨m10, h10, h10b⟩, mb11, h11⟩, -, -, -, ⟨s53, h53⟩, ⟨g55, h55⟩, ⟨g56, h56, h56a, h56b, h56c⟩, hs⟩ := id hI
  obtain ⟨hcc4, ⟨A, h4, hAd⟩, hcol⟩ := id hC
  have hgu := gu_le hr
  have GR := gr_rf fcA σ
  refine eX9_word rfl (fun At hA => ?_)
  refine hA 0 _ rfl _ _ _ _ _ ?_
  refine Exists.intro _ (And.intro (by first | assumption | exact st_s | exact st_e (by decide) (by assumption) | exact st_e (by omega) (by assumption) | exact st_e (by decide) st_s | exact st_e (by omega) st_s | exact st_e (by decide) (st_e (by decide) (by assumption)) | exact st_e (by omega) (st_e (by omega) (by assumption))) (And.intro rfl (ab_inv_of (c_existingResult h0 h3 h5 k hk) (by first | decide | omega) (by omega) (by omega) ?_)))
  intro r' τ1 hpost
  rcases hpost with ⟨hb1, rfl, rfl⟩ | ⟨hb1, rfl, q9, hq9, rfl⟩
  · have hP1 := of_decide_eq_true hb1
    have hB := hR k.toNat (by omega)
    refine Exists.intro _ (And.intro (by first | assumption | exact st_s | exact st_e (by decide) (by assumption) | exact st_e (by omega) (by assumption) | exact st_e (by decide) st_s | exact st_e (by omega) st_s | exact st_e (by decide) (st_e (by decide) (by assumption)) | exact st_e (by omega) (st_e (by omega) (by assumption))) (And.intro rfl (ab_inv_of (c_existingWord h0 h3 hr hB w hw) (by first | decide | omega) (by omega) (by omega) ?_)))
    intro r' τ2 hpost
    rcases hpost with ⟨hb2, rfl, rfl⟩ | ⟨hb2, rfl, q9, hq9, rfl⟩
    · have hP2 := of_decide_eq_true hb2
      exact pure_ok (by unfold sp_word; rw [if_pos hP1, if_pos hP2]) GR hI
    · have hP2 := of_decide_eq_false hb2
      exact pure_no (by unfold sp_word; rw [if_pos hP1, if_neg hP2]) GR hI hq9
  · have hP1 := of_decide_eq_false hb1
    exact pure_no (by unfold sp_word; rw [if_neg hP1]) GR hI hq9
set_option maxRecDepth 100000 in
set_option maxHeartbeats 1000000 in
theorem f_has (hI : CI σ cc rows K va ad R f n pl c r) (k row : Int) (hk : ab_R k) (hrow : ab_R row) : ab_call 10 4 24 yX9_has [rf 0, .inl k, .inl row] σ (pureP σ cc rows K va ad R f n pl c r (sp_has rows R k row)) := by
  obtain ⟨h0, ⟨⟨tlen, tat, tst, tk, h1⟩, h2, hby, hn4⟩, ⟨h3, hr, h5, hC, hR, hRr⟩, ⟨⟨e6, h6⟩, ⟨t8, h8⟩, ⟨ar9, h9, h9b⟩, ⟨m10, h10, h10b⟩, mb11, h11⟩, -, -, -, ⟨s53, h53⟩, ⟨g55, h55⟩, ⟨g56, h56, h56a, h56b, h56c⟩, hs⟩ := id hI
  obtain ⟨hcc4, ⟨A, h4, hAd⟩, hcol⟩ := id hC
  have hgu := gu_le hr
  have GR := gr_rf fcA σ
  refine eX9_has rfl (fun At hA => ?_)
  refine hA 0 _ rfl _ _ _ _ _ ?_
  refine Exists.intro _ (And.intro (by first | assumption | exact st_s | exact st_e (by decide) (by assumption) | exact st_e (by omega) (by assumption) | exact st_e (by decide) st_s | exact st_e (by omega) st_s | exact st_e (by decide) (st_e (by decide) (by assumption)) | exact st_e (by omega) (st_e (by omega) (by assumption))) (And.intro rfl (ab_inv_of (c_existingResult h0 h3 h5 k hk) (by first | decide | omega) (by omega) (by omega) ?_)))
  intro r' τ1 hpost
  rcases hpost with ⟨hb1, rfl, rfl⟩ | ⟨hb1, rfl, q9, hq9, rfl⟩
  · have hP1 := of_decide_eq_true hb1
    have hB := hR k.toNat (by omega)
    have hB1 := hB.1
    refine Exists.intro _ (And.intro (by first | assumption | exact st_s | exact st_e (by decide) (by assumption) | exact st_e (by omega) (by assumption) | exact st_e (by decide) st_s | exact st_e (by omega) st_s | exact st_e (by decide) (st_e (by decide) (by assumption)) | exact st_e (by omega) (st_e (by omega) (by assumption))) ?_)
    refine Exists.intro _ (And.intro (by first | assumption | exact st_s | exact st_e (by decide) (by assumption) | exact st_e (by omega) (by assumption) | exact st_e (by decide) st_s | exact st_e (by omega) st_s | exact st_e (by decide) (st_e (by decide) (by assumption)) | exact st_e (by omega) (st_e (by omega) (by assumption))) (And.intro rfl (ab_inv_ev (c_hasRow h3 hr row hrow) (by first | decide | omega) (by first | exact Nat.le_refl _ | omega) (by first | exact Nat.le_refl _ | omega) ?_)))
    refine Exists.intro _ (And.intro (by first | assumption | exact st_s | exact st_e (by decide) (by assumption) | exact st_e (by omega) (by assumption) | exact st_e (by decide) st_s | exact st_e (by omega) st_s | exact st_e (by decide) (st_e (by decide) (by assumption)) | exact st_e (by omega) (st_e (by omega) (by assumption))) (And.intro rfl (ab_inv_of (c_needElement h0 (decide (0 ≤ row) && decide (row < (rows : Int)))) (by first | decide | omega) (by omega) (by omega) ?_)))
    intro r' τ2 hpost
    rcases hpost with ⟨hb2, rfl, rfl⟩ | ⟨hb2, rfl, q9, hq9, rfl⟩
    · rw [Bool.and_eq_true, decide_eq_true_iff, decide_eq_true_iff] at hb2
      have hc := c_contains hB row.toNat (by omega)
      rw [show ((row.toNat : Nat) : Int) = row by omega] at hc
      refine Exists.intro _ (And.intro (by first | assumption | exact st_s | exact st_e (by decide) (by assumption) | exact st_e (by omega) (by assumption) | exact st_e (by decide) st_s | exact st_e (by omega) st_s | exact st_e (by decide) (st_e (by decide) (by assumption)) | exact st_e (by omega) (st_e (by omega) (by assumption))) (And.intro rfl (ab_inv_ev hc (by first | decide | omega) (by first | exact Nat.le_refl _ | omega) (by first | exact Nat.le_refl _ | omega) ?_)))
      refine And.intro (by first | exact Or.inl rfl | exact Or.inr rfl | exact b2i_01 _) ?_
      exact pure_ok (by unfold sp_has; rw [if_pos hP1, if_pos hb2]) GR hI
    · rw [Bool.and_eq_false_iff, decide_eq_false_iff_not, decide_eq_false_iff_not] at hb2
      exact pure_no (by unfold sp_has; rw [if_pos hP1, if_neg (by omega)]) GR hI hq9
  · have hP1 := of_decide_eq_false hb1
    exact pure_no (by unfold sp_has; rw [if_neg hP1]) GR hI hq9
set_option maxRecDepth 100000 in
set_option maxHeartbeats 1000000 in
theorem f_select (hI : CI σ cc rows K va ad R f n pl c r) (k x : Int) (hk : ab_R k) (hx : ab_R x) : ab_call 10 4 24 yX9_select [rf 0, .inl k, .inl x] σ (pureP σ cc rows K va ad R f n pl c r (sp_select R k x)) := by
  obtain ⟨h0, ⟨⟨tlen, tat, tst, tk, h1⟩, h2, hby, hn4⟩, ⟨h3, hr, h5, hC, hR, hRr⟩, ⟨⟨e6, h6⟩, ⟨t8, h8⟩, ⟨ar9, h9, h9b⟩, ⟨m10, h10, h10b⟩, mb11, h11⟩, -, -, -, ⟨s53, h53⟩, ⟨g55, h55⟩, ⟨g56, h56, h56a, h56b, h56c⟩, hs⟩ := id hI
  obtain ⟨hcc4, ⟨A, h4, hAd⟩, hcol⟩ := id hC
  have hgu := gu_le hr
  have GR := gr_rf fcA σ
  refine eX9_select rfl (fun At hA => ?_)
  refine hA 0 _ rfl _ _ _ _ _ ?_
  refine Exists.intro _ (And.intro (by first | assumption | exact st_s | exact st_e (by decide) (by assumption) | exact st_e (by omega) (by assumption) | exact st_e (by decide) st_s | exact st_e (by omega) st_s | exact st_e (by decide) (st_e (by decide) (by assumption)) | exact st_e (by omega) (st_e (by omega) (by assumption))) (And.intro rfl (ab_inv_of (c_existingResult h0 h3 h5 k hk) (by first | decide | omega) (by omega) (by omega) ?_)))
  intro r' τ1 hpost
  rcases hpost with ⟨hb1, rfl, rfl⟩ | ⟨hb1, rfl, q9, hq9, rfl⟩
  · have hP1 := of_decide_eq_true hb1
    have hB := hR k.toNat (by omega)
    have hB1 := hB.1
    by_cases hx0 : x < 0
    · have hc := c_nthRowN hB x hx0 hx
      refine Exists.intro _ (And.intro (by first | assumption | exact st_s | exact st_e (by decide) (by assumption) | exact st_e (by omega) (by assumption) | exact st_e (by decide) st_s | exact st_e (by omega) st_s | exact st_e (by decide) (st_e (by decide) (by assumption)) | exact st_e (by omega) (st_e (by omega) (by assumption))) (And.intro rfl (ab_inv_ev hc (by first | decide | omega) (by first | exact Nat.le_refl _ | omega) (by first | exact Nat.le_refl _ | omega) ?_)))
      exact pure_ok (by unfold sp_select; rw [if_pos hP1, if_pos hx0]) GR hI
    · have hc := c_nthRow hB x.toNat (by have := hx.2; omega)
      rw [show ((x.toNat : Nat) : Int) = x by omega] at hc
      refine Exists.intro _ (And.intro (by first | assumption | exact st_s | exact st_e (by decide) (by assumption) | exact st_e (by omega) (by assumption) | exact st_e (by decide) st_s | exact st_e (by omega) st_s | exact st_e (by decide) (st_e (by decide) (by assumption)) | exact st_e (by omega) (st_e (by omega) (by assumption))) (And.intro rfl (ab_inv_ev hc (by first | decide | omega) (by first | exact Nat.le_refl _ | omega) (by first | exact Nat.le_refl _ | omega) ?_)))
      exact pure_ok (by unfold sp_select; rw [if_pos hP1, if_neg hx0]) GR hI
  · have hP1 := of_decide_eq_false hb1
    exact pure_no (by unfold sp_select; rw [if_neg hP1]) GR hI hq9
set_option maxRecDepth 100000 in
set_option maxHeartbeats 1000000 in
theorem f_widest (hI : CI σ cc rows K va ad R f n pl c r) (k : Int) (hk : ab_R k) : ab_call 10 4 24 yX9_widest [rf 0, .inl k] σ (pureP σ cc rows K va ad R f n pl c r (sp_widest rows R k)) := by
  obtain ⟨h0, ⟨⟨tlen, tat, tst, tk, h1⟩, h2, hby, hn4⟩, ⟨h3, hr, h5, hC, hR, hRr⟩, ⟨⟨e6, h6⟩, ⟨t8, h8⟩, ⟨ar9, h9, h9b⟩, ⟨m10, h10, h10b⟩, mb11, h11⟩, -, -, -, ⟨s53, h53⟩, ⟨g55, h55⟩, ⟨g56, h56, h56a, h56b, h56c⟩, hs⟩ := id hI
  obtain ⟨hcc4, ⟨A, h4, hAd⟩, hcol⟩ := id hC
  have hgu := gu_le hr
  have GR := gr_rf fcA σ
  refine eX9_widest rfl (fun At hA => ?_)
  refine hA 0 _ rfl _ _ _ _ _ ?_
  refine Exists.intro _ (And.intro (by first | assumption | exact st_s | exact st_e (by decide) (by assumption) | exact st_e (by omega) (by assumption) | exact st_e (by decide) st_s | exact st_e (by omega) st_s | exact st_e (by decide) (st_e (by decide) (by assumption)) | exact st_e (by omega) (st_e (by omega) (by assumption))) (And.intro rfl (ab_inv_of (c_existingResult h0 h3 h5 k hk) (by first | decide | omega) (by omega) (by omega) ?_)))
  intro r' τ1 hpost
  rcases hpost with ⟨hb1, rfl, rfl⟩ | ⟨hb1, rfl, q9, hq9, rfl⟩
  · have hP1 := of_decide_eq_true hb1
    have hB := hR k.toNat (by omega)
    have hB1 := hB.1
    refine Exists.intro _ (And.intro (by first | assumption | exact st_s | exact st_e (by decide) (by assumption) | exact st_e (by omega) (by assumption) | exact st_e (by decide) st_s | exact st_e (by omega) st_s | exact st_e (by decide) (st_e (by decide) (by assumption)) | exact st_e (by omega) (st_e (by omega) (by assumption))) ?_)
    refine Exists.intro _ (And.intro (by first | assumption | exact st_s | exact st_e (by decide) (by assumption) | exact st_e (by omega) (by assumption) | exact st_e (by decide) st_s | exact st_e (by omega) st_s | exact st_e (by decide) (st_e (by decide) (by assumption)) | exact st_e (by omega) (st_e (by omega) (by assumption))) (And.intro rfl (ab_inv_ev (c_groupsUsed h3 hr) (by first | decide | omega) (by first | exact Nat.le_refl _ | omega) (by first | exact Nat.le_refl _ | omega) ?_)))
    refine Exists.intro _ (And.intro (by first | assumption | exact st_s | exact st_e (by decide) (by assumption) | exact st_e (by omega) (by assumption) | exact st_e (by decide) st_s | exact st_e (by omega) st_s | exact st_e (by decide) (st_e (by decide) (by assumption)) | exact st_e (by omega) (st_e (by omega) (by assumption))) (And.intro rfl (ab_inv_ev (c_widestFill hB (gu rows) hgu) (by first | decide | omega) (by first | exact Nat.le_refl _ | omega) (by first | exact Nat.le_refl _ | omega) ?_)))
    exact pure_ok (by unfold sp_widest; rw [if_pos hP1]) GR hI
  · have hP1 := of_decide_eq_false hb1
    exact pure_no (by unfold sp_widest; rw [if_neg hP1]) GR hI hq9
set_option maxRecDepth 100000 in
set_option maxHeartbeats 1000000 in
theorem f_fault (hI : CI σ cc rows K va ad R f n pl c r)  : ab_call 10 4 24 yX9_fault [rf 0] σ (pureP σ cc rows K va ad R f n pl c r (.inl pl)) := by
  obtain ⟨h0, ⟨⟨tlen, tat, tst, tk, h1⟩, h2, hby, hn4⟩, ⟨h3, hr, h5, hC, hR, hRr⟩, ⟨⟨e6, h6⟩, ⟨t8, h8⟩, ⟨ar9, h9, h9b⟩, ⟨m10, h10, h10b⟩, mb11, h11⟩, -, -, -, ⟨s53, h53⟩, ⟨g55, h55⟩, ⟨g56, h56, h56a, h56b, h56c⟩, hs⟩ := id hI
  obtain ⟨hcc4, ⟨A, h4, hAd⟩, hcol⟩ := id hC
  have hgu := gu_le hr
  have GR := gr_rf fcA σ
  refine eX9_fault rfl (fun At hA => ?_)
  refine hA 0 _ rfl _ _ _ _ _ ?_
  refine Exists.intro _ (And.intro (by first | assumption | exact st_s | exact st_e (by decide) (by assumption) | exact st_e (by omega) (by assumption) | exact st_e (by decide) st_s | exact st_e (by omega) st_s | exact st_e (by decide) (st_e (by decide) (by assumption)) | exact st_e (by omega) (st_e (by omega) (by assumption))) ?_)
  refine Exists.intro _ (And.intro (by first | assumption | exact st_s | exact st_e (by decide) (by assumption) | exact st_e (by omega) (by assumption) | exact st_e (by decide) st_s | exact st_e (by omega) st_s | exact st_e (by decide) (st_e (by decide) (by assumption)) | exact st_e (by omega) (st_e (by omega) (by assumption))) ?_)
  exact pure_ok rfl GR hI
set_option maxRecDepth 100000 in
set_option maxHeartbeats 1000000 in
theorem f_value (hI : CI σ cc rows K va ad R f n pl c r) (k row : Int) (hk : ab_R k) (hrow : ab_R row) : ab_call 10 4 24 yX9_value [rf 0, .inl k, .inl row] σ (pureP σ cc rows K va ad R f n pl c r (sp_value cc rows va k row)) := by
  obtain ⟨h0, ⟨⟨tlen, tat, tst, tk, h1⟩, h2, hby, hn4⟩, ⟨h3, hr, h5, hC, hR, hRr⟩, ⟨⟨e6, h6⟩, ⟨t8, h8⟩, ⟨ar9, h9, h9b⟩, ⟨m10, h10, h10b⟩, mb11, h11⟩, -, -, -, ⟨s53, h53⟩, ⟨g55, h55⟩, ⟨g56, h56, h56a, h56b, h56c⟩, hs⟩ := id hI
  obtain ⟨hcc4, ⟨A, h4, hAd⟩, hcol⟩ := id hC
  have hgu := gu_le hr
  have GR := gr_rf fcA σ
  refine eX9_value rfl (fun At hA => ?_)
  refine hA 0 _ rfl _ _ _ _ _ ?_
  refine Exists.intro _ (And.intro (by first | assumption | exact st_s | exact st_e (by decide) (by assumption) | exact st_e (by omega) (by assumption) | exact st_e (by decide) st_s | exact st_e (by omega) st_s | exact st_e (by decide) (st_e (by decide) (by assumption)) | exact st_e (by omega) (st_e (by omega) (by assumption))) (And.intro rfl (ab_inv_of (c_existingColumn h0 h3 hC k hk) (by first | decide | omega) (by omega) (by omega) ?_)))
  intro r' τ1 hpost
  rcases hpost with ⟨hb1, rfl, rfl⟩ | ⟨hb1, rfl, q9, hq9, rfl⟩
  · have hP1 := of_decide_eq_true hb1
    have hPc := hP1
    obtain ⟨k1, k2, k3, k4, k5, k6⟩ := hcol k.toNat (by omega)
    have k30 := k3.1
    have k34 := k3.2.2.2.2.1
    refine Exists.intro _ (And.intro (by first | assumption | exact st_s | exact st_e (by decide) (by assumption) | exact st_e (by omega) (by assumption) | exact st_e (by decide) st_s | exact st_e (by omega) st_s | exact st_e (by decide) (st_e (by decide) (by assumption)) | exact st_e (by omega) (st_e (by omega) (by assumption))) ?_)
    refine Exists.intro _ (And.intro (by first | assumption | exact st_s | exact st_e (by decide) (by assumption) | exact st_e (by omega) (by assumption) | exact st_e (by decide) st_s | exact st_e (by omega) st_s | exact st_e (by decide) (st_e (by decide) (by assumption)) | exact st_e (by omega) (st_e (by omega) (by assumption))) (And.intro rfl (ab_inv_ev (c_hasRow h3 hr row hrow) (by first | decide | omega) (by first | exact Nat.le_refl _ | omega) (by first | exact Nat.le_refl _ | omega) ?_)))
    refine Exists.intro _ (And.intro (by first | assumption | exact st_s | exact st_e (by decide) (by assumption) | exact st_e (by omega) (by assumption) | exact st_e (by decide) st_s | exact st_e (by omega) st_s | exact st_e (by decide) (st_e (by decide) (by assumption)) | exact st_e (by omega) (st_e (by omega) (by assumption))) (And.intro rfl (ab_inv_of (c_needElement h0 (decide (0 ≤ row) && decide (row < (rows : Int)))) (by first | decide | omega) (by omega) (by omega) ?_)))
    intro r' τ2 hpost
    rcases hpost with ⟨hb2, rfl, rfl⟩ | ⟨hb2, rfl, q9, hq9, rfl⟩
    · rw [Bool.and_eq_true, decide_eq_true_iff, decide_eq_true_iff] at hb2
      refine Exists.intro _ (And.intro (by first | assumption | exact st_s | exact st_e (by decide) (by assumption) | exact st_e (by omega) (by assumption) | exact st_e (by decide) st_s | exact st_e (by omega) st_s | exact st_e (by decide) (st_e (by decide) (by assumption)) | exact st_e (by omega) (st_e (by omega) (by assumption))) ?_)
      refine Exists.intro _ (Exists.intro _ (And.intro (by first | assumption | exact st_s | exact st_e (by decide) (by assumption) | exact st_e (by omega) (by assumption) | exact st_e (by decide) st_s | exact st_e (by omega) st_s | exact st_e (by decide) (st_e (by decide) (by assumption)) | exact st_e (by omega) (st_e (by omega) (by assumption))) (And.intro (by first | omega | (simp only [Int.toNat_natCast]; omega)) ?_)))
      exact pure_ok (by unfold sp_value; rw [if_pos ⟨hP1, hb2⟩]) GR hI
    · rw [Bool.and_eq_false_iff, decide_eq_false_iff_not, decide_eq_false_iff_not] at hb2
      exact pure_no (by unfold sp_value; rw [if_neg (fun h => by have := h.2; omega)]) GR hI hq9
  · have hP1 := of_decide_eq_false hb1
    exact pure_no (by unfold sp_value; rw [if_neg (fun h => hP1 h.1)]) GR hI hq9
set_option maxRecDepth 100000 in
set_option maxHeartbeats 1000000 in
theorem f_base (hI : CI σ cc rows K va ad R f n pl c r) (k p : Int) (hk : ab_R k) (hp : ab_R p) : ab_call 10 4 24 yX9_base [rf 0, .inl k, .inl p] σ (pureP σ cc rows K va ad R f n pl c r (sp_base cc K k p)) := by
  obtain ⟨h0, ⟨⟨tlen, tat, tst, tk, h1⟩, h2, hby, hn4⟩, ⟨h3, hr, h5, hC, hR, hRr⟩, ⟨⟨e6, h6⟩, ⟨t8, h8⟩, ⟨ar9, h9, h9b⟩, ⟨m10, h10, h10b⟩, mb11, h11⟩, -, -, -, ⟨s53, h53⟩, ⟨g55, h55⟩, ⟨g56, h56, h56a, h56b, h56c⟩, hs⟩ := id hI
  obtain ⟨hcc4, ⟨A, h4, hAd⟩, hcol⟩ := id hC
  have hgu := gu_le hr
  have GR := gr_rf fcA σ
  refine eX9_base rfl (fun At hA => ?_)
  refine hA 0 _ rfl _ _ _ _ _ ?_
  refine Exists.intro _ (And.intro (by first | assumption | exact st_s | exact st_e (by decide) (by assumption) | exact st_e (by omega) (by assumption) | exact st_e (by decide) st_s | exact st_e (by omega) st_s | exact st_e (by decide) (st_e (by decide) (by assumption)) | exact st_e (by omega) (st_e (by omega) (by assumption))) (And.intro rfl (ab_inv_of (c_existingColumn h0 h3 hC k hk) (by first | decide | omega) (by omega) (by omega) ?_)))
  intro r' τ1 hpost
  rcases hpost with ⟨hb1, rfl, rfl⟩ | ⟨hb1, rfl, q9, hq9, rfl⟩
  · have hP1 := of_decide_eq_true hb1
    obtain ⟨k1, k2, k3, k4, k5, k6⟩ := hcol k.toNat (by omega)
    have k30 := k3.1
    have k31 := k3.2.1
    have hp4 := k1.2.1
    refine Exists.intro _ (And.intro (by first | assumption | exact st_s | exact st_e (by decide) (by assumption) | exact st_e (by omega) (by assumption) | exact st_e (by decide) st_s | exact st_e (by omega) st_s | exact st_e (by decide) (st_e (by decide) (by assumption)) | exact st_e (by omega) (st_e (by omega) (by assumption))) (And.intro rfl (ab_inv_ev (c_hasComponent k3 k1 p hp) (by first | decide | omega) (by first | exact Nat.le_refl _ | omega) (by first | exact Nat.le_refl _ | omega) ?_)))
    refine Exists.intro _ (And.intro (by first | assumption | exact st_s | exact st_e (by decide) (by assumption) | exact st_e (by omega) (by assumption) | exact st_e (by decide) st_s | exact st_e (by omega) st_s | exact st_e (by decide) (st_e (by decide) (by assumption)) | exact st_e (by omega) (st_e (by omega) (by assumption))) (And.intro rfl (ab_inv_of (c_needElement h0 (decide (1 ≤ p) && decide (p ≤ ((K k.toNat).2.2.1 : Int)))) (by first | decide | omega) (by omega) (by omega) ?_)))
    intro r' τ2 hpost
    rcases hpost with ⟨hb2, rfl, rfl⟩ | ⟨hb2, rfl, q9, hq9, rfl⟩
    · rw [Bool.and_eq_true, decide_eq_true_iff, decide_eq_true_iff] at hb2
      refine Exists.intro _ (And.intro (by first | assumption | exact st_s | exact st_e (by decide) (by assumption) | exact st_e (by omega) (by assumption) | exact st_e (by decide) st_s | exact st_e (by omega) st_s | exact st_e (by decide) (st_e (by decide) (by assumption)) | exact st_e (by omega) (st_e (by omega) (by assumption))) ?_)
      refine Exists.intro _ (Exists.intro _ (And.intro (by first | assumption | exact st_s | exact st_e (by decide) (by assumption) | exact st_e (by omega) (by assumption) | exact st_e (by decide) st_s | exact st_e (by omega) st_s | exact st_e (by decide) (st_e (by decide) (by assumption)) | exact st_e (by omega) (st_e (by omega) (by assumption))) (And.intro (by first | omega | (simp only [Int.toNat_natCast]; omega)) ?_)))
      exact pure_ok (by unfold sp_base; rw [if_pos ⟨hP1, hb2⟩]) GR hI
    · rw [Bool.and_eq_false_iff, decide_eq_false_iff_not, decide_eq_false_iff_not] at hb2
      exact pure_no (by unfold sp_base; rw [if_neg (fun h => by have := h.2; omega)]) GR hI hq9
  · have hP1 := of_decide_eq_false hb1
    exact pure_no (by unfold sp_base; rw [if_neg (fun h => hP1 h.1)]) GR hI hq9
set_option maxRecDepth 100000 in
set_option maxHeartbeats 1000000 in
theorem f_cost (hI : CI σ cc rows K va ad R f n pl c r) (what : Int) (hwhat : ab_R what) : ab_call 10 4 24 yX9_cost [rf 0, .inl what] σ (pureP σ cc rows K va ad R f n pl c r (sp_cost c what)) := by
  obtain ⟨h0, ⟨⟨tlen, tat, tst, tk, h1⟩, h2, hby, hn4⟩, ⟨h3, hr, h5, hC, hR, hRr⟩, ⟨⟨e6, h6⟩, ⟨t8, h8⟩, ⟨ar9, h9, h9b⟩, ⟨m10, h10, h10b⟩, mb11, h11⟩, -, -, -, ⟨s53, h53⟩, ⟨g55, h55⟩, ⟨g56, h56, h56a, h56b, h56c⟩, hs⟩ := id hI
  obtain ⟨hcc4, ⟨A, h4, hAd⟩, hcol⟩ := id hC
  have hgu := gu_le hr
  have GR := gr_rf fcA σ
  refine eX9_cost rfl (fun At hA => ?_)
  have kN : ∀ z : Int, z = b2i (decide (0 ≤ what ∧ what ≤ 2)) → At 4 [some (rf 0), some (.inl what)] [.inl z, rf 0] σ (0) (0) := fun z hz => by
    subst hz
    refine hA 4 _ rfl _ _ _ _ _ ?_
    refine Exists.intro _ (And.intro (by first | assumption | exact st_s | exact st_e (by decide) (by assumption) | exact st_e (by omega) (by assumption) | exact st_e (by decide) st_s | exact st_e (by omega) st_s | exact st_e (by decide) (st_e (by decide) (by assumption)) | exact st_e (by omega) (st_e (by omega) (by assumption))) (And.intro rfl (ab_inv_of (c_needArgument h0 (decide (0 ≤ what ∧ what ≤ 2))) (by first | decide | omega) (by omega) (by omega) ?_)))
    intro r' τn hpost
    rcases hpost with ⟨hbn, rfl, rfl⟩ | ⟨hbn, rfl, q9, hq9, rfl⟩
    · have hP := of_decide_eq_true hbn
      refine Exists.intro _ (And.intro (by first | assumption | exact st_s | exact st_e (by decide) (by assumption) | exact st_e (by omega) (by assumption) | exact st_e (by decide) st_s | exact st_e (by omega) st_s | exact st_e (by decide) (st_e (by decide) (by assumption)) | exact st_e (by omega) (st_e (by omega) (by assumption))) ?_)
      refine Exists.intro _ (Exists.intro _ (And.intro (by first | assumption | exact st_s | exact st_e (by decide) (by assumption) | exact st_e (by omega) (by assumption) | exact st_e (by decide) st_s | exact st_e (by omega) st_s | exact st_e (by decide) (st_e (by decide) (by assumption)) | exact st_e (by omega) (st_e (by omega) (by assumption))) (And.intro (by first | omega | (simp only [Int.toNat_natCast]; omega)) ?_)))
      refine pure_ok ?_ GR hI
      unfold sp_cost
      rw [if_pos hP]
      have e : what = 0 ∨ what = 1 ∨ what = 2 := by omega
      rcases e with rfl | rfl | rfl
      · exact congrArg Sum.inl h56a.symm
      · exact congrArg Sum.inl h56b.symm
      · exact congrArg Sum.inl h56c.symm
    · have hP := of_decide_eq_false hbn
      exact pure_no (by unfold sp_cost; rw [if_neg hP]) GR hI hq9
  have kF : ¬ (0 ≤ what ∧ what ≤ 2) → At 3 [some (rf 0), some (.inl what)] [rf 0] σ (0) (0) := fun h => by
    refine hA 3 _ rfl _ _ _ _ _ ?_
    exact kN 0 (by rw [decide_eq_false h]; rfl)
  refine hA 0 _ rfl _ _ _ _ _ ?_
  refine And.intro (by first | assumption | exact b2i_R _ | exact rR (by omega) (by omega) | exact rR (by simp only [Int.toNat_natCast]; omega) (by simp only [Int.toNat_natCast]; omega)) (And.intro (fun q => ?_) (fun q => ?_))
  · exact kF (by omega)
  · refine hA 1 _ rfl _ _ _ _ _ ?_
    refine And.intro (And.intro (by first | assumption | exact b2i_R _ | exact rR (by omega) (by omega) | exact rR (by simp only [Int.toNat_natCast]; omega) (by simp only [Int.toNat_natCast]; omega)) (by first | assumption | exact b2i_R _ | exact rR (by omega) (by omega) | exact rR (by simp only [Int.toNat_natCast]; omega) (by simp only [Int.toNat_natCast]; omega))) (And.intro (fun q => ?_) (fun q => ?_))
    · exact kF (by omega)
    · refine hA 2 _ rfl _ _ _ _ _ ?_
      exact kN 1 (by rw [decide_eq_true (by omega)]; rfl)
set_option maxRecDepth 100000 in
set_option maxHeartbeats 1000000 in
theorem f_status (hI : CI σ cc rows K va ad R f n pl c r) (what : Int) (hwhat : ab_R what) : ab_call 10 4 24 yX9_status [rf 0, .inl what] σ (pureP σ cc rows K va ad R f n pl c r (sp_status r what)) := by
  obtain ⟨h0, ⟨⟨tlen, tat, tst, tk, h1⟩, h2, hby, hn4⟩, ⟨h3, hr, h5, hC, hR, hRr⟩, ⟨⟨e6, h6⟩, ⟨t8, h8⟩, ⟨ar9, h9, h9b⟩, ⟨m10, h10, h10b⟩, mb11, h11⟩, -, -, -, ⟨s53, h53⟩, ⟨g55, h55⟩, ⟨g56, h56, h56a, h56b, h56c⟩, hs⟩ := id hI
  obtain ⟨hcc4, ⟨A, h4, hAd⟩, hcol⟩ := id hC
  have hgu := gu_le hr
  have GR := gr_rf fcA σ
  refine eX9_status rfl (fun At hA => ?_)
  refine hA 0 _ rfl _ _ _ _ _ ?_
  refine And.intro (by first | assumption | exact b2i_R _ | exact rR (by omega) (by omega) | exact rR (by simp only [Int.toNat_natCast]; omega) (by simp only [Int.toNat_natCast]; omega)) ?_
  refine And.intro (fun q => ?_) (fun q0 => And.intro (fun q => ?_) (fun q1 => And.intro (fun q => ?_) (fun q2 => ?_)))
  · refine hA 1 _ rfl _ _ _ _ _ ?_
    refine Exists.intro _ (And.intro (by first | assumption | exact st_s | exact st_e (by decide) (by assumption) | exact st_e (by omega) (by assumption) | exact st_e (by decide) st_s | exact st_e (by omega) st_s | exact st_e (by decide) (st_e (by decide) (by assumption)) | exact st_e (by omega) (st_e (by omega) (by assumption))) ?_)
    exact pure_ok (o := sp_status r what) (by unfold sp_status; rw [if_pos (by omega)]) GR hI
  · refine hA 2 _ rfl _ _ _ _ _ ?_
    refine Exists.intro _ (And.intro (by first | assumption | exact st_s | exact st_e (by decide) (by assumption) | exact st_e (by omega) (by assumption) | exact st_e (by decide) st_s | exact st_e (by omega) st_s | exact st_e (by decide) (st_e (by decide) (by assumption)) | exact st_e (by omega) (st_e (by omega) (by assumption))) ?_)
    exact pure_ok (o := sp_status r what) (by unfold sp_status; rw [if_neg (by omega), if_pos (by omega)]) GR hI
  · refine hA 3 _ rfl _ _ _ _ _ ?_
    refine Exists.intro _ (And.intro (by first | assumption | exact st_s | exact st_e (by decide) (by assumption) | exact st_e (by omega) (by assumption) | exact st_e (by decide) st_s | exact st_e (by omega) st_s | exact st_e (by decide) (st_e (by decide) (by assumption)) | exact st_e (by omega) (st_e (by omega) (by assumption))) ?_)
    exact pure_ok (o := sp_status r what) (by unfold sp_status; rw [if_neg (by omega), if_neg (by omega), if_pos (by omega)]) GR hI
  · refine hA 4 _ rfl _ _ _ _ _ ?_
    exact pure_ok (o := sp_status r what) (by unfold sp_status; rw [if_neg (by omega), if_neg (by omega), if_neg (by omega)]) GR hI
set_option maxRecDepth 100000 in
set_option maxHeartbeats 1000000 in
theorem f_told (hI : CI σ cc rows K va ad R f n pl c r) (what : Int) (hwhat : ab_R what) : ab_call 10 4 24 yX9_told [rf 0, .inl what] σ (pureP σ cc rows K va ad R f n pl c r (sp_told cc rows K va R n what)) := by
  obtain ⟨h0, ⟨⟨tlen, tat, tst, tk, h1⟩, h2, hby, hn4⟩, ⟨h3, hr, h5, hC, hR, hRr⟩, ⟨⟨e6, h6⟩, ⟨t8, h8⟩, ⟨ar9, h9, h9b⟩, ⟨m10, h10, h10b⟩, mb11, h11⟩, -, -, -, ⟨s53, h53⟩, ⟨g55, h55⟩, ⟨g56, h56, h56a, h56b, h56c⟩, hs⟩ := id hI
  obtain ⟨hcc4, ⟨A, h4, hAd⟩, hcol⟩ := id hC
  have hgu := gu_le hr
  have GR := gr_rf fcA σ
  refine eX9_told rfl (fun At hA => ?_)
  have kN : ∀ z : Int, z = b2i (decide (0 ≤ what ∧ what ≤ 6)) → At 4 [some (rf 0), some (.inl what)] [.inl z, rf 0] σ (0) (0) := fun z hz => by
    subst hz
    refine hA 4 _ rfl _ _ _ _ _ ?_
    refine Exists.intro _ (And.intro (by first | assumption | exact st_s | exact st_e (by decide) (by assumption) | exact st_e (by omega) (by assumption) | exact st_e (by decide) st_s | exact st_e (by omega) st_s | exact st_e (by decide) (st_e (by decide) (by assumption)) | exact st_e (by omega) (st_e (by omega) (by assumption))) (And.intro rfl (ab_inv_of (c_needArgument h0 (decide (0 ≤ what ∧ what ≤ 6))) (by first | decide | omega) (by omega) (by omega) ?_)))
    intro r' τn hpost
    rcases hpost with ⟨hbn, rfl, rfl⟩ | ⟨hbn, rfl, q9, hq9, rfl⟩
    · have hP := of_decide_eq_true hbn
      have hL6 := (hR 6 (by omega)).1
      have j5 : what = 0 → At 5 [some (rf 0), some (.inl what)] [] τn (0 + 1) (0 + 6) := fun e => by
        subst e
        refine hA 5 _ rfl _ _ _ _ _ ?_
        refine Exists.intro _ (And.intro (by first | assumption | exact st_s | exact st_e (by decide) (by assumption) | exact st_e (by omega) (by assumption) | exact st_e (by decide) st_s | exact st_e (by omega) st_s | exact st_e (by decide) (st_e (by decide) (by assumption)) | exact st_e (by omega) (st_e (by omega) (by assumption))) ?_)
        refine Exists.intro _ (And.intro (by first | assumption | exact st_s | exact st_e (by decide) (by assumption) | exact st_e (by omega) (by assumption) | exact st_e (by decide) st_s | exact st_e (by omega) st_s | exact st_e (by decide) (st_e (by decide) (by assumption)) | exact st_e (by omega) (st_e (by omega) (by assumption))) ?_)
        exact pure_ok rfl GR hI
      have j6 : what = 1 → At 6 [some (rf 0), some (.inl what)] [] τn (0 + 1) (0 + 6) := fun e => by
        subst e
        refine hA 6 _ rfl _ _ _ _ _ ?_
        refine Exists.intro _ (And.intro (by first | assumption | exact st_s | exact st_e (by decide) (by assumption) | exact st_e (by omega) (by assumption) | exact st_e (by decide) st_s | exact st_e (by omega) st_s | exact st_e (by decide) (st_e (by decide) (by assumption)) | exact st_e (by omega) (st_e (by omega) (by assumption))) ?_)
        refine Exists.intro _ (And.intro (by first | assumption | exact st_s | exact st_e (by decide) (by assumption) | exact st_e (by omega) (by assumption) | exact st_e (by decide) st_s | exact st_e (by omega) st_s | exact st_e (by decide) (st_e (by decide) (by assumption)) | exact st_e (by omega) (st_e (by omega) (by assumption))) ?_)
        exact pure_ok rfl GR hI
      have j7 : what = 2 → At 7 [some (rf 0), some (.inl what)] [] τn (0 + 1) (0 + 6) := fun e => by
        subst e
        refine hA 7 _ rfl _ _ _ _ _ ?_
        refine Exists.intro _ (And.intro (by first | assumption | exact st_s | exact st_e (by decide) (by assumption) | exact st_e (by omega) (by assumption) | exact st_e (by decide) st_s | exact st_e (by omega) st_s | exact st_e (by decide) (st_e (by decide) (by assumption)) | exact st_e (by omega) (st_e (by omega) (by assumption))) ?_)
        refine Exists.intro _ (And.intro (by first | assumption | exact st_s | exact st_e (by decide) (by assumption) | exact st_e (by omega) (by assumption) | exact st_e (by decide) st_s | exact st_e (by omega) st_s | exact st_e (by decide) (st_e (by decide) (by assumption)) | exact st_e (by omega) (st_e (by omega) (by assumption))) (And.intro rfl (ab_inv_ev (c_live h3 h5) (by first | decide | omega) (by first | exact Nat.le_refl _ | omega) (by first | exact Nat.le_refl _ | omega) ?_)))
        refine Exists.intro _ (And.intro (by first | assumption | exact st_s | exact st_e (by decide) (by assumption) | exact st_e (by omega) (by assumption) | exact st_e (by decide) st_s | exact st_e (by omega) st_s | exact st_e (by decide) (st_e (by decide) (by assumption)) | exact st_e (by omega) (st_e (by omega) (by assumption))) (And.intro rfl (ab_inv_ev (c_count (hR 6 (by omega))) (by first | decide | omega) (by first | exact Nat.le_refl _ | omega) (by first | exact Nat.le_refl _ | omega) ?_)))
        exact pure_ok rfl GR hI
      have j8 : what = 3 → At 8 [some (rf 0), some (.inl what)] [] τn (0 + 1) (0 + 6) := fun e => by
        subst e
        refine hA 8 _ rfl _ _ _ _ _ ?_
        refine Exists.intro _ (And.intro (by first | assumption | exact st_s | exact st_e (by decide) (by assumption) | exact st_e (by omega) (by assumption) | exact st_e (by decide) st_s | exact st_e (by omega) st_s | exact st_e (by decide) (st_e (by decide) (by assumption)) | exact st_e (by omega) (st_e (by omega) (by assumption))) ?_)
        refine Exists.intro _ (And.intro (by first | assumption | exact st_s | exact st_e (by decide) (by assumption) | exact st_e (by omega) (by assumption) | exact st_e (by decide) st_s | exact st_e (by omega) st_s | exact st_e (by decide) (st_e (by decide) (by assumption)) | exact st_e (by omega) (st_e (by omega) (by assumption))) (And.intro rfl (ab_inv_ev (c_groupsUsed h3 hr) (by first | decide | omega) (by first | exact Nat.le_refl _ | omega) (by first | exact Nat.le_refl _ | omega) ?_)))
        exact pure_ok rfl GR hI
      have j9 : what = 4 → At 9 [some (rf 0), some (.inl what)] [] τn (0 + 1) (0 + 6) := fun e => by
        subst e
        refine hA 9 _ rfl _ _ _ _ _ ?_
        refine Exists.intro _ (And.intro (by first | assumption | exact st_s | exact st_e (by decide) (by assumption) | exact st_e (by omega) (by assumption) | exact st_e (by decide) st_s | exact st_e (by omega) st_s | exact st_e (by decide) (st_e (by decide) (by assumption)) | exact st_e (by omega) (st_e (by omega) (by assumption))) ?_)
        refine Exists.intro _ (And.intro (by first | assumption | exact st_s | exact st_e (by decide) (by assumption) | exact st_e (by omega) (by assumption) | exact st_e (by decide) st_s | exact st_e (by omega) st_s | exact st_e (by decide) (st_e (by decide) (by assumption)) | exact st_e (by omega) (st_e (by omega) (by assumption))) (And.intro rfl (ab_inv_ev (c_bitmapCount h3 hC) (by first | decide | omega) (by first | exact Nat.le_refl _ | omega) (by first | exact Nat.le_refl _ | omega) ?_)))
        exact pure_ok rfl GR hI
      have j10 : what = 5 → At 10 [some (rf 0), some (.inl what)] [] τn (0 + 1) (0 + 6) := fun e => by
        subst e
        refine hA 10 _ rfl _ _ _ _ _ ?_
        refine Exists.intro _ (And.intro (by first | assumption | exact st_s | exact st_e (by decide) (by assumption) | exact st_e (by omega) (by assumption) | exact st_e (by decide) st_s | exact st_e (by omega) st_s | exact st_e (by decide) (st_e (by decide) (by assumption)) | exact st_e (by omega) (st_e (by omega) (by assumption))) ?_)
        refine Exists.intro _ (And.intro (by first | assumption | exact st_s | exact st_e (by decide) (by assumption) | exact st_e (by omega) (by assumption) | exact st_e (by decide) st_s | exact st_e (by omega) st_s | exact st_e (by decide) (st_e (by decide) (by assumption)) | exact st_e (by omega) (st_e (by omega) (by assumption))) (And.intro rfl (ab_inv_ev (c_wordsOfAll h3 hr hC) (by first | decide | omega) (by first | exact Nat.le_refl _ | omega) (by first | exact Nat.le_refl _ | omega) ?_)))
        exact pure_ok rfl GR hI
      have j11 : what = 6 → At 11 [some (rf 0), some (.inl what)] [] τn (0 + 1) (0 + 6) := fun e => by
        subst e
        refine hA 11 _ rfl _ _ _ _ _ ?_
        refine Exists.intro _ (And.intro (by first | assumption | exact st_s | exact st_e (by decide) (by assumption) | exact st_e (by omega) (by assumption) | exact st_e (by decide) st_s | exact st_e (by omega) st_s | exact st_e (by decide) (st_e (by decide) (by assumption)) | exact st_e (by omega) (st_e (by omega) (by assumption))) ?_)
        refine Exists.intro _ (And.intro (by first | assumption | exact st_s | exact st_e (by decide) (by assumption) | exact st_e (by omega) (by assumption) | exact st_e (by decide) st_s | exact st_e (by omega) st_s | exact st_e (by decide) (st_e (by decide) (by assumption)) | exact st_e (by omega) (st_e (by omega) (by assumption))) ?_)
        exact pure_ok rfl GR hI
      refine And.intro (by first | assumption | exact b2i_R _ | exact rR (by omega) (by omega) | exact rR (by simp only [Int.toNat_natCast]; omega) (by simp only [Int.toNat_natCast]; omega)) ?_
      exact And.intro (fun q => j5 (by omega)) (fun q0 => And.intro (fun q => j6 (by omega)) (fun q1 => And.intro (fun q => j7 (by omega)) (fun q2 => And.intro (fun q => j8 (by omega)) (fun q3 => And.intro (fun q => j9 (by omega)) (fun q4 => And.intro (fun q => j10 (by omega)) (fun q5 => j11 (by omega)))))))
    · have hP := of_decide_eq_false hbn
      exact pure_no (by unfold sp_told; rw [if_neg hP]) GR hI hq9
  have kF : ¬ (0 ≤ what ∧ what ≤ 6) → At 3 [some (rf 0), some (.inl what)] [rf 0] σ (0) (0) := fun h => by
    refine hA 3 _ rfl _ _ _ _ _ ?_
    exact kN 0 (by rw [decide_eq_false h]; rfl)
  refine hA 0 _ rfl _ _ _ _ _ ?_
  refine And.intro (by first | assumption | exact b2i_R _ | exact rR (by omega) (by omega) | exact rR (by simp only [Int.toNat_natCast]; omega) (by simp only [Int.toNat_natCast]; omega)) (And.intro (fun q => ?_) (fun q => ?_))
  · exact kF (by omega)
  · refine hA 1 _ rfl _ _ _ _ _ ?_
    refine And.intro (And.intro (by first | assumption | exact b2i_R _ | exact rR (by omega) (by omega) | exact rR (by simp only [Int.toNat_natCast]; omega) (by simp only [Int.toNat_natCast]; omega)) (by first | assumption | exact b2i_R _ | exact rR (by omega) (by omega) | exact rR (by simp only [Int.toNat_natCast]; omega) (by simp only [Int.toNat_natCast]; omega))) (And.intro (fun q => ?_) (fun q => ?_))
    · exact kF (by omega)
    · refine hA 2 _ rfl _ _ _ _ _ ?_
      exact kN 1 (by rw [decide_eq_true (by omega)]; rfl)
set_option maxRecDepth 100000 in
set_option maxHeartbeats 1000000 in
theorem f_columnOf (hI : CI σ cc rows K va ad R f n pl c r) (k what : Int) (hk : ab_R k) (hwhat : ab_R what) : ab_call 10 4 24 yX9_columnOf [rf 0, .inl k, .inl what] σ (pureP σ cc rows K va ad R f n pl c r (sp_columnOf cc rows K va k what)) := by
  obtain ⟨h0, ⟨⟨tlen, tat, tst, tk, h1⟩, h2, hby, hn4⟩, ⟨h3, hr, h5, hC, hR, hRr⟩, ⟨⟨e6, h6⟩, ⟨t8, h8⟩, ⟨ar9, h9, h9b⟩, ⟨m10, h10, h10b⟩, mb11, h11⟩, -, -, -, ⟨s53, h53⟩, ⟨g55, h55⟩, ⟨g56, h56, h56a, h56b, h56c⟩, hs⟩ := id hI
  obtain ⟨hcc4, ⟨A, h4, hAd⟩, hcol⟩ := id hC
  have hgu := gu_le hr
  have GR := gr_rf fcA σ
  refine eX9_columnOf rfl (fun At hA => ?_)
  refine hA 0 _ rfl _ _ _ _ _ ?_
  refine Exists.intro _ (And.intro (by first | assumption | exact st_s | exact st_e (by decide) (by assumption) | exact st_e (by omega) (by assumption) | exact st_e (by decide) st_s | exact st_e (by omega) st_s | exact st_e (by decide) (st_e (by decide) (by assumption)) | exact st_e (by omega) (st_e (by omega) (by assumption))) (And.intro rfl (ab_inv_of (c_existingColumn h0 h3 hC k hk) (by first | decide | omega) (by omega) (by omega) ?_)))
  intro r' τ1 hpost
  rcases hpost with ⟨hb1, rfl, rfl⟩ | ⟨hb1, rfl, q9, hq9, rfl⟩
  · have hP1 := of_decide_eq_true hb1
    obtain ⟨k1, k2, k3, k4, k5, k6⟩ := hcol k.toNat (by omega)
    have k30 := k3.1
    have k35 := k3.2.2.2.2.2.1
    have kN : ∀ z : Int, z = b2i (decide (0 ≤ what ∧ what ≤ 4)) → At 4 [some (rf 0), some (.inl k), some (.inl what), some (rf (ad k.toNat))] [.inl z, rf 0] τ1 (0 + 1) (0 + 6) := fun z hz => by
      subst hz
      refine hA 4 _ rfl _ _ _ _ _ ?_
      refine Exists.intro _ (And.intro (by first | assumption | exact st_s | exact st_e (by decide) (by assumption) | exact st_e (by omega) (by assumption) | exact st_e (by decide) st_s | exact st_e (by omega) st_s | exact st_e (by decide) (st_e (by decide) (by assumption)) | exact st_e (by omega) (st_e (by omega) (by assumption))) (And.intro rfl (ab_inv_of (c_needArgument h0 (decide (0 ≤ what ∧ what ≤ 4))) (by first | decide | omega) (by omega) (by omega) ?_)))
      intro r' τn hpost
      rcases hpost with ⟨hbn, rfl, rfl⟩ | ⟨hbn, rfl, q9, hq9, rfl⟩
      · have hP := of_decide_eq_true hbn
        have j5 : what = 0 → At 5 [some (rf 0), some (.inl k), some (.inl what), some (rf (ad k.toNat))] [] τn (0 + 1 + 1) (0 + 6 + 6) := fun e => by
          subst e
          refine hA 5 _ rfl _ _ _ _ _ ?_
          refine Exists.intro _ (And.intro (by first | assumption | exact st_s | exact st_e (by decide) (by assumption) | exact st_e (by omega) (by assumption) | exact st_e (by decide) st_s | exact st_e (by omega) st_s | exact st_e (by decide) (st_e (by decide) (by assumption)) | exact st_e (by omega) (st_e (by omega) (by assumption))) ?_)
          exact pure_ok (by unfold sp_columnOf; rw [if_pos hP1, if_pos hP]; rfl) GR hI
        have j6 : what = 1 → At 6 [some (rf 0), some (.inl k), some (.inl what), some (rf (ad k.toNat))] [] τn (0 + 1 + 1) (0 + 6 + 6) := fun e => by
          subst e
          refine hA 6 _ rfl _ _ _ _ _ ?_
          refine Exists.intro _ (And.intro (by first | assumption | exact st_s | exact st_e (by decide) (by assumption) | exact st_e (by omega) (by assumption) | exact st_e (by decide) st_s | exact st_e (by omega) st_s | exact st_e (by decide) (st_e (by decide) (by assumption)) | exact st_e (by omega) (st_e (by omega) (by assumption))) ?_)
          exact pure_ok (by unfold sp_columnOf; rw [if_pos hP1, if_pos hP]; rfl) GR hI
        have j11 : what = 3 → At 11 [some (rf 0), some (.inl k), some (.inl what), some (rf (ad k.toNat))] [] τn (0 + 1 + 1) (0 + 6 + 6) := fun e => by
          subst e
          refine hA 11 _ rfl _ _ _ _ _ ?_
          refine Exists.intro _ (And.intro (by first | assumption | exact st_s | exact st_e (by decide) (by assumption) | exact st_e (by omega) (by assumption) | exact st_e (by decide) st_s | exact st_e (by omega) st_s | exact st_e (by decide) (st_e (by decide) (by assumption)) | exact st_e (by omega) (st_e (by omega) (by assumption))) ?_)
          refine Exists.intro _ (Exists.intro _ (And.intro (by first | assumption | exact st_s | exact st_e (by decide) (by assumption) | exact st_e (by omega) (by assumption) | exact st_e (by decide) st_s | exact st_e (by omega) st_s | exact st_e (by decide) (st_e (by decide) (by assumption)) | exact st_e (by omega) (st_e (by omega) (by assumption))) ?_))
          exact pure_ok (by unfold sp_columnOf; rw [if_pos hP1, if_pos hP]; rfl) GR hI
        have j12 : what = 4 → At 12 [some (rf 0), some (.inl k), some (.inl what), some (rf (ad k.toNat))] [] τn (0 + 1 + 1) (0 + 6 + 6) := fun e => by
          subst e
          refine hA 12 _ rfl _ _ _ _ _ ?_
          refine Exists.intro _ (And.intro (by first | assumption | exact st_s | exact st_e (by decide) (by assumption) | exact st_e (by omega) (by assumption) | exact st_e (by decide) st_s | exact st_e (by omega) st_s | exact st_e (by decide) (st_e (by decide) (by assumption)) | exact st_e (by omega) (st_e (by omega) (by assumption))) ?_)
          refine Exists.intro _ (And.intro (by first | assumption | exact st_s | exact st_e (by decide) (by assumption) | exact st_e (by omega) (by assumption) | exact st_e (by decide) st_s | exact st_e (by omega) st_s | exact st_e (by decide) (st_e (by decide) (by assumption)) | exact st_e (by omega) (st_e (by omega) (by assumption))) (And.intro rfl (ab_inv_ev (c_groupsUsed h3 hr) (by first | decide | omega) (by first | exact Nat.le_refl _ | omega) (by first | exact Nat.le_refl _ | omega) ?_)))
          refine Exists.intro _ (And.intro (by first | assumption | exact st_s | exact st_e (by decide) (by assumption) | exact st_e (by omega) (by assumption) | exact st_e (by decide) st_s | exact st_e (by omega) st_s | exact st_e (by decide) (st_e (by decide) (by assumption)) | exact st_e (by omega) (st_e (by omega) (by assumption))) (And.intro rfl (ab_inv_ev (c_wordsOfColumn k3 k1 (gu rows) hgu) (by first | decide | omega) (by first | exact Nat.le_refl _ | omega) (by first | exact Nat.le_refl _ | omega) ?_)))
          exact pure_ok (by unfold sp_columnOf; rw [if_pos hP1, if_pos hP]; rfl) GR hI
        have j10 : what = 2 → ∀ z : Int, z = b2i (K k.toNat).1 → At 10 [some (rf 0), some (.inl k), some (.inl what), some (rf (ad k.toNat))] [.inl z] τn (0 + 1 + 1) (0 + 6 + 6) := fun e z hz => by
          subst e hz
          refine hA 10 _ rfl _ _ _ _ _ ?_
          exact pure_ok (by unfold sp_columnOf; rw [if_pos hP1, if_pos hP]; rfl) GR hI
        have j7 : what = 2 → At 7 [some (rf 0), some (.inl k), some (.inl what), some (rf (ad k.toNat))] [] τn (0 + 1 + 1) (0 + 6 + 6) := fun e => by
          refine hA 7 _ rfl _ _ _ _ _ ?_
          refine Exists.intro _ (And.intro (by first | assumption | exact st_s | exact st_e (by decide) (by assumption) | exact st_e (by omega) (by assumption) | exact st_e (by decide) st_s | exact st_e (by omega) st_s | exact st_e (by decide) (st_e (by decide) (by assumption)) | exact st_e (by omega) (st_e (by omega) (by assumption))) ?_)
          refine And.intro (by first | assumption | exact b2i_R _ | exact rR (by omega) (by omega) | exact rR (by simp only [Int.toNat_natCast]; omega) (by simp only [Int.toNat_natCast]; omega)) (And.intro (fun q => ?_) (fun q => ?_))
          · refine hA 9 _ rfl _ _ _ _ _ ?_
            exact j10 e 0 (b2i_0 q ▸ rfl)
          · refine hA 8 _ rfl _ _ _ _ _ ?_
            exact j10 e 1 (b2i_1 q ▸ rfl)
        refine And.intro (by first | assumption | exact b2i_R _ | exact rR (by omega) (by omega) | exact rR (by simp only [Int.toNat_natCast]; omega) (by simp only [Int.toNat_natCast]; omega)) ?_
        exact And.intro (fun q => j5 (by omega)) (fun q0 => And.intro (fun q => j6 (by omega)) (fun q1 => And.intro (fun q => j7 (by omega)) (fun q2 => And.intro (fun q => j11 (by omega)) (fun q3 => j12 (by omega)))))
      · have hP := of_decide_eq_false hbn
        exact pure_no (by unfold sp_columnOf; rw [if_pos hP1, if_neg hP]) GR hI hq9
    have kF : ¬ (0 ≤ what ∧ what ≤ 4) → At 3 [some (rf 0), some (.inl k), some (.inl what), some (rf (ad k.toNat))] [rf 0] τ1 (0 + 1) (0 + 6) := fun h => by
      refine hA 3 _ rfl _ _ _ _ _ ?_
      exact kN 0 (by rw [decide_eq_false h]; rfl)
    refine And.intro (by first | assumption | exact b2i_R _ | exact rR (by omega) (by omega) | exact rR (by simp only [Int.toNat_natCast]; omega) (by simp only [Int.toNat_natCast]; omega)) (And.intro (fun q => ?_) (fun q => ?_))
    · exact kF (by omega)
    · refine hA 1 _ rfl _ _ _ _ _ ?_
      refine And.intro (And.intro (by first | assumption | exact b2i_R _ | exact rR (by omega) (by omega) | exact rR (by simp only [Int.toNat_natCast]; omega) (by simp only [Int.toNat_natCast]; omega)) (by first | assumption | exact b2i_R _ | exact rR (by omega) (by omega) | exact rR (by simp only [Int.toNat_natCast]; omega) (by simp only [Int.toNat_natCast]; omega))) (And.intro (fun q => ?_) (fun q => ?_))
      · exact kF (by omega)
      · refine hA 2 _ rfl _ _ _ _ _ ?_
        exact kN 1 (by rw [decide_eq_true (by omega)]; rfl)
  · have hP1 := of_decide_eq_false hb1
    exact pure_no (by unfold sp_columnOf; rw [if_neg hP1]) GR hI hq9
set_option maxRecDepth 100000 in
set_option maxHeartbeats 1000000 in
theorem f_index (hI : CI σ cc rows K va ad R f n pl c r) (k p j what : Int) (hk : ab_R k) (hp : ab_R p) (hj : ab_R j) (hwhat : ab_R what) : ab_call 10 4 24 yX9_index [rf 0, .inl k, .inl p, .inl j, .inl what] σ (pureP σ cc rows K va ad R f n pl c r (sp_index cc rows K va k p j what)) := by
  obtain ⟨h0, ⟨⟨tlen, tat, tst, tk, h1⟩, h2, hby, hn4⟩, ⟨h3, hr, h5, hC, hR, hRr⟩, ⟨⟨e6, h6⟩, ⟨t8, h8⟩, ⟨ar9, h9, h9b⟩, ⟨m10, h10, h10b⟩, mb11, h11⟩, -, -, -, ⟨s53, h53⟩, ⟨g55, h55⟩, ⟨g56, h56, h56a, h56b, h56c⟩, hs⟩ := id hI
  obtain ⟨hcc4, ⟨A, h4, hAd⟩, hcol⟩ := id hC
  have hgu := gu_le hr
  have GR := gr_rf fcA σ
  refine eX9_index rfl (fun At hA => ?_)
  refine hA 0 _ rfl _ _ _ _ _ ?_
  refine Exists.intro _ (And.intro (by first | assumption | exact st_s | exact st_e (by decide) (by assumption) | exact st_e (by omega) (by assumption) | exact st_e (by decide) st_s | exact st_e (by omega) st_s | exact st_e (by decide) (st_e (by decide) (by assumption)) | exact st_e (by omega) (st_e (by omega) (by assumption))) (And.intro rfl (ab_inv_of (c_existingBitmap h0 h3 hC k p j hk hp hj) (by first | decide | omega) (by omega) (by omega) ?_)))
  intro r' τ1 hpost
  rcases hpost with ⟨hb1, rfl, rfl⟩ | ⟨hb1, rfl, q9, hq9, rfl⟩
  · obtain ⟨k1, k2, k3, k4, k5, k6⟩ := hcol k.toNat (by have := hb1.1; omega)
    have hbm := hb1.2
    have hB := k3.2.2.2.2.2.2 (fsp (K k.toNat).1 (K k.toNat).2.2.2 (p - 1).toNat + j.toNat) (fsp_lt (by omega) (by omega))
    have hB1 := hB.1
    have hbB := isBm_B.mpr hb1
    have kN : ∀ z : Int, z = b2i (decide (0 ≤ what ∧ what ≤ 5)) → At 4 [some (rf 0), some (.inl k), some (.inl p), some (.inl j), some (.inl what), some (rf (ad k.toNat + 6 + 2 * (fsp (K k.toNat).1 (K k.toNat).2.2.2 (p - 1).toNat + j.toNat)))] [.inl z, rf 0] τ1 (0 + 3) (0 + 18) := fun z hz => by
      subst hz
      refine hA 4 _ rfl _ _ _ _ _ ?_
      refine Exists.intro _ (And.intro (by first | assumption | exact st_s | exact st_e (by decide) (by assumption) | exact st_e (by omega) (by assumption) | exact st_e (by decide) st_s | exact st_e (by omega) st_s | exact st_e (by decide) (st_e (by decide) (by assumption)) | exact st_e (by omega) (st_e (by omega) (by assumption))) (And.intro rfl (ab_inv_of (c_needArgument h0 (decide (0 ≤ what ∧ what ≤ 5))) (by first | decide | omega) (by omega) (by omega) ?_)))
      intro r' τn hpost
      rcases hpost with ⟨hbn, rfl, rfl⟩ | ⟨hbn, rfl, q9, hq9, rfl⟩
      · have hP := of_decide_eq_true hbn
        have hc := c_measure hB what.toNat (gu rows) (by omega) hgu
        rw [show ((what.toNat : Nat) : Int) = what by omega] at hc
        refine Exists.intro _ (And.intro (by first | assumption | exact st_s | exact st_e (by decide) (by assumption) | exact st_e (by omega) (by assumption) | exact st_e (by decide) st_s | exact st_e (by omega) st_s | exact st_e (by decide) (st_e (by decide) (by assumption)) | exact st_e (by omega) (st_e (by omega) (by assumption))) ?_)
        refine Exists.intro _ (And.intro (by first | assumption | exact st_s | exact st_e (by decide) (by assumption) | exact st_e (by omega) (by assumption) | exact st_e (by decide) st_s | exact st_e (by omega) st_s | exact st_e (by decide) (st_e (by decide) (by assumption)) | exact st_e (by omega) (st_e (by omega) (by assumption))) (And.intro rfl (ab_inv_ev (c_groupsUsed h3 hr) (by first | decide | omega) (by first | exact Nat.le_refl _ | omega) (by first | exact Nat.le_refl _ | omega) ?_)))
        refine Exists.intro _ (And.intro (by first | assumption | exact st_s | exact st_e (by decide) (by assumption) | exact st_e (by omega) (by assumption) | exact st_e (by decide) st_s | exact st_e (by omega) st_s | exact st_e (by decide) (st_e (by decide) (by assumption)) | exact st_e (by omega) (st_e (by omega) (by assumption))) (And.intro rfl (ab_inv_ev hc (by first | decide | omega) (by first | exact Nat.le_refl _ | omega) (by first | exact Nat.le_refl _ | omega) ?_)))
        exact pure_ok (by unfold sp_index; rw [if_pos hbB, if_pos hP]; rfl) GR hI
      · have hP := of_decide_eq_false hbn
        exact pure_no (by unfold sp_index; rw [if_pos hbB, if_neg hP]) GR hI hq9
    have kF : ¬ (0 ≤ what ∧ what ≤ 5) → At 3 [some (rf 0), some (.inl k), some (.inl p), some (.inl j), some (.inl what), some (rf (ad k.toNat + 6 + 2 * (fsp (K k.toNat).1 (K k.toNat).2.2.2 (p - 1).toNat + j.toNat)))] [rf 0] τ1 (0 + 3) (0 + 18) := fun h => by
      refine hA 3 _ rfl _ _ _ _ _ ?_
      exact kN 0 (by rw [decide_eq_false h]; rfl)
    refine And.intro (by first | assumption | exact b2i_R _ | exact rR (by omega) (by omega) | exact rR (by simp only [Int.toNat_natCast]; omega) (by simp only [Int.toNat_natCast]; omega)) (And.intro (fun q => ?_) (fun q => ?_))
    · exact kF (by omega)
    · refine hA 1 _ rfl _ _ _ _ _ ?_
      refine And.intro (And.intro (by first | assumption | exact b2i_R _ | exact rR (by omega) (by omega) | exact rR (by simp only [Int.toNat_natCast]; omega) (by simp only [Int.toNat_natCast]; omega)) (by first | assumption | exact b2i_R _ | exact rR (by omega) (by omega) | exact rR (by simp only [Int.toNat_natCast]; omega) (by simp only [Int.toNat_natCast]; omega))) (And.intro (fun q => ?_) (fun q => ?_))
      · exact kF (by omega)
      · refine hA 2 _ rfl _ _ _ _ _ ?_
        exact kN 1 (by rw [decide_eq_true (by omega)]; rfl)
  · have hbB : ¬ isBmB cc K k p j = true := fun h => hb1 (isBm_B.mp h)
    exact pure_no (by unfold sp_index; rw [if_neg hbB]) GR hI hq9
set_option maxRecDepth 100000 in
set_option maxHeartbeats 1000000 in
theorem f_indexWord (hI : CI σ cc rows K va ad R f n pl c r) (k p j w : Int) (hk : ab_R k) (hp : ab_R p) (hj : ab_R j) (hw : ab_R w) : ab_call 10 4 24 yX9_indexWord [rf 0, .inl k, .inl p, .inl j, .inl w] σ (pureP σ cc rows K va ad R f n pl c r (sp_indexWord cc rows K va k p j w)) := by
  obtain ⟨h0, ⟨⟨tlen, tat, tst, tk, h1⟩, h2, hby, hn4⟩, ⟨h3, hr, h5, hC, hR, hRr⟩, ⟨⟨e6, h6⟩, ⟨t8, h8⟩, ⟨ar9, h9, h9b⟩, ⟨m10, h10, h10b⟩, mb11, h11⟩, -, -, -, ⟨s53, h53⟩, ⟨g55, h55⟩, ⟨g56, h56, h56a, h56b, h56c⟩, hs⟩ := id hI
  obtain ⟨hcc4, ⟨A, h4, hAd⟩, hcol⟩ := id hC
  have hgu := gu_le hr
  have GR := gr_rf fcA σ
  refine eX9_indexWord rfl (fun At hA => ?_)
  refine hA 0 _ rfl _ _ _ _ _ ?_
  refine Exists.intro _ (And.intro (by first | assumption | exact st_s | exact st_e (by decide) (by assumption) | exact st_e (by omega) (by assumption) | exact st_e (by decide) st_s | exact st_e (by omega) st_s | exact st_e (by decide) (st_e (by decide) (by assumption)) | exact st_e (by omega) (st_e (by omega) (by assumption))) (And.intro rfl (ab_inv_of (c_existingBitmap h0 h3 hC k p j hk hp hj) (by first | decide | omega) (by omega) (by omega) ?_)))
  intro r' τ1 hpost
  rcases hpost with ⟨hb1, rfl, rfl⟩ | ⟨hb1, rfl, q9, hq9, rfl⟩
  · obtain ⟨k1, k2, k3, k4, k5, k6⟩ := hcol k.toNat (by have := hb1.1; omega)
    have hbm := hb1.2
    have hB := k3.2.2.2.2.2.2 (fsp (K k.toNat).1 (K k.toNat).2.2.2 (p - 1).toNat + j.toNat) (fsp_lt (by omega) (by omega))
    have hB1 := hB.1
    have hbB := isBm_B.mpr hb1
    refine Exists.intro _ (And.intro (by first | assumption | exact st_s | exact st_e (by decide) (by assumption) | exact st_e (by omega) (by assumption) | exact st_e (by decide) st_s | exact st_e (by omega) st_s | exact st_e (by decide) (st_e (by decide) (by assumption)) | exact st_e (by omega) (st_e (by omega) (by assumption))) (And.intro rfl (ab_inv_of (c_existingWord h0 h3 hr hB w hw) (by first | decide | omega) (by omega) (by omega) ?_)))
    intro r' τ2 hpost
    rcases hpost with ⟨hb2, rfl, rfl⟩ | ⟨hb2, rfl, q9, hq9, rfl⟩
    · have hP2 := of_decide_eq_true hb2
      exact pure_ok (by unfold sp_indexWord; rw [if_pos hbB]; exact if_pos hP2) GR hI
    · have hP2 := of_decide_eq_false hb2
      exact pure_no (by unfold sp_indexWord; rw [if_pos hbB]; exact if_neg hP2) GR hI hq9
  · have hbB : ¬ isBmB cc K k p j = true := fun h => hb1 (isBm_B.mp h)
    exact pure_no (by unfold sp_indexWord; rw [if_neg hbB]) GR hI hq9
set_option maxRecDepth 100000 in
set_option maxHeartbeats 1000000 in
theorem f_group (hI : CI σ cc rows K va ad R f n pl c r) (k g what : Int) (hk : ab_R k) (hg : ab_R g) (hwhat : ab_R what) : ab_call 10 4 24 yX9_group [rf 0, .inl k, .inl g, .inl what] σ (pureP σ cc rows K va ad R f n pl c r (sp_group rows R k g what)) := by
  obtain ⟨h0, ⟨⟨tlen, tat, tst, tk, h1⟩, h2, hby, hn4⟩, ⟨h3, hr, h5, hC, hR, hRr⟩, ⟨⟨e6, h6⟩, ⟨t8, h8⟩, ⟨ar9, h9, h9b⟩, ⟨m10, h10, h10b⟩, mb11, h11⟩, -, -, -, ⟨s53, h53⟩, ⟨g55, h55⟩, ⟨g56, h56, h56a, h56b, h56c⟩, hs⟩ := id hI
  obtain ⟨hcc4, ⟨A, h4, hAd⟩, hcol⟩ := id hC
  have hgu := gu_le hr
  have GR := gr_rf fcA σ
  refine eX9_group rfl (fun At hA => ?_)
  refine hA 0 _ rfl _ _ _ _ _ ?_
  refine Exists.intro _ (And.intro (by first | assumption | exact st_s | exact st_e (by decide) (by assumption) | exact st_e (by omega) (by assumption) | exact st_e (by decide) st_s | exact st_e (by omega) st_s | exact st_e (by decide) (st_e (by decide) (by assumption)) | exact st_e (by omega) (st_e (by omega) (by assumption))) (And.intro rfl (ab_inv_of (c_existingResult h0 h3 h5 k hk) (by first | decide | omega) (by omega) (by omega) ?_)))
  intro r' τ1 hpost
  rcases hpost with ⟨hb1, rfl, rfl⟩ | ⟨hb1, rfl, q9, hq9, rfl⟩
  · have hP1 := of_decide_eq_true hb1
    have kN : ∀ z : Int, z = b2i (decide (0 ≤ g ∧ g < (gu rows : Int))) → At 4 [some (rf 0), some (.inl k), some (.inl g), some (.inl what), some (rf (12 + 2 * k.toNat))] [.inl z, rf 0] τ1 (0 + 1) (0 + 6) := fun z hz => by
      subst hz
      refine hA 4 _ rfl _ _ _ _ _ ?_
      refine Exists.intro _ (And.intro (by first | assumption | exact st_s | exact st_e (by decide) (by assumption) | exact st_e (by omega) (by assumption) | exact st_e (by decide) st_s | exact st_e (by omega) st_s | exact st_e (by decide) (st_e (by decide) (by assumption)) | exact st_e (by omega) (st_e (by omega) (by assumption))) (And.intro rfl (ab_inv_of (c_needElement h0 (decide (0 ≤ g ∧ g < (gu rows : Int)))) (by first | decide | omega) (by omega) (by omega) ?_)))
      intro r' τn hpost
      rcases hpost with ⟨hbn, rfl, rfl⟩ | ⟨hbn, rfl, q9, hq9, rfl⟩
      · have hP := of_decide_eq_true hbn
        have kM : ∀ z : Int, z = b2i (decide (0 ≤ what ∧ what ≤ 2)) → At 8 [some (rf 0), some (.inl k), some (.inl g), some (.inl what), some (rf (12 + 2 * k.toNat))] [.inl z, rf 0] τn (0 + 1 + 1) (0 + 6 + 6) := fun z hz => by
          subst hz
          refine hA 8 _ rfl _ _ _ _ _ ?_
          refine Exists.intro _ (And.intro (by first | assumption | exact st_s | exact st_e (by decide) (by assumption) | exact st_e (by omega) (by assumption) | exact st_e (by decide) st_s | exact st_e (by omega) st_s | exact st_e (by decide) (st_e (by decide) (by assumption)) | exact st_e (by omega) (st_e (by omega) (by assumption))) (And.intro rfl (ab_inv_of (c_needArgument h0 (decide (0 ≤ what ∧ what ≤ 2))) (by first | decide | omega) (by omega) (by omega) ?_)))
          intro r' τm hpost
          rcases hpost with ⟨hbn, rfl, rfl⟩ | ⟨hbn, rfl, q9, hq9, rfl⟩
          · have hPm := of_decide_eq_true hbn
            have hB := hR k.toNat (by omega)
            have hB1 := hB.1
            have hB2 := hB.2.1
            have hgn : ((g.toNat : Nat) : Int) = g := by omega
            have c1 := c_groupsOfWordAt hB g.toNat (gu rows) (by omega) hgu
            have c2 := c_wordCount hB (g.toNat + 1) (by omega)
            rw [hgn] at c1
            rw [show ((g.toNat + 1 : Nat) : Int) = g + 1 by omega] at c2
            have j9 : what = 0 → At 9 [some (rf 0), some (.inl k), some (.inl g), some (.inl what), some (rf (12 + 2 * k.toNat))] [] τm (0 + 1 + 1 + 1) (0 + 6 + 6 + 6) := fun e => by
              subst e
              refine hA 9 _ rfl _ _ _ _ _ ?_
              refine Exists.intro _ (And.intro (by first | assumption | exact st_s | exact st_e (by decide) (by assumption) | exact st_e (by omega) (by assumption) | exact st_e (by decide) st_s | exact st_e (by omega) st_s | exact st_e (by decide) (st_e (by decide) (by assumption)) | exact st_e (by omega) (st_e (by omega) (by assumption))) ?_)
              refine Exists.intro _ (Exists.intro _ (And.intro (by first | assumption | exact st_s | exact st_e (by decide) (by assumption) | exact st_e (by omega) (by assumption) | exact st_e (by decide) st_s | exact st_e (by omega) st_s | exact st_e (by decide) (st_e (by decide) (by assumption)) | exact st_e (by omega) (st_e (by omega) (by assumption))) (And.intro (by first | omega | (simp only [Int.toNat_natCast]; omega)) ?_)))
              exact pure_ok (by unfold sp_group; rw [if_pos hP1, if_pos hP, if_pos hPm]; rfl) GR hI
            have j10 : what = 1 → At 10 [some (rf 0), some (.inl k), some (.inl g), some (.inl what), some (rf (12 + 2 * k.toNat))] [] τm (0 + 1 + 1 + 1) (0 + 6 + 6 + 6) := fun e => by
              subst e
              refine hA 10 _ rfl _ _ _ _ _ ?_
              refine Exists.intro _ (And.intro (by first | assumption | exact st_s | exact st_e (by decide) (by assumption) | exact st_e (by omega) (by assumption) | exact st_e (by decide) st_s | exact st_e (by omega) st_s | exact st_e (by decide) (st_e (by decide) (by assumption)) | exact st_e (by omega) (st_e (by omega) (by assumption))) ?_)
              refine Exists.intro _ (And.intro (by first | assumption | exact st_s | exact st_e (by decide) (by assumption) | exact st_e (by omega) (by assumption) | exact st_e (by decide) st_s | exact st_e (by omega) st_s | exact st_e (by decide) (st_e (by decide) (by assumption)) | exact st_e (by omega) (st_e (by omega) (by assumption))) (And.intro rfl (ab_inv_ev (c_groupsUsed h3 hr) (by first | decide | omega) (by first | exact Nat.le_refl _ | omega) (by first | exact Nat.le_refl _ | omega) ?_)))
              refine Exists.intro _ (And.intro (by first | assumption | exact st_s | exact st_e (by decide) (by assumption) | exact st_e (by omega) (by assumption) | exact st_e (by decide) st_s | exact st_e (by omega) st_s | exact st_e (by decide) (st_e (by decide) (by assumption)) | exact st_e (by omega) (st_e (by omega) (by assumption))) (And.intro rfl (ab_inv_ev c1 (by first | decide | omega) (by first | exact Nat.le_refl _ | omega) (by first | exact Nat.le_refl _ | omega) ?_)))
              exact pure_ok (by unfold sp_group; rw [if_pos hP1, if_pos hP, if_pos hPm]; rfl) GR hI
            have j11 : what = 2 → At 11 [some (rf 0), some (.inl k), some (.inl g), some (.inl what), some (rf (12 + 2 * k.toNat))] [] τm (0 + 1 + 1 + 1) (0 + 6 + 6 + 6) := fun e => by
              subst e
              refine hA 11 _ rfl _ _ _ _ _ ?_
              refine Exists.intro _ (And.intro (by first | assumption | exact st_s | exact st_e (by decide) (by assumption) | exact st_e (by omega) (by assumption) | exact st_e (by decide) st_s | exact st_e (by omega) st_s | exact st_e (by decide) (st_e (by decide) (by assumption)) | exact st_e (by omega) (st_e (by omega) (by assumption))) (And.intro rfl (ab_inv_ev c2 (by first | decide | omega) (by first | exact Nat.le_refl _ | omega) (by first | exact Nat.le_refl _ | omega) ?_)))
              exact pure_ok (by unfold sp_group; rw [if_pos hP1, if_pos hP, if_pos hPm]; rfl) GR hI
            refine And.intro (by first | assumption | exact b2i_R _ | exact rR (by omega) (by omega) | exact rR (by simp only [Int.toNat_natCast]; omega) (by simp only [Int.toNat_natCast]; omega)) ?_
            exact And.intro (fun q => j9 (by omega)) (fun q0 => And.intro (fun q => j10 (by omega)) (fun q1 => j11 (by omega)))
          · have hPm := of_decide_eq_false hbn
            exact pure_no (by unfold sp_group; rw [if_pos hP1, if_pos hP, if_neg hPm]) GR hI hq9
        have kG : ¬ (0 ≤ what ∧ what ≤ 2) → At 7 [some (rf 0), some (.inl k), some (.inl g), some (.inl what), some (rf (12 + 2 * k.toNat))] [rf 0] τn (0 + 1 + 1) (0 + 6 + 6) := fun h => by
          refine hA 7 _ rfl _ _ _ _ _ ?_
          exact kM 0 (by rw [decide_eq_false h]; rfl)
        refine And.intro (by first | assumption | exact b2i_R _ | exact rR (by omega) (by omega) | exact rR (by simp only [Int.toNat_natCast]; omega) (by simp only [Int.toNat_natCast]; omega)) (And.intro (fun q => ?_) (fun q => ?_))
        · exact kG (by omega)
        · refine hA 5 _ rfl _ _ _ _ _ ?_
          refine And.intro (And.intro (by first | assumption | exact b2i_R _ | exact rR (by omega) (by omega) | exact rR (by simp only [Int.toNat_natCast]; omega) (by simp only [Int.toNat_natCast]; omega)) (by first | assumption | exact b2i_R _ | exact rR (by omega) (by omega) | exact rR (by simp only [Int.toNat_natCast]; omega) (by simp only [Int.toNat_natCast]; omega))) (And.intro (fun q => ?_) (fun q => ?_))
          · exact kG (by omega)
          · refine hA 6 _ rfl _ _ _ _ _ ?_
            exact kM 1 (by rw [decide_eq_true (by omega)]; rfl)
      · have hP := of_decide_eq_false hbn
        exact pure_no (by unfold sp_group; rw [if_pos hP1, if_neg hP]) GR hI hq9
    have kF : ¬ (0 ≤ g ∧ g < (gu rows : Int)) → At 3 [some (rf 0), some (.inl k), some (.inl g), some (.inl what), some (rf (12 + 2 * k.toNat))] [rf 0] τ1 (0 + 1) (0 + 6) := fun h => by
      refine hA 3 _ rfl _ _ _ _ _ ?_
      exact kN 0 (by rw [decide_eq_false h]; rfl)
    refine And.intro (by first | assumption | exact b2i_R _ | exact rR (by omega) (by omega) | exact rR (by simp only [Int.toNat_natCast]; omega) (by simp only [Int.toNat_natCast]; omega)) (And.intro (fun q => ?_) (fun q => ?_))
    · exact kF (by omega)
    · refine hA 1 _ rfl _ _ _ _ _ ?_
      refine Exists.intro _ (And.intro (by first | assumption | exact st_s | exact st_e (by decide) (by assumption) | exact st_e (by omega) (by assumption) | exact st_e (by decide) st_s | exact st_e (by omega) st_s | exact st_e (by decide) (st_e (by decide) (by assumption)) | exact st_e (by omega) (st_e (by omega) (by assumption))) ?_)
      refine Exists.intro _ (And.intro (by first | assumption | exact st_s | exact st_e (by decide) (by assumption) | exact st_e (by omega) (by assumption) | exact st_e (by decide) st_s | exact st_e (by omega) st_s | exact st_e (by decide) (st_e (by decide) (by assumption)) | exact st_e (by omega) (st_e (by omega) (by assumption))) (And.intro rfl (ab_inv_ev (c_groupsUsed h3 hr) (by first | decide | omega) (by first | exact Nat.le_refl _ | omega) (by first | exact Nat.le_refl _ | omega) ?_)))
      refine And.intro (And.intro (by first | assumption | exact b2i_R _ | exact rR (by omega) (by omega) | exact rR (by simp only [Int.toNat_natCast]; omega) (by simp only [Int.toNat_natCast]; omega)) (by first | assumption | exact b2i_R _ | exact rR (by omega) (by omega) | exact rR (by simp only [Int.toNat_natCast]; omega) (by simp only [Int.toNat_natCast]; omega))) (And.intro (fun q => ?_) (fun q => ?_))
      · exact kF (by omega)
      · refine hA 2 _ rfl _ _ _ _ _ ?_
        exact kN 1 (by rw [decide_eq_true (by omega)]; rfl)
  · have hP1 := of_decide_eq_false hb1
    exact pure_no (by unfold sp_group; rw [if_neg hP1]) GR hI hq9
end Face2
