-- ===== the calls that write what nobody sees: searches, costs =====
theorem hvb (t : Nat → Nat) (h : ∀ p, t p ≤ 20000) : ∀ i, -1 ≤ (hvF t i).2 ∧ (hvF t i).2 ≤ 20000 := by
  intro i
  induction i with
  | zero => exact ⟨show (-1 : Int) ≤ -1 by decide, show (-1 : Int) ≤ 20000 by decide⟩
  | succ i ih =>
    show -1 ≤ (if (hvF t i).2 < t i then (((i + 1 : Nat) : Int), ((t i : Nat) : Int)) else hvF t i).2 ∧ (if (hvF t i).2 < t i then (((i + 1 : Nat) : Int), ((t i : Nat) : Int)) else hvF t i).2 ≤ 20000
    have := h i
    split
    · dsimp only
      omega
    · exact ih
theorem sm_le {f : Nat → Nat} {k : Nat} : ∀ N, (∀ j, j < N → f j ≤ k) → sm f N ≤ N * k := by
  intro N
  induction N with
  | zero => intro _; exact Nat.zero_le _
  | succ N ih =>
    intro h
    show sm f N + f N ≤ _
    have h1 := ih (fun j hj => h j (by omega))
    have h2 := h N (by omega)
    rw [Nat.succ_mul]
    omega
theorem wordsP_le {ρ : Bool} {b : Nat → Nat} {G : Nat → V1} {u : Nat} (hu : u ≤ 100) (hb : ∀ p, 2 ≤ b p ∧ b p ≤ 200) (p : Nat) : wordsP ρ b G u p ≤ 20000 := by
  have h1 := sm_le (k := 100) (nbm ρ b p) (f := fun j => cnt (sw (G (fsp ρ b p + j))) u) (fun j _ => Nat.le_trans (cnt_le _ _) hu)
  have h2 := nbm_le (rg := ρ) hb p
  have h3 := hb p
  have h4 : nbm ρ b p * 100 ≤ 200 * 100 := Nat.mul_le_mul_right 100 (by omega)
  exact Nat.le_trans h1 h4
theorem rdg_le {ρ : Bool} {b : Nat → Nat} (hb : ∀ p, 2 ≤ b p ∧ b p ≤ 200) (v p : Nat) : rdg ρ b v p ≤ 200 := by
  have h1 := dig_lt hb p v
  have h2 := hb p
  unfold rdg
  split
  · split <;> split <;> omega
  · omega
theorem rdK_le {K : Nat → CT} {c : Nat} (h : okb (K c).2.1 (K c).2.2.1 (K c).2.2.2) (v : Nat) : rdK K c v ≤ 1000 := by
  unfold rdK
  split
  · exact Nat.zero_le _
  · have h1 := sm_le (k := 200) (f := rdg (K c).1 (K c).2.2.2 v) (K c).2.2.1 (fun j _ => rdg_le h.2.2.1 v j)
    have h2 := h.2.1
    omega
theorem mxF_le {t : Nat → Nat} {k : Nat} (h : ∀ v, t v ≤ k) : ∀ i, mxF t i ≤ k := by
  intro i
  induction i with
  | zero => exact Nat.zero_le _
  | succ i ih =>
    show max (mxF t i) (t i) ≤ k
    have := h i
    omega
section Face4
variable {σ : ab_H} {cc rows : Nat} {K : Nat → CT} {va : Nat → Nat → Nat} {ad : Nat → Nat} {R : Nat → V1} {f : Nat → Int} {n : Nat} {pl : Int} {c : C3} {r : Nat → Nat}
set_option maxRecDepth 100000 in
set_option maxHeartbeats 1000000 in
theorem f_thrift (hI : CI σ cc rows K va ad R f n pl c r) (card k what : Int) (hcard : ab_R card) (hk : ab_R k) (hwhat : ab_R what) : ab_call 12 4 24 yX9_thrift [rf 0, .inl card, .inl k, .inl what] σ (pureP σ cc rows K va ad R f n pl c r (sp_thrift card k what)) := by
  obtain ⟨h0, ⟨⟨tlen, tat, tst, tk, h1⟩, h2, hby, hn4⟩, ⟨h3, hr, h5, hC, hR, hRr⟩, ⟨⟨e6, h6⟩, ⟨t8, h8⟩, ⟨ar9, h9, h9b⟩, ⟨m10, h10, h10b⟩, mb11, h11⟩, -, -, -, ⟨s53, h53⟩, ⟨g55, h55⟩, ⟨g56, h56, h56a, h56b, h56c⟩, hs⟩ := id hI
  obtain ⟨hcc4, ⟨A, h4, hAd⟩, hcol⟩ := id hC
  have hgu := gu_le hr
  have GR := gr_rf fcA σ
  refine eX9_thrift rfl (fun At hA => ?_)
  have kN : ∀ z : Int, z = b2i (decide ((2 ≤ card ∧ card ≤ 200) ∧ 1 ≤ k ∧ k ≤ 4)) → At 5 [some (rf 0), some (.inl card), some (.inl k), some (.inl what)] [.inl z, rf 0] σ (0) (0) := fun z hz => by
    subst hz
    refine hA 5 _ rfl _ _ _ _ _ ?_
    refine Exists.intro _ (And.intro (by first | assumption | exact st_s | exact st_e (by decide) (by assumption) | exact st_e (by omega) (by assumption) | exact st_e (by decide) st_s | exact st_e (by omega) st_s | exact st_e (by decide) (st_e (by decide) (by assumption)) | exact st_e (by omega) (st_e (by omega) (by assumption))) (And.intro rfl (ab_inv_of (c_needArgument h0 (decide ((2 ≤ card ∧ card ≤ 200) ∧ 1 ≤ k ∧ k ≤ 4))) (by first | decide | omega) (by omega) (by omega) ?_)))
    intro r' τn hpost
    rcases hpost with ⟨hbn, rfl, rfl⟩ | ⟨hbn, rfl, q9, hq9, rfl⟩
    · have hP := of_decide_eq_true hbn
      have kM : ∀ z : Int, z = b2i (decide (0 ≤ what ∧ what ≤ 4)) → At 9 [some (rf 0), some (.inl card), some (.inl k), some (.inl what)] [.inl z, rf 0] τn (0 + 1) (0 + 6) := fun z hz => by
        subst hz
        refine hA 9 _ rfl _ _ _ _ _ ?_
        refine Exists.intro _ (And.intro (by first | assumption | exact st_s | exact st_e (by decide) (by assumption) | exact st_e (by omega) (by assumption) | exact st_e (by decide) st_s | exact st_e (by omega) st_s | exact st_e (by decide) (st_e (by decide) (by assumption)) | exact st_e (by omega) (st_e (by omega) (by assumption))) (And.intro rfl (ab_inv_of (c_needArgument h0 (decide (0 ≤ what ∧ what ≤ 4))) (by first | decide | omega) (by omega) (by omega) ?_)))
        intro r' τm hpost
        rcases hpost with ⟨hbn, rfl, rfl⟩ | ⟨hbn, rfl, q9, hq9, rfl⟩
        · have hPm := of_decide_eq_true hbn
          have hSE : SE0 τm := hI.2.2.2.2.2.2.1
          obtain ⟨⟨sc1, sk1, sb1, sp1, ss1, s50⟩, -, -⟩ := id hSE
          have hfind := c_findBitmaps hSE card.toNat k.toNat (by omega) (by omega) (by omega)
          rw [show ((card.toNat : Nat) : Int) = card by omega, show ((k.toNat : Nat) : Int) = k by omega] at hfind
          refine Exists.intro _ (And.intro (by first | assumption | exact st_s | exact st_e (by decide) (by assumption) | exact st_e (by omega) (by assumption) | exact st_e (by decide) st_s | exact st_e (by omega) st_s | exact st_e (by decide) (st_e (by decide) (by assumption)) | exact st_e (by omega) (st_e (by omega) (by assumption))) ?_)
          refine Exists.intro _ (And.intro (by first | assumption | exact st_s | exact st_e (by decide) (by assumption) | exact st_e (by omega) (by assumption) | exact st_e (by decide) st_s | exact st_e (by omega) st_s | exact st_e (by decide) (st_e (by decide) (by assumption)) | exact st_e (by omega) (st_e (by omega) (by assumption))) (And.intro rfl (ab_inv_of hfind (by first | decide | omega) (by omega) (by omega) ?_)))
          intro r' τ3 hpost
          obtain ⟨rfl, hf3, x3, hS3⟩ := hpost
          have u0 : τ3.2 0 = _ := (hf3.2 0 (by unfold seA; omega)).trans h0
          have hI3 := hI.sea hf3 hS3.z
          have u50 := hS3.1
          have htell := c_tell hS3 what.toNat (by omega)
          rw [show ((what.toNat : Nat) : Int) = what by omega] at htell
          refine Exists.intro _ (And.intro (by first | assumption | exact st_s | exact st_e (by decide) (by assumption) | exact st_e (by omega) (by assumption) | exact st_e (by decide) st_s | exact st_e (by omega) st_s | exact st_e (by decide) (st_e (by decide) (by assumption)) | exact st_e (by omega) (st_e (by omega) (by assumption))) ?_)
          refine Exists.intro _ (And.intro (by first | assumption | exact st_s | exact st_e (by decide) (by assumption) | exact st_e (by omega) (by assumption) | exact st_e (by decide) st_s | exact st_e (by omega) st_s | exact st_e (by decide) (st_e (by decide) (by assumption)) | exact st_e (by omega) (st_e (by omega) (by assumption))) (And.intro rfl (ab_inv_ev htell (by first | decide | omega) (by first | exact Nat.le_refl _ | omega) (by first | exact Nat.le_refl _ | omega) ?_)))
          exact pure_ok (by unfold sp_thrift; rw [if_pos ⟨hP, hPm⟩]) (hf3.mono (fun a ha => by unfold seA at ha; unfold fcA; omega)).gr hI3
        · have hPm := of_decide_eq_false hbn
          exact pure_no (by unfold sp_thrift; rw [if_neg (fun h => hPm h.2)]) GR hI hq9
      have kG : ¬ (0 ≤ what ∧ what ≤ 4) → At 8 [some (rf 0), some (.inl card), some (.inl k), some (.inl what)] [rf 0] τn (0 + 1) (0 + 6) := fun h => by
        refine hA 8 _ rfl _ _ _ _ _ ?_
        exact kM 0 (by rw [decide_eq_false h]; rfl)
      refine And.intro (by first | assumption | exact b2i_R _ | exact rR (by omega) (by omega) | exact rR (by simp only [Int.toNat_natCast]; omega) (by simp only [Int.toNat_natCast]; omega)) (And.intro (fun q => ?_) (fun q => ?_))
      · exact kG (by omega)
      · refine hA 6 _ rfl _ _ _ _ _ ?_
        refine And.intro (And.intro (by first | assumption | exact b2i_R _ | exact rR (by omega) (by omega) | exact rR (by simp only [Int.toNat_natCast]; omega) (by simp only [Int.toNat_natCast]; omega)) (by first | assumption | exact b2i_R _ | exact rR (by omega) (by omega) | exact rR (by simp only [Int.toNat_natCast]; omega) (by simp only [Int.toNat_natCast]; omega))) (And.intro (fun q => ?_) (fun q => ?_))
        · exact kG (by omega)
        · refine hA 7 _ rfl _ _ _ _ _ ?_
          exact kM 1 (by rw [decide_eq_true (by omega)]; rfl)
    · have hP := of_decide_eq_false hbn
      exact pure_no (by unfold sp_thrift; rw [if_neg (fun h => hP h.1)]) GR hI hq9
  have kF : ¬ ((2 ≤ card ∧ card ≤ 200) ∧ 1 ≤ k ∧ k ≤ 4) → At 4 [some (rf 0), some (.inl card), some (.inl k), some (.inl what)] [rf 0] σ (0) (0) := fun h => by
    refine hA 4 _ rfl _ _ _ _ _ ?_
    exact kN 0 (by rw [decide_eq_false h]; rfl)
  refine hA 0 _ rfl _ _ _ _ _ ?_
  refine And.intro rfl (ab_inv_ev (c_isCard card hcard) (by first | decide | omega) (by first | exact Nat.le_refl _ | omega) (by first | exact Nat.le_refl _ | omega) ?_)
  refine And.intro (by first | assumption | exact b2i_R _ | exact rR (by omega) (by omega) | exact rR (by simp only [Int.toNat_natCast]; omega) (by simp only [Int.toNat_natCast]; omega)) (And.intro (fun q => ?_) (fun q => ?_))
  · have q := of_decide_eq_false (b2i_0 q)
    exact kF (fun h => q h.1)
  · have q := of_decide_eq_true (b2i_1 q)
    refine hA 1 _ rfl _ _ _ _ _ ?_
    refine And.intro (And.intro (by first | assumption | exact b2i_R _ | exact rR (by omega) (by omega) | exact rR (by simp only [Int.toNat_natCast]; omega) (by simp only [Int.toNat_natCast]; omega)) (by first | assumption | exact b2i_R _ | exact rR (by omega) (by omega) | exact rR (by simp only [Int.toNat_natCast]; omega) (by simp only [Int.toNat_natCast]; omega))) (And.intro (fun q => ?_) (fun q => ?_))
    · exact kF (by omega)
    · refine hA 2 _ rfl _ _ _ _ _ ?_
      refine And.intro (And.intro (by first | assumption | exact b2i_R _ | exact rR (by omega) (by omega) | exact rR (by simp only [Int.toNat_natCast]; omega) (by simp only [Int.toNat_natCast]; omega)) (by first | assumption | exact b2i_R _ | exact rR (by omega) (by omega) | exact rR (by simp only [Int.toNat_natCast]; omega) (by simp only [Int.toNat_natCast]; omega))) (And.intro (fun q => ?_) (fun q => ?_))
      · exact kF (by omega)
      · refine hA 3 _ rfl _ _ _ _ _ ?_
        exact kN 1 (by rw [decide_eq_true (by omega)]; rfl)
set_option maxRecDepth 100000 in
set_option maxHeartbeats 1000000 in
theorem f_swift (hI : CI σ cc rows K va ad R f n pl c r) (card bud what : Int) (hcard : ab_R card) (hbud : ab_R bud) (hwhat : ab_R what) : ab_call 12 4 24 yX9_swift [rf 0, .inl card, .inl bud, .inl what] σ (pureP σ cc rows K va ad R f n pl c r (sp_swift card bud what)) := by
  obtain ⟨h0, ⟨⟨tlen, tat, tst, tk, h1⟩, h2, hby, hn4⟩, ⟨h3, hr, h5, hC, hR, hRr⟩, ⟨⟨e6, h6⟩, ⟨t8, h8⟩, ⟨ar9, h9, h9b⟩, ⟨m10, h10, h10b⟩, mb11, h11⟩, -, -, -, ⟨s53, h53⟩, ⟨g55, h55⟩, ⟨g56, h56, h56a, h56b, h56c⟩, hs⟩ := id hI
  obtain ⟨hcc4, ⟨A, h4, hAd⟩, hcol⟩ := id hC
  have hgu := gu_le hr
  have GR := gr_rf fcA σ
  refine eX9_swift rfl (fun At hA => ?_)
  have kN : ∀ z : Int, z = b2i (decide ((2 ≤ card ∧ card ≤ 200) ∧ 1 ≤ bud ∧ bud ≤ 24)) → At 5 [some (rf 0), some (.inl card), some (.inl bud), some (.inl what)] [.inl z, rf 0] σ (0) (0) := fun z hz => by
    subst hz
    refine hA 5 _ rfl _ _ _ _ _ ?_
    refine Exists.intro _ (And.intro (by first | assumption | exact st_s | exact st_e (by decide) (by assumption) | exact st_e (by omega) (by assumption) | exact st_e (by decide) st_s | exact st_e (by omega) st_s | exact st_e (by decide) (st_e (by decide) (by assumption)) | exact st_e (by omega) (st_e (by omega) (by assumption))) (And.intro rfl (ab_inv_of (c_needArgument h0 (decide ((2 ≤ card ∧ card ≤ 200) ∧ 1 ≤ bud ∧ bud ≤ 24))) (by first | decide | omega) (by omega) (by omega) ?_)))
    intro r' τn hpost
    rcases hpost with ⟨hbn, rfl, rfl⟩ | ⟨hbn, rfl, q9, hq9, rfl⟩
    · have hP := of_decide_eq_true hbn
      have kM : ∀ z : Int, z = b2i (decide (0 ≤ what ∧ what ≤ 4)) → At 9 [some (rf 0), some (.inl card), some (.inl bud), some (.inl what)] [.inl z, rf 0] τn (0 + 1) (0 + 6) := fun z hz => by
        subst hz
        refine hA 9 _ rfl _ _ _ _ _ ?_
        refine Exists.intro _ (And.intro (by first | assumption | exact st_s | exact st_e (by decide) (by assumption) | exact st_e (by omega) (by assumption) | exact st_e (by decide) st_s | exact st_e (by omega) st_s | exact st_e (by decide) (st_e (by decide) (by assumption)) | exact st_e (by omega) (st_e (by omega) (by assumption))) (And.intro rfl (ab_inv_of (c_needArgument h0 (decide (0 ≤ what ∧ what ≤ 4))) (by first | decide | omega) (by omega) (by omega) ?_)))
        intro r' τm hpost
        rcases hpost with ⟨hbn, rfl, rfl⟩ | ⟨hbn, rfl, q9, hq9, rfl⟩
        · have hPm := of_decide_eq_true hbn
          have hSE : SE0 τm := hI.2.2.2.2.2.2.1
          obtain ⟨⟨sc1, sk1, sb1, sp1, ss1, s50⟩, -, -⟩ := id hSE
          have hfind := c_findReadings hSE card.toNat bud.toNat (by omega) (by omega)
          rw [show ((card.toNat : Nat) : Int) = card by omega, show ((bud.toNat : Nat) : Int) = bud by omega] at hfind
          refine Exists.intro _ (And.intro (by first | assumption | exact st_s | exact st_e (by decide) (by assumption) | exact st_e (by omega) (by assumption) | exact st_e (by decide) st_s | exact st_e (by omega) st_s | exact st_e (by decide) (st_e (by decide) (by assumption)) | exact st_e (by omega) (st_e (by omega) (by assumption))) ?_)
          refine Exists.intro _ (And.intro (by first | assumption | exact st_s | exact st_e (by decide) (by assumption) | exact st_e (by omega) (by assumption) | exact st_e (by decide) st_s | exact st_e (by omega) st_s | exact st_e (by decide) (st_e (by decide) (by assumption)) | exact st_e (by omega) (st_e (by omega) (by assumption))) (And.intro rfl (ab_inv_of hfind (by first | decide | omega) (by omega) (by omega) ?_)))
          intro r' τ3 hpost
          obtain ⟨rfl, hf3, x3, hS3⟩ := hpost
          have u0 : τ3.2 0 = _ := (hf3.2 0 (by unfold seA; omega)).trans h0
          have hI3 := hI.sea hf3 hS3.z
          have u50 := hS3.1
          have htell := c_tell hS3 what.toNat (by omega)
          rw [show ((what.toNat : Nat) : Int) = what by omega] at htell
          refine Exists.intro _ (And.intro (by first | assumption | exact st_s | exact st_e (by decide) (by assumption) | exact st_e (by omega) (by assumption) | exact st_e (by decide) st_s | exact st_e (by omega) st_s | exact st_e (by decide) (st_e (by decide) (by assumption)) | exact st_e (by omega) (st_e (by omega) (by assumption))) ?_)
          refine Exists.intro _ (And.intro (by first | assumption | exact st_s | exact st_e (by decide) (by assumption) | exact st_e (by omega) (by assumption) | exact st_e (by decide) st_s | exact st_e (by omega) st_s | exact st_e (by decide) (st_e (by decide) (by assumption)) | exact st_e (by omega) (st_e (by omega) (by assumption))) (And.intro rfl (ab_inv_ev htell (by first | decide | omega) (by first | exact Nat.le_refl _ | omega) (by first | exact Nat.le_refl _ | omega) ?_)))
          exact pure_ok (by unfold sp_swift; rw [if_pos ⟨hP, hPm⟩]) (hf3.mono (fun a ha => by unfold seA at ha; unfold fcA; omega)).gr hI3
        · have hPm := of_decide_eq_false hbn
          exact pure_no (by unfold sp_swift; rw [if_neg (fun h => hPm h.2)]) GR hI hq9
      have kG : ¬ (0 ≤ what ∧ what ≤ 4) → At 8 [some (rf 0), some (.inl card), some (.inl bud), some (.inl what)] [rf 0] τn (0 + 1) (0 + 6) := fun h => by
        refine hA 8 _ rfl _ _ _ _ _ ?_
        exact kM 0 (by rw [decide_eq_false h]; rfl)
      refine And.intro (by first | assumption | exact b2i_R _ | exact rR (by omega) (by omega) | exact rR (by simp only [Int.toNat_natCast]; omega) (by simp only [Int.toNat_natCast]; omega)) (And.intro (fun q => ?_) (fun q => ?_))
      · exact kG (by omega)
      · refine hA 6 _ rfl _ _ _ _ _ ?_
        refine And.intro (And.intro (by first | assumption | exact b2i_R _ | exact rR (by omega) (by omega) | exact rR (by simp only [Int.toNat_natCast]; omega) (by simp only [Int.toNat_natCast]; omega)) (by first | assumption | exact b2i_R _ | exact rR (by omega) (by omega) | exact rR (by simp only [Int.toNat_natCast]; omega) (by simp only [Int.toNat_natCast]; omega))) (And.intro (fun q => ?_) (fun q => ?_))
        · exact kG (by omega)
        · refine hA 7 _ rfl _ _ _ _ _ ?_
          exact kM 1 (by rw [decide_eq_true (by omega)]; rfl)
    · have hP := of_decide_eq_false hbn
      exact pure_no (by unfold sp_swift; rw [if_neg (fun h => hP h.1)]) GR hI hq9
  have kF : ¬ ((2 ≤ card ∧ card ≤ 200) ∧ 1 ≤ bud ∧ bud ≤ 24) → At 4 [some (rf 0), some (.inl card), some (.inl bud), some (.inl what)] [rf 0] σ (0) (0) := fun h => by
    refine hA 4 _ rfl _ _ _ _ _ ?_
    exact kN 0 (by rw [decide_eq_false h]; rfl)
  refine hA 0 _ rfl _ _ _ _ _ ?_
  refine And.intro rfl (ab_inv_ev (c_isCard card hcard) (by first | decide | omega) (by first | exact Nat.le_refl _ | omega) (by first | exact Nat.le_refl _ | omega) ?_)
  refine And.intro (by first | assumption | exact b2i_R _ | exact rR (by omega) (by omega) | exact rR (by simp only [Int.toNat_natCast]; omega) (by simp only [Int.toNat_natCast]; omega)) (And.intro (fun q => ?_) (fun q => ?_))
  · have q := of_decide_eq_false (b2i_0 q)
    exact kF (fun h => q h.1)
  · have q := of_decide_eq_true (b2i_1 q)
    refine hA 1 _ rfl _ _ _ _ _ ?_
    refine And.intro (And.intro (by first | assumption | exact b2i_R _ | exact rR (by omega) (by omega) | exact rR (by simp only [Int.toNat_natCast]; omega) (by simp only [Int.toNat_natCast]; omega)) (by first | assumption | exact b2i_R _ | exact rR (by omega) (by omega) | exact rR (by simp only [Int.toNat_natCast]; omega) (by simp only [Int.toNat_natCast]; omega))) (And.intro (fun q => ?_) (fun q => ?_))
    · exact kF (by omega)
    · refine hA 2 _ rfl _ _ _ _ _ ?_
      refine And.intro (And.intro (by first | assumption | exact b2i_R _ | exact rR (by omega) (by omega) | exact rR (by simp only [Int.toNat_natCast]; omega) (by simp only [Int.toNat_natCast]; omega)) (by first | assumption | exact b2i_R _ | exact rR (by omega) (by omega) | exact rR (by simp only [Int.toNat_natCast]; omega) (by simp only [Int.toNat_natCast]; omega))) (And.intro (fun q => ?_) (fun q => ?_))
      · exact kF (by omega)
      · refine hA 3 _ rfl _ _ _ _ _ ?_
        exact kN 1 (by rw [decide_eq_true (by omega)]; rfl)
set_option maxRecDepth 100000 in
set_option maxHeartbeats 1000000 in
theorem f_heaviest (hI : CI σ cc rows K va ad R f n pl c r) (k what : Int) (hk : ab_R k) (hwhat : ab_R what) : ab_call 10 4 24 yX9_heaviest [rf 0, .inl k, .inl what] σ (pureP σ cc rows K va ad R f n pl c r (sp_heaviest cc rows K va k what)) := by
  obtain ⟨h0, ⟨⟨tlen, tat, tst, tk, h1⟩, h2, hby, hn4⟩, ⟨h3, hr, h5, hC, hR, hRr⟩, ⟨⟨e6, h6⟩, ⟨t8, h8⟩, ⟨ar9, h9, h9b⟩, ⟨m10, h10, h10b⟩, mb11, h11⟩, -, -, -, ⟨s53, h53⟩, ⟨g55, h55⟩, ⟨g56, h56, h56a, h56b, h56c⟩, hs⟩ := id hI
  obtain ⟨hcc4, ⟨A, h4, hAd⟩, hcol⟩ := id hC
  have hgu := gu_le hr
  have GR := gr_rf fcA σ
  refine eX9_heaviest rfl (fun At hA => ?_)
  refine hA 0 _ rfl _ _ _ _ _ ?_
  refine Exists.intro _ (And.intro (by first | assumption | exact st_s | exact st_e (by decide) (by assumption) | exact st_e (by omega) (by assumption) | exact st_e (by decide) st_s | exact st_e (by omega) st_s | exact st_e (by decide) (st_e (by decide) (by assumption)) | exact st_e (by omega) (st_e (by omega) (by assumption))) (And.intro rfl (ab_inv_of (c_existingColumn h0 h3 hC k hk) (by first | decide | omega) (by omega) (by omega) ?_)))
  intro r' τ1 hpost
  rcases hpost with ⟨hb1, rfl, rfl⟩ | ⟨hb1, rfl, q9, hq9, rfl⟩
  · have hP1 := of_decide_eq_true hb1
    obtain ⟨k1, k2, k3, k4, k5, k6⟩ := hcol k.toNat (by omega)
    have k30 := k3.1
    have hp4 := k1.2.1
    have hwp := fun p hp => c_wordsOfPart k3 k1 p (gu rows) hp hgu
    have hub : ∀ p, (wordsP (K k.toNat).1 (K k.toNat).2.2.2 (cbK K k.toNat (va k.toNat) rows) (gu rows)) p ≤ 20000 := wordsP_le hgu k1.2.2.1
    have kN : ∀ z : Int, z = b2i (decide (0 ≤ what ∧ what ≤ 1)) → At 4 [some (rf 0), some (.inl k), some (.inl what), some (rf (ad k.toNat)), none, none, none, none] [.inl z, rf 0] τ1 (0 + 1) (0 + 6) := fun z hz => by
      subst hz
      refine hA 4 _ rfl _ _ _ _ _ ?_
      refine Exists.intro _ (And.intro (by first | assumption | exact st_s | exact st_e (by decide) (by assumption) | exact st_e (by omega) (by assumption) | exact st_e (by decide) st_s | exact st_e (by omega) st_s | exact st_e (by decide) (st_e (by decide) (by assumption)) | exact st_e (by omega) (st_e (by omega) (by assumption))) (And.intro rfl (ab_inv_of (c_needArgument h0 (decide (0 ≤ what ∧ what ≤ 1))) (by first | decide | omega) (by omega) (by omega) ?_)))
      intro r' τn hpost
      rcases hpost with ⟨hbn, rfl, rfl⟩ | ⟨hbn, rfl, q9, hq9, rfl⟩
      · have hP := of_decide_eq_true hbn
        generalize hT : (wordsP (K k.toNat).1 (K k.toNat).2.2.2 (cbK K k.toNat (va k.toNat) rows) (gu rows)) = t at hwp hub
        have loop : ∀ (m i : Nat) (y7 : Option ab_V), i + m = (K k.toNat).2.2.1 → At 5 [some (rf 0), some (.inl k), some (.inl what), some (rf (ad k.toNat)), some (.inl (hvF t i).2), some (.inl (hvF t i).1), some (.inl i), y7] [] τn (0 + 1 + 1) (0 + 6 + 6) := by
          intro m
          induction m with
          | zero =>
            intro i y7 hi
            have k12 : ∀ z : Int, z = (if what = 0 then (hvF t i).1 else (hvF t i).2) → ∀ L, At 12 L [.inl z] τn (0 + 1 + 1) (0 + 6 + 6) := fun z hz L => by
              subst hz
              refine hA 12 _ rfl _ _ _ _ _ ?_
              refine pure_ok ?_ GR hI
              unfold sp_heaviest
              rw [if_pos hP1, if_pos hP, hT, ← show i = (K k.toNat).2.2.1 by omega]
            refine hA 5 _ rfl _ _ _ _ _ ?_
            refine Exists.intro _ (And.intro (by first | assumption | exact st_s | exact st_e (by decide) (by assumption) | exact st_e (by omega) (by assumption) | exact st_e (by decide) st_s | exact st_e (by omega) st_s | exact st_e (by decide) (st_e (by decide) (by assumption)) | exact st_e (by omega) (st_e (by omega) (by assumption))) ?_)
            refine And.intro (And.intro (by first | assumption | exact b2i_R _ | exact rR (by omega) (by omega) | exact rR (by simp only [Int.toNat_natCast]; omega) (by simp only [Int.toNat_natCast]; omega)) (by first | assumption | exact b2i_R _ | exact rR (by omega) (by omega) | exact rR (by simp only [Int.toNat_natCast]; omega) (by simp only [Int.toNat_natCast]; omega))) (And.intro (fun q => ?_) (fun q => ?_))
            · refine hA 9 _ rfl _ _ _ _ _ ?_
              refine And.intro (by first | assumption | exact b2i_R _ | exact rR (by omega) (by omega) | exact rR (by simp only [Int.toNat_natCast]; omega) (by simp only [Int.toNat_natCast]; omega)) (And.intro (fun q => ?_) (fun q => ?_))
              · refine hA 11 _ rfl _ _ _ _ _ ?_
                exact k12 _ (by rw [if_neg (by omega)]) _
              · refine hA 10 _ rfl _ _ _ _ _ ?_
                exact k12 _ (by rw [if_pos (by omega)]) _
            · omega
          | succ m ih =>
            intro i y7 hi
            have hw := hwp i (by omega)
            have hb := hub i
            have hv := hvb t hub i
            have hs : hvF t (i + 1) = if (hvF t i).2 < t i then (((i + 1 : Nat) : Int), ((t i : Nat) : Int)) else hvF t i := rfl
            have k8 : ∀ (a b : Int) (y : Option ab_V), a = (hvF t (i + 1)).2 → b = (hvF t (i + 1)).1 → At 8 [some (rf 0), some (.inl k), some (.inl what), some (rf (ad k.toNat)), some (.inl a), some (.inl b), some (.inl i), y] [] τn (0 + 1 + 1) (0 + 6 + 6) := fun a b y ha hb => by
              subst ha hb
              refine hA 8 _ rfl _ _ _ _ _ ?_
              exact ih (i + 1) y (by omega)
            refine hA 5 _ rfl _ _ _ _ _ ?_
            refine Exists.intro _ (And.intro (by first | assumption | exact st_s | exact st_e (by decide) (by assumption) | exact st_e (by omega) (by assumption) | exact st_e (by decide) st_s | exact st_e (by omega) st_s | exact st_e (by decide) (st_e (by decide) (by assumption)) | exact st_e (by omega) (st_e (by omega) (by assumption))) ?_)
            refine And.intro (And.intro (by first | assumption | exact b2i_R _ | exact rR (by omega) (by omega) | exact rR (by simp only [Int.toNat_natCast]; omega) (by simp only [Int.toNat_natCast]; omega)) (by first | assumption | exact b2i_R _ | exact rR (by omega) (by omega) | exact rR (by simp only [Int.toNat_natCast]; omega) (by simp only [Int.toNat_natCast]; omega))) (And.intro (fun q => ?_) (fun q => ?_))
            · omega
            · refine hA 6 _ rfl _ _ _ _ _ ?_
              refine Exists.intro _ (And.intro (by first | assumption | exact st_s | exact st_e (by decide) (by assumption) | exact st_e (by omega) (by assumption) | exact st_e (by decide) st_s | exact st_e (by omega) st_s | exact st_e (by decide) (st_e (by decide) (by assumption)) | exact st_e (by omega) (st_e (by omega) (by assumption))) ?_)
              refine Exists.intro _ (And.intro (by first | assumption | exact st_s | exact st_e (by decide) (by assumption) | exact st_e (by omega) (by assumption) | exact st_e (by decide) st_s | exact st_e (by omega) st_s | exact st_e (by decide) (st_e (by decide) (by assumption)) | exact st_e (by omega) (st_e (by omega) (by assumption))) (And.intro rfl (ab_inv_ev (c_groupsUsed h3 hr) (by first | decide | omega) (by first | exact Nat.le_refl _ | omega) (by first | exact Nat.le_refl _ | omega) ?_)))
              refine Exists.intro _ (And.intro (by first | assumption | exact st_s | exact st_e (by decide) (by assumption) | exact st_e (by omega) (by assumption) | exact st_e (by decide) st_s | exact st_e (by omega) st_s | exact st_e (by decide) (st_e (by decide) (by assumption)) | exact st_e (by omega) (st_e (by omega) (by assumption))) (And.intro rfl (ab_inv_ev hw (by first | decide | omega) (by first | exact Nat.le_refl _ | omega) (by first | exact Nat.le_refl _ | omega) ?_)))
              refine And.intro (And.intro (by first | assumption | exact b2i_R _ | exact rR (by omega) (by omega) | exact rR (by simp only [Int.toNat_natCast]; omega) (by simp only [Int.toNat_natCast]; omega)) (by first | assumption | exact b2i_R _ | exact rR (by omega) (by omega) | exact rR (by simp only [Int.toNat_natCast]; omega) (by simp only [Int.toNat_natCast]; omega))) (And.intro (fun q => ?_) (fun q => ?_))
              · exact k8 _ _ _ (by rw [hs, if_neg (by omega)]) (by rw [hs, if_neg (by omega)])
              · refine hA 7 _ rfl _ _ _ _ _ ?_
                exact k8 _ _ _ (by rw [hs, if_pos (by omega)]) (by rw [hs, if_pos (by omega)]; show (i : Int) + 1 = ((i + 1 : Nat) : Int); omega)
        
        exact loop (K k.toNat).2.2.1 0 none (by omega)
      · have hP := of_decide_eq_false hbn
        exact pure_no (by unfold sp_heaviest; rw [if_pos hP1, if_neg hP]) GR hI hq9
    have kF : ¬ (0 ≤ what ∧ what ≤ 1) → At 3 [some (rf 0), some (.inl k), some (.inl what), some (rf (ad k.toNat)), none, none, none, none] [rf 0] τ1 (0 + 1) (0 + 6) := fun h => by
      refine hA 3 _ rfl _ _ _ _ _ ?_
      exact kN 0 (by rw [decide_eq_false h]; rfl)
    refine And.intro (by first | assumption | exact b2i_R _ | exact rR (by omega) (by omega) | exact rR (by simp only [Int.toNat_natCast]; omega) (by simp only [Int.toNat_natCast]; omega)) (And.intro (fun q => ?_) (fun q => ?_))
    · refine hA 2 _ rfl _ _ _ _ _ ?_
      exact kN 1 (by rw [decide_eq_true (by omega)]; rfl)
    · refine hA 1 _ rfl _ _ _ _ _ ?_
      refine And.intro (And.intro (by first | assumption | exact b2i_R _ | exact rR (by omega) (by omega) | exact rR (by simp only [Int.toNat_natCast]; omega) (by simp only [Int.toNat_natCast]; omega)) (by first | assumption | exact b2i_R _ | exact rR (by omega) (by omega) | exact rR (by simp only [Int.toNat_natCast]; omega) (by simp only [Int.toNat_natCast]; omega))) (And.intro (fun q => ?_) (fun q => ?_))
      · exact kF (by omega)
      · refine hA 2 _ rfl _ _ _ _ _ ?_
        exact kN 1 (by rw [decide_eq_true (by omega)]; rfl)
  · have hP1 := of_decide_eq_false hb1
    exact pure_no (by unfold sp_heaviest; rw [if_neg hP1]) GR hI hq9
set_option maxRecDepth 100000 in
set_option maxHeartbeats 1000000 in
theorem f_readings (hI : CI σ cc rows K va ad R f n pl c r) (k what : Int) (hk : ab_R k) (hwhat : ab_R what) : ab_call 10 4 24 yX9_readings [rf 0, .inl k, .inl what] σ (pureP σ cc rows K va ad R f n pl c r (sp_readings cc K k what)) := by
  obtain ⟨h0, ⟨⟨tlen, tat, tst, tk, h1⟩, h2, hby, hn4⟩, ⟨h3, hr, h5, hC, hR, hRr⟩, ⟨⟨e6, h6⟩, ⟨t8, h8⟩, ⟨ar9, h9, h9b⟩, ⟨m10, h10, h10b⟩, mb11, h11⟩, -, -, -, ⟨s53, h53⟩, ⟨g55, h55⟩, ⟨g56, h56, h56a, h56b, h56c⟩, hs⟩ := id hI
  obtain ⟨hcc4, ⟨A, h4, hAd⟩, hcol⟩ := id hC
  have hgu := gu_le hr
  have GR := gr_rf fcA σ
  refine eX9_readings rfl (fun At hA => ?_)
  refine hA 0 _ rfl _ _ _ _ _ ?_
  refine Exists.intro _ (And.intro (by first | assumption | exact st_s | exact st_e (by decide) (by assumption) | exact st_e (by omega) (by assumption) | exact st_e (by decide) st_s | exact st_e (by omega) st_s | exact st_e (by decide) (st_e (by decide) (by assumption)) | exact st_e (by omega) (st_e (by omega) (by assumption))) (And.intro rfl (ab_inv_of (c_existingColumn h0 h3 hC k hk) (by first | decide | omega) (by omega) (by omega) ?_)))
  intro r' τ1 hpost
  rcases hpost with ⟨hb1, rfl, rfl⟩ | ⟨hb1, rfl, q9, hq9, rfl⟩
  · have hP1 := of_decide_eq_true hb1
    obtain ⟨k1, k2, k3, k4, k5, k6⟩ := hcol k.toNat (by omega)
    have k30 := k3.1
    have hcd := k1.2.2.2.2.1
    have kN : ∀ z : Int, z = b2i (decide (0 ≤ what ∧ what ≤ 1)) → At 4 [some (rf 0), some (.inl k), some (.inl what), some (rf (ad k.toNat)), none, none, none, none] [.inl z, rf 0] τ1 (0 + 1) (0 + 6) := fun z hz => by
      subst hz
      refine hA 4 _ rfl _ _ _ _ _ ?_
      refine Exists.intro _ (And.intro (by first | assumption | exact st_s | exact st_e (by decide) (by assumption) | exact st_e (by omega) (by assumption) | exact st_e (by decide) st_s | exact st_e (by omega) st_s | exact st_e (by decide) (st_e (by decide) (by assumption)) | exact st_e (by omega) (st_e (by omega) (by assumption))) (And.intro rfl (ab_inv_of (c_needArgument h0 (decide (0 ≤ what ∧ what ≤ 1))) (by first | decide | omega) (by omega) (by omega) ?_)))
      intro r' τn hpost
      rcases hpost with ⟨hbn, rfl, rfl⟩ | ⟨hbn, rfl, q9, hq9, rfl⟩
      · have hP := of_decide_eq_true hbn
        have loop : ∀ (m i : Nat) (y7 : Option ab_V), i + m = (K k.toNat).2.1 → At 5 [some (rf 0), some (.inl k), some (.inl what), some (rf (ad k.toNat)), some (.inl (sm (rdK K k.toNat) i)), some (.inl (mxF (rdK K k.toNat) i)), some (.inl i), y7] [] τn (0 + 1 + 1) (0 + 6 + 6) := by
          intro m
          induction m with
          | zero =>
            intro i y7 hi
            have hi : i = (K k.toNat).2.1 := by omega
            have k10 : ∀ z : Int, z = (if what = 0 then ((sm (rdK K k.toNat) i : Nat) : Int) else ((mxF (rdK K k.toNat) i : Nat) : Int)) → ∀ L, At 10 L [.inl z] τn (0 + 1 + 1) (0 + 6 + 6) := fun z hz L => by
              subst hz
              refine hA 10 _ rfl _ _ _ _ _ ?_
              refine pure_ok ?_ GR hI
              unfold sp_readings
              rw [if_pos hP1, if_pos hP, ← hi]
            refine hA 5 _ rfl _ _ _ _ _ ?_
            refine Exists.intro _ (And.intro (by first | assumption | exact st_s | exact st_e (by decide) (by assumption) | exact st_e (by omega) (by assumption) | exact st_e (by decide) st_s | exact st_e (by omega) st_s | exact st_e (by decide) (st_e (by decide) (by assumption)) | exact st_e (by omega) (st_e (by omega) (by assumption))) ?_)
            refine And.intro (And.intro (by first | assumption | exact b2i_R _ | exact rR (by omega) (by omega) | exact rR (by simp only [Int.toNat_natCast]; omega) (by simp only [Int.toNat_natCast]; omega)) (by first | assumption | exact b2i_R _ | exact rR (by omega) (by omega) | exact rR (by simp only [Int.toNat_natCast]; omega) (by simp only [Int.toNat_natCast]; omega))) (And.intro (fun q => ?_) (fun q => ?_))
            · refine hA 7 _ rfl _ _ _ _ _ ?_
              refine And.intro (by first | assumption | exact b2i_R _ | exact rR (by omega) (by omega) | exact rR (by simp only [Int.toNat_natCast]; omega) (by simp only [Int.toNat_natCast]; omega)) (And.intro (fun q => ?_) (fun q => ?_))
              · refine hA 9 _ rfl _ _ _ _ _ ?_
                exact k10 _ (by rw [if_neg (by omega)]) _
              · refine hA 8 _ rfl _ _ _ _ _ ?_
                exact k10 _ (by rw [if_pos (by omega)]) _
            · omega
          | succ m ih =>
            intro i y7 hi
            have hb := rdK_le (K := K) (c := k.toNat) k1 i
            have hm := mxF_le (fun v => rdK_le (K := K) (c := k.toNat) k1 v) i
            have hrc := c_readingsUpTo k3 k1 i (by omega)
            refine hA 5 _ rfl _ _ _ _ _ ?_
            refine Exists.intro _ (And.intro (by first | assumption | exact st_s | exact st_e (by decide) (by assumption) | exact st_e (by omega) (by assumption) | exact st_e (by decide) st_s | exact st_e (by omega) st_s | exact st_e (by decide) (st_e (by decide) (by assumption)) | exact st_e (by omega) (st_e (by omega) (by assumption))) ?_)
            refine And.intro (And.intro (by first | assumption | exact b2i_R _ | exact rR (by omega) (by omega) | exact rR (by simp only [Int.toNat_natCast]; omega) (by simp only [Int.toNat_natCast]; omega)) (by first | assumption | exact b2i_R _ | exact rR (by omega) (by omega) | exact rR (by simp only [Int.toNat_natCast]; omega) (by simp only [Int.toNat_natCast]; omega))) (And.intro (fun q => ?_) (fun q => ?_))
            · omega
            · refine hA 6 _ rfl _ _ _ _ _ ?_
              refine Exists.intro _ (And.intro k30 (And.intro rfl (ab_inv_ev hrc (by first | decide | omega) (by first | exact Nat.le_refl _ | omega) (by first | exact Nat.le_refl _ | omega) ?_)))
              refine And.intro ⟨rR (by omega) (by omega), show ab_R ((rdK K k.toNat i : Nat) : Int) from rR (by omega) (by omega), by decide⟩ (And.intro rfl ?_)
              have := ih (i + 1) (some (.inl (rdK K k.toNat i))) (by omega)
              rw [show ((mxF (rdK K k.toNat) (i + 1) : Nat) : Int) = max ((mxF (rdK K k.toNat) i : Nat) : Int) ((rdK K k.toNat i : Nat) : Int) by show ((max (mxF (rdK K k.toNat) i) (rdK K k.toNat i) : Nat) : Int) = _; omega] at this
              exact this
        
        exact loop (K k.toNat).2.1 0 none (by omega)
      · have hP := of_decide_eq_false hbn
        exact pure_no (by unfold sp_readings; rw [if_pos hP1, if_neg hP]) GR hI hq9
    have kF : ¬ (0 ≤ what ∧ what ≤ 1) → At 3 [some (rf 0), some (.inl k), some (.inl what), some (rf (ad k.toNat)), none, none, none, none] [rf 0] τ1 (0 + 1) (0 + 6) := fun h => by
      refine hA 3 _ rfl _ _ _ _ _ ?_
      exact kN 0 (by rw [decide_eq_false h]; rfl)
    refine And.intro (by first | assumption | exact b2i_R _ | exact rR (by omega) (by omega) | exact rR (by simp only [Int.toNat_natCast]; omega) (by simp only [Int.toNat_natCast]; omega)) (And.intro (fun q => ?_) (fun q => ?_))
    · refine hA 2 _ rfl _ _ _ _ _ ?_
      exact kN 1 (by rw [decide_eq_true (by omega)]; rfl)
    · refine hA 1 _ rfl _ _ _ _ _ ?_
      refine And.intro (And.intro (by first | assumption | exact b2i_R _ | exact rR (by omega) (by omega) | exact rR (by simp only [Int.toNat_natCast]; omega) (by simp only [Int.toNat_natCast]; omega)) (by first | assumption | exact b2i_R _ | exact rR (by omega) (by omega) | exact rR (by simp only [Int.toNat_natCast]; omega) (by simp only [Int.toNat_natCast]; omega))) (And.intro (fun q => ?_) (fun q => ?_))
      · exact kF (by omega)
      · refine hA 2 _ rfl _ _ _ _ _ ?_
        exact kN 1 (by rw [decide_eq_true (by omega)]; rfl)
  · have hP1 := of_decide_eq_false hb1
    exact pure_no (by unfold sp_readings; rw [if_neg hP1]) GR hI hq9
set_option maxRecDepth 100000 in
set_option maxHeartbeats 1000000 in
theorem f_foretold (hI : CI σ cc rows K va ad R f n pl c r) (i k x what : Int) (hi : ab_R i) (hk : ab_R k) (hx : ab_R x) (hwhat : ab_R what) : ab_call 10 4 24 yX9_foretold [rf 0, .inl i, .inl k, .inl x, .inl what] σ (pureP σ cc rows K va ad R f n pl c r (sp_foretold cc rows K va R i k x what)) := by
  obtain ⟨h0, ⟨⟨tlen, tat, tst, tk, h1⟩, h2, hby, hn4⟩, ⟨h3, hr, h5, hC, hR, hRr⟩, ⟨⟨e6, h6⟩, ⟨t8, h8⟩, ⟨ar9, h9, h9b⟩, ⟨m10, h10, h10b⟩, mb11, h11⟩, -, -, -, ⟨s53, h53⟩, ⟨g55, h55⟩, ⟨g56, h56, h56a, h56b, h56c⟩, hs⟩ := id hI
  obtain ⟨hcc4, ⟨A, h4, hAd⟩, hcol⟩ := id hC
  have hgu := gu_le hr
  have GR := gr_rf fcA σ
  refine eX9_foretold rfl (fun At hA => ?_)
  refine hA 0 _ rfl _ _ _ _ _ ?_
  refine Exists.intro _ (And.intro (by first | assumption | exact st_s | exact st_e (by decide) (by assumption) | exact st_e (by omega) (by assumption) | exact st_e (by decide) st_s | exact st_e (by omega) st_s | exact st_e (by decide) (st_e (by decide) (by assumption)) | exact st_e (by omega) (st_e (by omega) (by assumption))) (And.intro rfl (ab_inv_of (c_existingColumn h0 h3 hC k hk) (by first | decide | omega) (by omega) (by omega) ?_)))
  intro r' τ1 hpost
  rcases hpost with ⟨hb1, rfl, rfl⟩ | ⟨hb1, rfl, q9, hq9, rfl⟩
  · have hP1 := of_decide_eq_true hb1
    have kN : ∀ z : Int, z = b2i (decide (0 ≤ i ∧ i ≤ 5 ∧ 0 ≤ x ∧ x ≤ 999)) → At 6 [some (rf 0), some (.inl i), some (.inl k), some (.inl x), some (.inl what)] [.inl z, rf 0] τ1 (0 + 1) (0 + 6) := fun z hz => by
      subst hz
      refine hA 6 _ rfl _ _ _ _ _ ?_
      refine Exists.intro _ (And.intro (by first | assumption | exact st_s | exact st_e (by decide) (by assumption) | exact st_e (by omega) (by assumption) | exact st_e (by decide) st_s | exact st_e (by omega) st_s | exact st_e (by decide) (st_e (by decide) (by assumption)) | exact st_e (by omega) (st_e (by omega) (by assumption))) (And.intro rfl (ab_inv_of (c_needArgument h0 (decide (0 ≤ i ∧ i ≤ 5 ∧ 0 ≤ x ∧ x ≤ 999))) (by first | decide | omega) (by omega) (by omega) ?_)))
      intro r' τn hpost
      rcases hpost with ⟨hbn, rfl, rfl⟩ | ⟨hbn, rfl, q9, hq9, rfl⟩
      · have hP := of_decide_eq_true hbn
        have kM : ∀ z : Int, z = b2i (decide (0 ≤ what ∧ what ≤ 2)) → At 10 [some (rf 0), some (.inl i), some (.inl k), some (.inl x), some (.inl what)] [.inl z, rf 0] τn (0 + 1 + 1) (0 + 6 + 6) := fun z hz => by
          subst hz
          refine hA 10 _ rfl _ _ _ _ _ ?_
          refine Exists.intro _ (And.intro (by first | assumption | exact st_s | exact st_e (by decide) (by assumption) | exact st_e (by omega) (by assumption) | exact st_e (by decide) st_s | exact st_e (by omega) st_s | exact st_e (by decide) (st_e (by decide) (by assumption)) | exact st_e (by omega) (st_e (by omega) (by assumption))) (And.intro rfl (ab_inv_of (c_needArgument h0 (decide (0 ≤ what ∧ what ≤ 2))) (by first | decide | omega) (by omega) (by omega) ?_)))
          intro r' τm hpost
          rcases hpost with ⟨hbn, rfl, rfl⟩ | ⟨hbn, rfl, q9, hq9, rfl⟩
          · have hPm := of_decide_eq_true hbn
            have hN := hI.2.2.2.2.1.2.2
            obtain ⟨_, l29⟩ := hN.c29
            have hbc := c_becomeComparison h3 hC hN i.toNat k.toNat (by omega) (by omega) x.toNat (by omega)
            rw [show ((i.toNat : Nat) : Int) = i by omega, show ((k.toNat : Nat) : Int) = k by omega, show ((x.toNat : Nat) : Int) = x by omega] at hbc
            refine Exists.intro _ (And.intro (by first | assumption | exact st_s | exact st_e (by decide) (by assumption) | exact st_e (by omega) (by assumption) | exact st_e (by decide) st_s | exact st_e (by omega) st_s | exact st_e (by decide) (st_e (by decide) (by assumption)) | exact st_e (by omega) (st_e (by omega) (by assumption))) ?_)
            refine Exists.intro _ (And.intro (by first | assumption | exact st_s | exact st_e (by decide) (by assumption) | exact st_e (by omega) (by assumption) | exact st_e (by decide) st_s | exact st_e (by omega) st_s | exact st_e (by decide) (st_e (by decide) (by assumption)) | exact st_e (by omega) (st_e (by omega) (by assumption))) (And.intro rfl (ab_inv_of hbc (by first | decide | omega) (by omega) (by omega) ?_)))
            intro r' τ3 hpost
            obtain ⟨rfl, hf3, hN3⟩ := hpost
            have hX3 := hI.an
            have hX4 : anX τ3 cc rows K va ad R := by
              obtain ⟨a1, a2, a3, a4, a5, a6, a7⟩ := hX3
              have na : ∀ a, a < 29 ∨ 32 < a → ¬ nA a := fun a ha => by unfold nA; omega
              exact ⟨(hf3.2 _ (na _ (by omega))).trans a1, (hf3.2 _ (na _ (by omega))).trans a2, a3, (hf3.2 _ (na _ (by omega))).trans a4, a5.fr hf3 (na _ (by omega)) (fun a ha => na a (by omega)), fun i hi => (a6 i hi).fr hf3 (na _ (by omega)) (na _ (by omega)), (hf3.2 _ (na _ (by omega))).trans a7⟩
            obtain ⟨b1, b2, ⟨g37, b3⟩, ⟨S0, b4⟩, s35, b5⟩ := hI.2.2.2.2.2.1
            have na : ∀ a, a < 29 ∨ 32 < a → ¬ nA a := fun a ha => by unfold nA; omega
            have c3 := (hf3.2 37 (na _ (by omega))).trans b3
            have c4 : sk6 τ3 S0 := fun j hj => (b4 j hj).fr hf3 (na _ (by omega)) (na _ (by omega))
            have c5 := b5.fr hf3 (na _ (by omega)) (na _ (by omega))
            have c33 := hX4.1
            have u0 : τ3.2 0 = _ := (hf3.2 0 (na _ (by omega))).trans h0
            obtain ⟨vv, dd, hlay⟩ := lay_cmp (rows := rows) (K := K) (va := va) (R := R) i.toNat k.toNat x.toNat
            have hwf : wfN cc (cmpN K i.toNat k.toNat x.toNat) 0 1 := by
              have := wfN_cmp (K := K) (i := i.toNat) (l := []) (e := 1) (t := 0) (c := k.toNat) (n := x.toNat) (cc := cc) (by omega) (by omega) (by omega) (hcol k.toNat (by omega)).1.2.2.2.2.1 rfl
              rw [List.append_nil] at this
              exact this
            refine Exists.intro _ (And.intro (by first | assumption | exact st_s | exact st_e (by decide) (by assumption) | exact st_e (by omega) (by assumption) | exact st_e (by decide) st_s | exact st_e (by omega) st_s | exact st_e (by decide) (st_e (by decide) (by assumption)) | exact st_e (by omega) (st_e (by omega) (by assumption))) ?_)
            refine Exists.intro _ (And.intro (by first | assumption | exact st_s | exact st_e (by decide) (by assumption) | exact st_e (by omega) (by assumption) | exact st_e (by decide) st_s | exact st_e (by omega) st_s | exact st_e (by decide) (st_e (by decide) (by assumption)) | exact st_e (by omega) (st_e (by omega) (by assumption))) ?_)
            refine Exists.intro _ (And.intro (by first | assumption | exact st_s | exact st_e (by decide) (by assumption) | exact st_e (by omega) (by assumption) | exact st_e (by decide) st_s | exact st_e (by omega) st_s | exact st_e (by decide) (st_e (by decide) (by assumption)) | exact st_e (by omega) (st_e (by omega) (by assumption))) (And.intro rfl (ab_inv_of (c_answerTo hX4 c3 c4 c5 hN3 hwf (lay_fin hlay)) (by first | decide | omega) (by omega) (by omega) ?_)))
            intro r' τ4 hpost
            obtain ⟨rfl, hf4, ⟨S1, e1, e2⟩, ⟨s1, e3⟩, e4⟩ := hpost
            have nb : ∀ a, a < 35 ∨ 49 < a → ¬ anA a := fun a ha => by unfold anA; omega
            have w0 : τ4.2 0 = _ := (hf4.2 0 (nb _ (by omega))).trans u0
            have w33 := (hf4.2 33 (nb _ (by omega))).trans c33
            obtain ⟨t1, t2, t3⟩ := hI.2.2.2.2.1
            have hfa := (hf3.mono (B := fun a => 26 ≤ a ∧ a ≤ 49) (fun a ha => by unfold nA at ha; omega)).tr (hf4.mono (fun a ha => by unfold anA at ha; omega))
            obtain ⟨p26, q26, g27, t4, t5⟩ := t1
            have hI4 := hI.qa hfa ⟨⟨p26, q26, g27, (hf4.2 _ (nb _ (by omega))).trans ((hf3.2 _ (na _ (by omega))).trans t4), (hf4.2 _ (nb _ (by omega))).trans ((hf3.2 _ (na _ (by omega))).trans t5)⟩, (hf4.2 _ (nb _ (by omega))).trans ((hf3.2 _ (na _ (by omega))).trans t2), (hN3.fr hf4 (fun a h1 h2 => nb a (by omega))).lo (fun h => rfl) (fun h => by cases h)⟩ ⟨w33, (hf4.2 _ (nb _ (by omega))).trans ((hf3.2 _ (na _ (by omega))).trans b2), ⟨_, e4⟩, ⟨S1, e1⟩, s1, e3⟩
            refine Exists.intro _ (And.intro (by first | assumption | exact st_s | exact st_e (by decide) (by assumption) | exact st_e (by omega) (by assumption) | exact st_e (by decide) st_s | exact st_e (by omega) st_s | exact st_e (by decide) (st_e (by decide) (by assumption)) | exact st_e (by omega) (st_e (by omega) (by assumption))) ?_)
            refine Exists.intro _ (And.intro (by first | assumption | exact st_s | exact st_e (by decide) (by assumption) | exact st_e (by omega) (by assumption) | exact st_e (by decide) st_s | exact st_e (by omega) st_s | exact st_e (by decide) (st_e (by decide) (by assumption)) | exact st_e (by omega) (st_e (by omega) (by assumption))) ?_)
            refine Exists.intro _ (Exists.intro _ (And.intro (by first | assumption | exact st_s | exact st_e (by decide) (by assumption) | exact st_e (by omega) (by assumption) | exact st_e (by decide) st_s | exact st_e (by omega) st_s | exact st_e (by decide) (st_e (by decide) (by assumption)) | exact st_e (by omega) (st_e (by omega) (by assumption))) (And.intro (by first | omega | (simp only [Int.toNat_natCast]; omega)) ?_)))
            refine pure_ok ?_ (hfa.mono (fun a ha => by unfold fcA; omega)).gr hI4
            unfold sp_foretold
            rw [if_pos hP1, if_pos ⟨hP, hPm⟩]
            have ew : what = 0 ∨ what = 1 ∨ what = 2 := by omega
            rcases ew with rfl | rfl | rfl <;> rfl
          · have hPm := of_decide_eq_false hbn
            exact pure_no (by unfold sp_foretold; rw [if_pos hP1, if_neg (fun h => hPm h.2)]) GR hI hq9
        have kG : ¬ (0 ≤ what ∧ what ≤ 2) → At 9 [some (rf 0), some (.inl i), some (.inl k), some (.inl x), some (.inl what)] [rf 0] τn (0 + 1 + 1) (0 + 6 + 6) := fun h => by
          refine hA 9 _ rfl _ _ _ _ _ ?_
          exact kM 0 (by rw [decide_eq_false h]; rfl)
        refine And.intro (by first | assumption | exact b2i_R _ | exact rR (by omega) (by omega) | exact rR (by simp only [Int.toNat_natCast]; omega) (by simp only [Int.toNat_natCast]; omega)) (And.intro (fun q => ?_) (fun q => ?_))
        · exact kG (by omega)
        · refine hA 7 _ rfl _ _ _ _ _ ?_
          refine And.intro (And.intro (by first | assumption | exact b2i_R _ | exact rR (by omega) (by omega) | exact rR (by simp only [Int.toNat_natCast]; omega) (by simp only [Int.toNat_natCast]; omega)) (by first | assumption | exact b2i_R _ | exact rR (by omega) (by omega) | exact rR (by simp only [Int.toNat_natCast]; omega) (by simp only [Int.toNat_natCast]; omega))) (And.intro (fun q => ?_) (fun q => ?_))
          · exact kG (by omega)
          · refine hA 8 _ rfl _ _ _ _ _ ?_
            exact kM 1 (by rw [decide_eq_true (by omega)]; rfl)
      · have hP := of_decide_eq_false hbn
        exact pure_no (by unfold sp_foretold; rw [if_pos hP1, if_neg (fun h => hP h.1)]) GR hI hq9
    have kF : ¬ (0 ≤ i ∧ i ≤ 5 ∧ 0 ≤ x ∧ x ≤ 999) → At 5 [some (rf 0), some (.inl i), some (.inl k), some (.inl x), some (.inl what)] [rf 0] τ1 (0 + 1) (0 + 6) := fun h => by
      refine hA 5 _ rfl _ _ _ _ _ ?_
      exact kN 0 (by rw [decide_eq_false h]; rfl)
    refine And.intro (by first | assumption | exact b2i_R _ | exact rR (by omega) (by omega) | exact rR (by simp only [Int.toNat_natCast]; omega) (by simp only [Int.toNat_natCast]; omega)) (And.intro (fun q => ?_) (fun q => ?_))
    · exact kF (by omega)
    · refine hA 1 _ rfl _ _ _ _ _ ?_
      refine And.intro (And.intro (by first | assumption | exact b2i_R _ | exact rR (by omega) (by omega) | exact rR (by simp only [Int.toNat_natCast]; omega) (by simp only [Int.toNat_natCast]; omega)) (by first | assumption | exact b2i_R _ | exact rR (by omega) (by omega) | exact rR (by simp only [Int.toNat_natCast]; omega) (by simp only [Int.toNat_natCast]; omega))) (And.intro (fun q => ?_) (fun q => ?_))
      · exact kF (by omega)
      · refine hA 2 _ rfl _ _ _ _ _ ?_
        refine And.intro (by first | assumption | exact b2i_R _ | exact rR (by omega) (by omega) | exact rR (by simp only [Int.toNat_natCast]; omega) (by simp only [Int.toNat_natCast]; omega)) (And.intro (fun q => ?_) (fun q => ?_))
        · exact kF (by omega)
        · refine hA 3 _ rfl _ _ _ _ _ ?_
          refine And.intro (And.intro (by first | assumption | exact b2i_R _ | exact rR (by omega) (by omega) | exact rR (by simp only [Int.toNat_natCast]; omega) (by simp only [Int.toNat_natCast]; omega)) (by first | assumption | exact b2i_R _ | exact rR (by omega) (by omega) | exact rR (by simp only [Int.toNat_natCast]; omega) (by simp only [Int.toNat_natCast]; omega))) (And.intro (fun q => ?_) (fun q => ?_))
          · exact kF (by omega)
          · refine hA 4 _ rfl _ _ _ _ _ ?_
            exact kN 1 (by rw [decide_eq_true (by omega)]; rfl)
  · have hP1 := of_decide_eq_false hb1
    exact pure_no (by unfold sp_foretold; rw [if_neg hP1]) GR hI hq9
end Face4
