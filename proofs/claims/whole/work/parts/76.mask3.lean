-- ===== the model's calls that ask: words of columns =====
section Mask3
variable {σ : ab_H} {cc rows : Nat} {K : Nat → CT} {va : Nat → Nat → Nat} {R : Nat → V1} {f : Nat → Int} {n : Nat} {pl : Int} {c : C3} {t : Nat → Int} {r : Nat → Nat} {th : Int}
set_option maxRecDepth 100000 in
set_option maxHeartbeats 1000000 in
theorem g_word (hI : MI σ cc rows K va R f n pl c t r th) (k w : Int) (hk : ab_R k) (hw : ab_R w) : ab_call 10 0 0 yX10_word [rf 57, .inl k, .inl w] σ (mdP σ (cc, rows, K, va, R, f, n, pl, c) r (fun i => (i : Int) + 1) (stq (cc, rows, K, va, R, f, n, pl, c) (sp_word rows R k w))) := by
  have q57 := hI.h57
  have hr := hI.hr
  have hcc := hI.hc
  have hgl := gu_le hr
  have hI0 := hI.uth 0
  have hf0 : fr mA σ (ab_st σ 57 (m10 (ab_up t 0 0))) := fr_st (by unfold mA; omega)
  generalize ht0 : ab_up t 0 0 = t0 at hI0 hf0
  generalize hs0 : ab_st σ 57 (m10 t0) = σ0 at hI0 hf0
  have p57 := hI0.h57
  have p58 := hI0.h58
  have p0 := hI0.t0
  have p2 := hI0.t2
  have p12 := hI0.t12
  have p13 := hI0.t13
  refine eX10_word rfl (fun At hA => ?_)
  have gK1 : (0 ≤ k ∧ k ≤ 6) → At 3 [some (rf 57), some (.inl k), some (.inl w), none] [.inl 0, rf 57] σ0 0 0 := fun hP1 => by
    refine hA 3 _ rfl _ _ _ _ _ ?_
    refine Exists.intro _ (And.intro (by first | assumption | exact st_s | exact st_e (by decide) (by assumption) | exact st_e (by omega) (by assumption) | exact st_e (by decide) st_s | exact st_e (by omega) st_s | exact st_e (by decide) (st_e (by decide) (by assumption)) | exact st_e (by omega) (st_e (by omega) (by assumption))) (And.intro rfl (ab_inv_ev (m_bad0 p57 p0 1 0) (by first | decide | omega) (by first | exact Nat.le_refl _ | omega) (by first | exact Nat.le_refl _ | omega) ?_)))
    refine And.intro (by first | assumption | exact b2i_R _ | exact rR (by omega) (by omega) | exact rR (by simp only [Int.toNat_natCast]; omega) (by simp only [Int.toNat_natCast]; omega)) (And.intro (fun q => ?_) (fun q => ?_))
    · obtain ⟨k', rfl⟩ : ∃ m : Nat, k = (m : Int) := ⟨k.toNat, by omega⟩
      have hB := hI0.bmS k'
      have b57 := hB.h57
      have b13 := hB.t13
      have brd := bS_rd hI0 (k := k') (by omega)
      have bhi := hI0.hR (i := k') (by omega)
      have bf := fr_bS (σ := σ0) (R := R) hf0 (by unfold mA; omega) k'
      have hbm := m_bitmap hI0 k' (by omega)
      have b58 := hB.h58
      have hwo := m_words b57 b13 hr brd bhi.1 1 (by omega)
      rw [cnt_wc1] at hwo
      have hcl := cnt_le (sw (R k')) (gu rows)
      have gK2 : (0 ≤ w ∧ w < (cnt (sw (R k')) (gu rows) : Nat)) → At 8 [some (rf 57), some (.inl (k' : Nat)), some (.inl w), some (rf (bA k'))] [.inl 0, rf 57] (bS σ0 R k') 0 0 := fun hP2 => by
        refine hA 8 _ rfl _ _ _ _ _ ?_
        refine Exists.intro _ (And.intro (by first | assumption | exact st_s | exact st_e (by decide) (by assumption) | exact st_e (by omega) (by assumption) | exact st_e (by decide) st_s | exact st_e (by omega) st_s | exact st_e (by decide) (st_e (by decide) (by assumption)) | exact st_e (by omega) (st_e (by omega) (by assumption))) (And.intro rfl (ab_inv_ev (m_bad0 b57 p0 1 0) (by first | decide | omega) (by first | exact Nat.le_refl _ | omega) (by first | exact Nat.le_refl _ | omega) ?_)))
        refine And.intro (by first | assumption | exact b2i_R _ | exact rR (by omega) (by omega) | exact rR (by simp only [Int.toNat_natCast]; omega) (by simp only [Int.toNat_natCast]; omega)) (And.intro (fun q => ?_) (fun q => ?_))
        · obtain ⟨w', rfl⟩ : ∃ m : Nat, w = (m : Int) := ⟨w.toNat, by omega⟩
          refine hA 10 _ rfl _ _ _ _ _ ?_
          refine Exists.intro _ (And.intro (by first | assumption | exact st_s | exact st_e (by decide) (by assumption) | exact st_e (by omega) (by assumption) | exact st_e (by decide) st_s | exact st_e (by omega) st_s | exact st_e (by decide) (st_e (by decide) (by assumption)) | exact st_e (by omega) (st_e (by omega) (by assumption))) (And.intro rfl (ab_inv_ev (m_wordAt b57 b13 hr brd bhi.1 w' (by omega)) (by first | decide | omega) (by first | exact Nat.le_refl _ | omega) (by first | exact Nat.le_refl _ | omega) ?_)))
          exact md_as (by unfold sp_word; rw [if_pos hP1, Int.toNat_natCast, if_pos hP2] <;> rfl) rfl bf hB
        · exact absurd rfl q
      have gF2 : ¬ (0 ≤ w ∧ w < (cnt (sw (R k')) (gu rows) : Nat)) → At 8 [some (rf 57), some (.inl (k' : Nat)), some (.inl w), some (rf (bA k'))] [.inl 1, rf 57] (bS σ0 R k') 0 0 := fun hP2 => by
        refine hA 8 _ rfl _ _ _ _ _ ?_
        refine Exists.intro _ (And.intro (by first | assumption | exact st_s | exact st_e (by decide) (by assumption) | exact st_e (by omega) (by assumption) | exact st_e (by decide) st_s | exact st_e (by omega) st_s | exact st_e (by decide) (st_e (by decide) (by assumption)) | exact st_e (by omega) (st_e (by omega) (by assumption))) (And.intro rfl (ab_inv_ev (m_bad1 b57 p0 b58 1 0 (by decide) (by decide) (by decide)) (by first | decide | omega) (by first | exact Nat.le_refl _ | omega) (by first | exact Nat.le_refl _ | omega) ?_)))
        refine And.intro (by first | assumption | exact b2i_R _ | exact rR (by omega) (by omega) | exact rR (by simp only [Int.toNat_natCast]; omega) (by simp only [Int.toNat_natCast]; omega)) (And.intro (fun q => ?_) (fun q => ?_))
        · exact absurd q (by decide)
        · refine hA 9 _ rfl _ _ _ _ _ ?_
          exact md_no (by unfold sp_word; rw [if_pos hP1, Int.toNat_natCast, if_neg hP2] <;> rfl) bf hB rfl
      have gO2 : ¬ (0 ≤ w ∧ w < (cnt (sw (R k')) (gu rows) : Nat)) → At 6 [some (rf 57), some (.inl (k' : Nat)), some (.inl w), some (rf (bA k'))] [rf 57] (bS σ0 R k') 0 0 := fun h => by
        refine hA 6 _ rfl _ _ _ _ _ ?_
        exact gF2 h
      have gZ2 : (0 ≤ w ∧ w < (cnt (sw (R k')) (gu rows) : Nat)) → At 7 [some (rf 57), some (.inl (k' : Nat)), some (.inl w), some (rf (bA k'))] [rf 57] (bS σ0 R k') 0 0 := fun h => by
        refine hA 7 _ rfl _ _ _ _ _ ?_
        exact gK2 h
      refine hA 5 _ rfl _ _ _ _ _ ?_
      refine Exists.intro _ (And.intro (by first | assumption | exact st_s | exact st_e (by decide) (by assumption) | exact st_e (by omega) (by assumption) | exact st_e (by decide) st_s | exact st_e (by omega) st_s | exact st_e (by decide) (st_e (by decide) (by assumption)) | exact st_e (by omega) (st_e (by omega) (by assumption))) (And.intro rfl (ab_inv_ev hbm (by first | decide | omega) (by first | exact Nat.le_refl _ | omega) (by first | exact Nat.le_refl _ | omega) ?_)))
      refine Exists.intro _ (And.intro (by first | assumption | exact st_s | exact st_e (by decide) (by assumption) | exact st_e (by omega) (by assumption) | exact st_e (by decide) st_s | exact st_e (by omega) st_s | exact st_e (by decide) (st_e (by decide) (by assumption)) | exact st_e (by omega) (st_e (by omega) (by assumption))) (And.intro rfl (ab_inv_ev hwo (by first | decide | omega) (by first | exact Nat.le_refl _ | omega) (by first | exact Nat.le_refl _ | omega) ?_)))
      refine And.intro rfl (ab_inv_ev (m_in w 0 ((cnt (sw (R k')) (gu rows) : Nat) - 1) hw (rR (by omega) (by omega)) (rR (by omega) (by omega))) (by first | decide | omega) (by first | exact Nat.le_refl _ | omega) (by first | exact Nat.le_refl _ | omega) ?_)
      refine And.intro (by first | assumption | exact b2i_R _ | exact rR (by omega) (by omega) | exact rR (by simp only [Int.toNat_natCast]; omega) (by simp only [Int.toNat_natCast]; omega)) (And.intro (fun q => ?_) (fun q => ?_))
      · have q1 := of_decide_eq_true (b2i_1 q)
        exact gZ2 (by omega)
      · exact gO2 (by have q1 := of_decide_eq_false (b2i_0 q); omega)
    · exact absurd rfl q
  have gF1 : ¬ (0 ≤ k ∧ k ≤ 6) → At 3 [some (rf 57), some (.inl k), some (.inl w), none] [.inl 1, rf 57] σ0 0 0 := fun hP1 => by
    refine hA 3 _ rfl _ _ _ _ _ ?_
    refine Exists.intro _ (And.intro (by first | assumption | exact st_s | exact st_e (by decide) (by assumption) | exact st_e (by omega) (by assumption) | exact st_e (by decide) st_s | exact st_e (by omega) st_s | exact st_e (by decide) (st_e (by decide) (by assumption)) | exact st_e (by omega) (st_e (by omega) (by assumption))) (And.intro rfl (ab_inv_ev (m_bad1 p57 p0 p58 1 0 (by decide) (by decide) (by decide)) (by first | decide | omega) (by first | exact Nat.le_refl _ | omega) (by first | exact Nat.le_refl _ | omega) ?_)))
    refine And.intro (by first | assumption | exact b2i_R _ | exact rR (by omega) (by omega) | exact rR (by simp only [Int.toNat_natCast]; omega) (by simp only [Int.toNat_natCast]; omega)) (And.intro (fun q => ?_) (fun q => ?_))
    · exact absurd q (by decide)
    · refine hA 4 _ rfl _ _ _ _ _ ?_
      exact md_no (by unfold sp_word; rw [if_neg hP1] <;> rfl) hf0 hI0 rfl
  have gO1 : ¬ (0 ≤ k ∧ k ≤ 6) → At 1 [some (rf 57), some (.inl k), some (.inl w), none] [rf 57] σ0 0 0 := fun h => by
    refine hA 1 _ rfl _ _ _ _ _ ?_
    exact gF1 h
  have gZ1 : (0 ≤ k ∧ k ≤ 6) → At 2 [some (rf 57), some (.inl k), some (.inl w), none] [rf 57] σ0 0 0 := fun h => by
    refine hA 2 _ rfl _ _ _ _ _ ?_
    exact gK1 h
  refine hA 0 _ rfl _ _ _ _ _ ?_
  refine Exists.intro _ (And.intro (q57) ?_)
  rw [m10_s0, ht0, hs0]
  refine Exists.intro _ (And.intro (by first | assumption | exact st_s | exact st_e (by decide) (by assumption) | exact st_e (by omega) (by assumption) | exact st_e (by decide) st_s | exact st_e (by omega) st_s | exact st_e (by decide) (st_e (by decide) (by assumption)) | exact st_e (by omega) (st_e (by omega) (by assumption))) (And.intro rfl (ab_inv_ev (m_isSet k hk) (by first | decide | omega) (by first | exact Nat.le_refl _ | omega) (by first | exact Nat.le_refl _ | omega) ?_)))
  refine And.intro (by first | assumption | exact b2i_R _ | exact rR (by omega) (by omega) | exact rR (by simp only [Int.toNat_natCast]; omega) (by simp only [Int.toNat_natCast]; omega)) (And.intro (fun q => ?_) (fun q => ?_))
  · have q00 := of_decide_eq_true (b2i_1 q)
    exact gZ1 (by omega)
  · exact gO1 (by have q1 := of_decide_eq_false (b2i_0 q); omega)
set_option maxRecDepth 100000 in
set_option maxHeartbeats 1000000 in
theorem g_index (hI : MI σ cc rows K va R f n pl c t r th) (k p j what : Int) (hk : ab_R k) (hp : ab_R p) (hj : ab_R j) (hwhat : ab_R what) : ab_call 10 0 0 yX10_index [rf 57, .inl k, .inl p, .inl j, .inl what] σ (mdP σ (cc, rows, K, va, R, f, n, pl, c) r (fun i => (i : Int) + 1) (stq (cc, rows, K, va, R, f, n, pl, c) (sp_index cc rows K va k p j what))) := by
  have q57 := hI.h57
  have hr := hI.hr
  have hcc := hI.hc
  have hgl := gu_le hr
  have hI0 := hI.uth 0
  have hf0 : fr mA σ (ab_st σ 57 (m10 (ab_up t 0 0))) := fr_st (by unfold mA; omega)
  generalize ht0 : ab_up t 0 0 = t0 at hI0 hf0
  generalize hs0 : ab_st σ 57 (m10 t0) = σ0 at hI0 hf0
  have p57 := hI0.h57
  have p58 := hI0.h58
  have p0 := hI0.t0
  have p2 := hI0.t2
  have p12 := hI0.t12
  have p13 := hI0.t13
  refine eX10_index rfl (fun At hA => ?_)
  have gK1 : (isBmB cc K k p j = true) → At 3 [some (rf 57), some (.inl k), some (.inl p), some (.inl j), some (.inl what)] [.inl 0, rf 57] σ0 0 0 := fun hP1 => by
    refine hA 3 _ rfl _ _ _ _ _ ?_
    refine Exists.intro _ (And.intro (by first | assumption | exact st_s | exact st_e (by decide) (by assumption) | exact st_e (by omega) (by assumption) | exact st_e (by decide) st_s | exact st_e (by omega) st_s | exact st_e (by decide) (st_e (by decide) (by assumption)) | exact st_e (by omega) (st_e (by omega) (by assumption))) (And.intro rfl (ab_inv_ev (m_bad0 p57 p0 1 0) (by first | decide | omega) (by first | exact Nat.le_refl _ | omega) (by first | exact Nat.le_refl _ | omega) ?_)))
    refine And.intro (by first | assumption | exact b2i_R _ | exact rR (by omega) (by omega) | exact rR (by simp only [Int.toNat_natCast]; omega) (by simp only [Int.toNat_natCast]; omega)) (And.intro (fun q => ?_) (fun q => ?_))
    · exact absurd rfl q
    · have gK2 : (0 ≤ what ∧ what ≤ 5) → At 7 [some (rf 57), some (.inl k), some (.inl p), some (.inl j), some (.inl what)] [.inl 0, rf 57] σ0 0 0 := fun hP2 => by
        refine hA 7 _ rfl _ _ _ _ _ ?_
        refine Exists.intro _ (And.intro (by first | assumption | exact st_s | exact st_e (by decide) (by assumption) | exact st_e (by omega) (by assumption) | exact st_e (by decide) st_s | exact st_e (by omega) st_s | exact st_e (by decide) (st_e (by decide) (by assumption)) | exact st_e (by omega) (st_e (by omega) (by assumption))) (And.intro rfl (ab_inv_ev (m_bad0 p57 p0 2 1) (by first | decide | omega) (by first | exact Nat.le_refl _ | omega) (by first | exact Nat.le_refl _ | omega) ?_)))
        refine And.intro (by first | assumption | exact b2i_R _ | exact rR (by omega) (by omega) | exact rR (by simp only [Int.toNat_natCast]; omega) (by simp only [Int.toNat_natCast]; omega)) (And.intro (fun q => ?_) (fun q => ?_))
        · have hBm := hP1
          rw [isBm_B] at hBm
          unfold isBm at hBm
          obtain ⟨hb1, hb2, hb3⟩ := hBm
          obtain ⟨k', rfl⟩ : ∃ m : Nat, k = (m : Int) := ⟨k.toNat, by omega⟩
          obtain ⟨p', rfl⟩ : ∃ m : Nat, p = ((m + 1 : Nat) : Int) := ⟨p.toNat - 1, by omega⟩
          obtain ⟨j', rfl⟩ : ∃ m : Nat, j = (m : Int) := ⟨j.toNat, by omega⟩
          have hK := hI0.k (k := k') (by omega)
          have hV := hI0.v (k := k') (by omega)
          have ep : (((p' + 1 : Nat) : Int) - 1).toNat = p' := by omega
          rw [Int.toNat_natCast] at hb2
          rw [Int.toNat_natCast, ep] at hb3
          have ob := hK.2.1
          have hnb := nbm_le (rg := (K k').1) ob.2.2.1 p'
          have hnb2 := ob.2.2.1 p'
          obtain ⟨o, ho⟩ := hI0.sc.bm (a := 313) (by omega) (by omega)
          have hL := m_laysBitmap p57 p13 hr hK hV p' (by omega) j' (by omega) (h := 313) (by omega) ho
          have hbe : mk (prd (K k').1 (K k').2.2.2 p' (va k') rows j') = bmOf rows K va (k' : Nat) ((p' + 1 : Nat) : Int) (j' : Nat) := by
            unfold bmOf
            rw [Int.toNat_natCast, Int.toNat_natCast, ep]
            exact (cbm_eq (by have := ob.2.1; omega) (by omega)).symm
          rw [hbe] at hL
          have jhi : hi0 rows (bmOf rows K va (k' : Nat) ((p' + 1 : Nat) : Int) (j' : Nat)) := by
            rw [← hbe]
            exact ⟨fun i => mk_lt _ i, fun x hx => by rw [bit_mk]; unfold prd; rw [decide_eq_false (by omega)]; rfl⟩
          have hJI := hI0.st (a := 313) (x := bmc (bmOf rows K va (k' : Nat) ((p' + 1 : Nat) : Int) (j' : Nat))) (by omega) (by omega) (shp_bm (by omega) (by omega))
          have j57 := hJI.h57
          have j13 := hJI.t13
          have jf : fr mA σ (ab_st σ0 313 (bmc (bmOf rows K va (k' : Nat) ((p' + 1 : Nat) : Int) (j' : Nat)))) := hf0.st (by unfold mA; omega)
          obtain ⟨what', rfl⟩ : ∃ m : Nat, what = (m : Int) := ⟨what.toNat, by omega⟩
          refine hA 9 _ rfl _ _ _ _ _ ?_
          refine Exists.intro _ (And.intro (by first | assumption | exact st_s | exact st_e (by decide) (by assumption) | exact st_e (by omega) (by assumption) | exact st_e (by decide) st_s | exact st_e (by omega) st_s | exact st_e (by decide) (st_e (by decide) (by assumption)) | exact st_e (by omega) (st_e (by omega) (by assumption))) ?_)
          refine Exists.intro _ (And.intro (by first | assumption | exact st_s | exact st_e (by decide) (by assumption) | exact st_e (by omega) (by assumption) | exact st_e (by decide) st_s | exact st_e (by omega) st_s | exact st_e (by decide) (st_e (by decide) (by assumption)) | exact st_e (by omega) (st_e (by omega) (by assumption))) (And.intro rfl (ab_inv_ev hL (by first | decide | omega) (by first | exact Nat.le_refl _ | omega) (by first | exact Nat.le_refl _ | omega) ?_)))
          refine Exists.intro _ (And.intro (by first | assumption | exact st_s | exact st_e (by decide) (by assumption) | exact st_e (by omega) (by assumption) | exact st_e (by decide) st_s | exact st_e (by omega) st_s | exact st_e (by decide) (st_e (by decide) (by assumption)) | exact st_e (by omega) (st_e (by omega) (by assumption))) ?_)
          refine Exists.intro _ (And.intro (by first | assumption | exact st_s | exact st_e (by decide) (by assumption) | exact st_e (by omega) (by assumption) | exact st_e (by decide) st_s | exact st_e (by omega) st_s | exact st_e (by decide) (st_e (by decide) (by assumption)) | exact st_e (by omega) (st_e (by omega) (by assumption))) (And.intro rfl (ab_inv_ev (m_of (h := 313) j57 j13 hr st_s jhi what' (by omega)) (by first | decide | omega) (by first | exact Nat.le_refl _ | omega) (by first | exact Nat.le_refl _ | omega) ?_)))
          exact md_as (by unfold sp_index; rw [if_pos hP1, if_pos hP2] <;> rfl) rfl jf hJI
        · exact absurd rfl q
      have gF2 : ¬ (0 ≤ what ∧ what ≤ 5) → At 7 [some (rf 57), some (.inl k), some (.inl p), some (.inl j), some (.inl what)] [.inl 1, rf 57] σ0 0 0 := fun hP2 => by
        refine hA 7 _ rfl _ _ _ _ _ ?_
        refine Exists.intro _ (And.intro (by first | assumption | exact st_s | exact st_e (by decide) (by assumption) | exact st_e (by omega) (by assumption) | exact st_e (by decide) st_s | exact st_e (by omega) st_s | exact st_e (by decide) (st_e (by decide) (by assumption)) | exact st_e (by omega) (st_e (by omega) (by assumption))) (And.intro rfl (ab_inv_ev (m_bad1 p57 p0 p58 2 1 (by decide) (by decide) (by decide)) (by first | decide | omega) (by first | exact Nat.le_refl _ | omega) (by first | exact Nat.le_refl _ | omega) ?_)))
        refine And.intro (by first | assumption | exact b2i_R _ | exact rR (by omega) (by omega) | exact rR (by simp only [Int.toNat_natCast]; omega) (by simp only [Int.toNat_natCast]; omega)) (And.intro (fun q => ?_) (fun q => ?_))
        · exact absurd q (by decide)
        · refine hA 8 _ rfl _ _ _ _ _ ?_
          exact md_no (by unfold sp_index; rw [if_pos hP1, if_neg hP2] <;> rfl) hf0 hI0 rfl
      have gO2 : ¬ (0 ≤ what ∧ what ≤ 5) → At 5 [some (rf 57), some (.inl k), some (.inl p), some (.inl j), some (.inl what)] [rf 57] σ0 0 0 := fun h => by
        refine hA 5 _ rfl _ _ _ _ _ ?_
        exact gF2 h
      have gZ2 : (0 ≤ what ∧ what ≤ 5) → At 6 [some (rf 57), some (.inl k), some (.inl p), some (.inl j), some (.inl what)] [rf 57] σ0 0 0 := fun h => by
        refine hA 6 _ rfl _ _ _ _ _ ?_
        exact gK2 h
      refine hA 4 _ rfl _ _ _ _ _ ?_
      refine And.intro rfl (ab_inv_ev (m_in what 0 5 hwhat (rR (by omega) (by omega)) (rR (by omega) (by omega))) (by first | decide | omega) (by first | exact Nat.le_refl _ | omega) (by first | exact Nat.le_refl _ | omega) ?_)
      refine And.intro (by first | assumption | exact b2i_R _ | exact rR (by omega) (by omega) | exact rR (by simp only [Int.toNat_natCast]; omega) (by simp only [Int.toNat_natCast]; omega)) (And.intro (fun q => ?_) (fun q => ?_))
      · have q10 := of_decide_eq_true (b2i_1 q)
        exact gZ2 (by omega)
      · exact gO2 (by have q1 := of_decide_eq_false (b2i_0 q); omega)
  have gF1 : ¬ (isBmB cc K k p j = true) → At 3 [some (rf 57), some (.inl k), some (.inl p), some (.inl j), some (.inl what)] [.inl 1, rf 57] σ0 0 0 := fun hP1 => by
    refine hA 3 _ rfl _ _ _ _ _ ?_
    refine Exists.intro _ (And.intro (by first | assumption | exact st_s | exact st_e (by decide) (by assumption) | exact st_e (by omega) (by assumption) | exact st_e (by decide) st_s | exact st_e (by omega) st_s | exact st_e (by decide) (st_e (by decide) (by assumption)) | exact st_e (by omega) (st_e (by omega) (by assumption))) (And.intro rfl (ab_inv_ev (m_bad1 p57 p0 p58 1 0 (by decide) (by decide) (by decide)) (by first | decide | omega) (by first | exact Nat.le_refl _ | omega) (by first | exact Nat.le_refl _ | omega) ?_)))
    refine And.intro (by first | assumption | exact b2i_R _ | exact rR (by omega) (by omega) | exact rR (by simp only [Int.toNat_natCast]; omega) (by simp only [Int.toNat_natCast]; omega)) (And.intro (fun q => ?_) (fun q => ?_))
    · refine hA 8 _ rfl _ _ _ _ _ ?_
      exact md_no (by unfold sp_index; rw [if_neg hP1] <;> rfl) hf0 hI0 rfl
    · exact absurd q (by decide)
  have gO1 : ¬ (isBmB cc K k p j = true) → At 1 [some (rf 57), some (.inl k), some (.inl p), some (.inl j), some (.inl what)] [rf 57] σ0 0 0 := fun h => by
    refine hA 1 _ rfl _ _ _ _ _ ?_
    exact gF1 h
  have gZ1 : (isBmB cc K k p j = true) → At 2 [some (rf 57), some (.inl k), some (.inl p), some (.inl j), some (.inl what)] [rf 57] σ0 0 0 := fun h => by
    refine hA 2 _ rfl _ _ _ _ _ ?_
    exact gK1 h
  refine hA 0 _ rfl _ _ _ _ _ ?_
  refine Exists.intro _ (And.intro (q57) ?_)
  rw [m10_s0, ht0, hs0]
  refine Exists.intro _ (And.intro (by first | assumption | exact st_s | exact st_e (by decide) (by assumption) | exact st_e (by omega) (by assumption) | exact st_e (by decide) st_s | exact st_e (by omega) st_s | exact st_e (by decide) (st_e (by decide) (by assumption)) | exact st_e (by omega) (st_e (by omega) (by assumption))) (And.intro rfl (ab_inv_ev (m_isBitmap hI0 k p j hk hp hj) (by first | decide | omega) (by first | exact Nat.le_refl _ | omega) (by first | exact Nat.le_refl _ | omega) ?_)))
  refine And.intro (by first | assumption | exact b2i_R _ | exact rR (by omega) (by omega) | exact rR (by simp only [Int.toNat_natCast]; omega) (by simp only [Int.toNat_natCast]; omega)) (And.intro (fun q => ?_) (fun q => ?_))
  · have q1 := b2i_1 q
    exact gZ1 (q1)
  · exact gO1 (by rw [b2i_0 q]; exact Bool.false_ne_true)
set_option maxRecDepth 100000 in
set_option maxHeartbeats 1000000 in
theorem g_indexWord (hI : MI σ cc rows K va R f n pl c t r th) (k p j w : Int) (hk : ab_R k) (hp : ab_R p) (hj : ab_R j) (hw : ab_R w) : ab_call 10 0 0 yX10_indexWord [rf 57, .inl k, .inl p, .inl j, .inl w] σ (mdP σ (cc, rows, K, va, R, f, n, pl, c) r (fun i => (i : Int) + 1) (stq (cc, rows, K, va, R, f, n, pl, c) (sp_indexWord cc rows K va k p j w))) := by
  have q57 := hI.h57
  have hr := hI.hr
  have hcc := hI.hc
  have hgl := gu_le hr
  have hI0 := hI.uth 0
  have hf0 : fr mA σ (ab_st σ 57 (m10 (ab_up t 0 0))) := fr_st (by unfold mA; omega)
  generalize ht0 : ab_up t 0 0 = t0 at hI0 hf0
  generalize hs0 : ab_st σ 57 (m10 t0) = σ0 at hI0 hf0
  have p57 := hI0.h57
  have p58 := hI0.h58
  have p0 := hI0.t0
  have p2 := hI0.t2
  have p12 := hI0.t12
  have p13 := hI0.t13
  refine eX10_indexWord rfl (fun At hA => ?_)
  cases hbm : isBmB cc K k p j with
  | false =>
    have hP1 : ¬ isBmB cc K k p j = true := by rw [hbm]; exact Bool.false_ne_true
    have hib := m_isBitmap hI0 k p j hk hp hj
    rw [hbm] at hib
    refine hA 0 _ rfl _ _ _ _ _ ?_
    refine Exists.intro _ (And.intro (q57) ?_)
    rw [m10_s0, ht0, hs0]
    refine Exists.intro _ (And.intro (by first | assumption | exact st_s | exact st_e (by decide) (by assumption) | exact st_e (by omega) (by assumption) | exact st_e (by decide) st_s | exact st_e (by omega) st_s | exact st_e (by decide) (st_e (by decide) (by assumption)) | exact st_e (by omega) (st_e (by omega) (by assumption))) (And.intro rfl (ab_inv_ev hib (by first | decide | omega) (by first | exact Nat.le_refl _ | omega) (by first | exact Nat.le_refl _ | omega) ?_)))
    refine And.intro (by first | assumption | exact b2i_R _ | exact rR (by omega) (by omega) | exact rR (by simp only [Int.toNat_natCast]; omega) (by simp only [Int.toNat_natCast]; omega)) (And.intro (fun q => ?_) (fun q => ?_))
    · refine hA 2 _ rfl _ _ _ _ _ ?_
      refine And.intro (by first | assumption | exact b2i_R _ | exact rR (by omega) (by omega) | exact rR (by simp only [Int.toNat_natCast]; omega) (by simp only [Int.toNat_natCast]; omega)) (And.intro (fun q => ?_) (fun q => ?_))
      · refine hA 4 _ rfl _ _ _ _ _ ?_
        refine hA 6 _ rfl _ _ _ _ _ ?_
        refine Exists.intro _ (And.intro (by first | assumption | exact st_s | exact st_e (by decide) (by assumption) | exact st_e (by omega) (by assumption) | exact st_e (by decide) st_s | exact st_e (by omega) st_s | exact st_e (by decide) (st_e (by decide) (by assumption)) | exact st_e (by omega) (st_e (by omega) (by assumption))) (And.intro rfl (ab_inv_ev (m_bad1 p57 p0 p58 1 0 (by decide) (by decide) (by decide)) (by first | decide | omega) (by first | exact Nat.le_refl _ | omega) (by first | exact Nat.le_refl _ | omega) ?_)))
        refine And.intro (by first | assumption | exact b2i_R _ | exact rR (by omega) (by omega) | exact rR (by simp only [Int.toNat_natCast]; omega) (by simp only [Int.toNat_natCast]; omega)) (And.intro (fun q => ?_) (fun q => ?_))
        · exact absurd q (by decide)
        · refine hA 7 _ rfl _ _ _ _ _ ?_
          exact md_no (by unfold sp_indexWord; rw [if_neg hP1] <;> rfl) hf0 hI0 rfl
      · exact absurd rfl q
    · exact absurd q (by decide)
  | true =>
    have hP1 : isBmB cc K k p j = true := hbm
    have hib := m_isBitmap hI0 k p j hk hp hj
    rw [hbm] at hib
    have hBm := hP1
    rw [isBm_B] at hBm
    unfold isBm at hBm
    obtain ⟨hb1, hb2, hb3⟩ := hBm
    obtain ⟨k', rfl⟩ : ∃ m : Nat, k = (m : Int) := ⟨k.toNat, by omega⟩
    obtain ⟨p', rfl⟩ : ∃ m : Nat, p = ((m + 1 : Nat) : Int) := ⟨p.toNat - 1, by omega⟩
    obtain ⟨j', rfl⟩ : ∃ m : Nat, j = (m : Int) := ⟨j.toNat, by omega⟩
    have hK := hI0.k (k := k') (by omega)
    have hV := hI0.v (k := k') (by omega)
    have ep : (((p' + 1 : Nat) : Int) - 1).toNat = p' := by omega
    rw [Int.toNat_natCast] at hb2
    rw [Int.toNat_natCast, ep] at hb3
    have ob := hK.2.1
    have hnb := nbm_le (rg := (K k').1) ob.2.2.1 p'
    have hnb2 := ob.2.2.1 p'
    obtain ⟨o, ho⟩ := hI0.sc.bm (a := 313) (by omega) (by omega)
    have hL := m_laysBitmap p57 p13 hr hK hV p' (by omega) j' (by omega) (h := 313) (by omega) ho
    have hbe : mk (prd (K k').1 (K k').2.2.2 p' (va k') rows j') = bmOf rows K va (k' : Nat) ((p' + 1 : Nat) : Int) (j' : Nat) := by
      unfold bmOf
      rw [Int.toNat_natCast, Int.toNat_natCast, ep]
      exact (cbm_eq (by have := ob.2.1; omega) (by omega)).symm
    rw [hbe] at hL
    have jhi : hi0 rows (bmOf rows K va (k' : Nat) ((p' + 1 : Nat) : Int) (j' : Nat)) := by
      rw [← hbe]
      exact ⟨fun i => mk_lt _ i, fun x hx => by rw [bit_mk]; unfold prd; rw [decide_eq_false (by omega)]; rfl⟩
    have hJI := hI0.st (a := 313) (x := bmc (bmOf rows K va (k' : Nat) ((p' + 1 : Nat) : Int) (j' : Nat))) (by omega) (by omega) (shp_bm (by omega) (by omega))
    have j57 := hJI.h57
    have j13 := hJI.t13
    have jf : fr mA σ (ab_st σ0 313 (bmc (bmOf rows K va (k' : Nat) ((p' + 1 : Nat) : Int) (j' : Nat)))) := hf0.st (by unfold mA; omega)
    have j58 := hJI.h58
    have hwo := m_words (h := 313) j57 j13 hr st_s jhi.1 1 (by omega)
    rw [cnt_wc1] at hwo
    have hcl := cnt_le (sw (bmOf rows K va (k' : Nat) ((p' + 1 : Nat) : Int) (j' : Nat))) (gu rows)
    refine hA 0 _ rfl _ _ _ _ _ ?_
    refine Exists.intro _ (And.intro (q57) ?_)
    rw [m10_s0, ht0, hs0]
    refine Exists.intro _ (And.intro (by first | assumption | exact st_s | exact st_e (by decide) (by assumption) | exact st_e (by omega) (by assumption) | exact st_e (by decide) st_s | exact st_e (by omega) st_s | exact st_e (by decide) (st_e (by decide) (by assumption)) | exact st_e (by omega) (st_e (by omega) (by assumption))) (And.intro rfl (ab_inv_ev hib (by first | decide | omega) (by first | exact Nat.le_refl _ | omega) (by first | exact Nat.le_refl _ | omega) ?_)))
    refine And.intro (by first | assumption | exact b2i_R _ | exact rR (by omega) (by omega) | exact rR (by simp only [Int.toNat_natCast]; omega) (by simp only [Int.toNat_natCast]; omega)) (And.intro (fun q => ?_) (fun q => ?_))
    · exact absurd q (by decide)
    · refine hA 1 _ rfl _ _ _ _ _ ?_
      refine Exists.intro _ (And.intro (by first | assumption | exact st_s | exact st_e (by decide) (by assumption) | exact st_e (by omega) (by assumption) | exact st_e (by decide) st_s | exact st_e (by omega) st_s | exact st_e (by decide) (st_e (by decide) (by assumption)) | exact st_e (by omega) (st_e (by omega) (by assumption))) ?_)
      refine Exists.intro _ (And.intro (by first | assumption | exact st_s | exact st_e (by decide) (by assumption) | exact st_e (by omega) (by assumption) | exact st_e (by decide) st_s | exact st_e (by omega) st_s | exact st_e (by decide) (st_e (by decide) (by assumption)) | exact st_e (by omega) (st_e (by omega) (by assumption))) (And.intro rfl (ab_inv_ev hL (by first | decide | omega) (by first | exact Nat.le_refl _ | omega) (by first | exact Nat.le_refl _ | omega) ?_)))
      refine hA 2 _ rfl _ _ _ _ _ ?_
      refine And.intro (by first | assumption | exact b2i_R _ | exact rR (by omega) (by omega) | exact rR (by simp only [Int.toNat_natCast]; omega) (by simp only [Int.toNat_natCast]; omega)) (And.intro (fun q => ?_) (fun q => ?_))
      · exact absurd q (by decide)
      · have gK2 : (0 ≤ w ∧ w < (cnt (sw (bmOf rows K va (k' : Nat) ((p' + 1 : Nat) : Int) (j' : Nat))) (gu rows) : Nat)) → At 6 [some (rf 57), some (.inl (k' : Nat)), some (.inl ((p' + 1 : Nat) : Int)), some (.inl (j' : Nat)), some (.inl w), some (.inl 1)] [.inl 0, rf 57] (ab_st σ0 313 (bmc (bmOf rows K va (k' : Nat) ((p' + 1 : Nat) : Int) (j' : Nat)))) 0 0 := fun hP2 => by
          refine hA 6 _ rfl _ _ _ _ _ ?_
          refine Exists.intro _ (And.intro (by first | assumption | exact st_s | exact st_e (by decide) (by assumption) | exact st_e (by omega) (by assumption) | exact st_e (by decide) st_s | exact st_e (by omega) st_s | exact st_e (by decide) (st_e (by decide) (by assumption)) | exact st_e (by omega) (st_e (by omega) (by assumption))) (And.intro rfl (ab_inv_ev (m_bad0 j57 p0 1 0) (by first | decide | omega) (by first | exact Nat.le_refl _ | omega) (by first | exact Nat.le_refl _ | omega) ?_)))
          refine And.intro (by first | assumption | exact b2i_R _ | exact rR (by omega) (by omega) | exact rR (by simp only [Int.toNat_natCast]; omega) (by simp only [Int.toNat_natCast]; omega)) (And.intro (fun q => ?_) (fun q => ?_))
          · obtain ⟨w', rfl⟩ : ∃ m : Nat, w = (m : Int) := ⟨w.toNat, by omega⟩
            refine hA 8 _ rfl _ _ _ _ _ ?_
            refine Exists.intro _ (And.intro (by first | assumption | exact st_s | exact st_e (by decide) (by assumption) | exact st_e (by omega) (by assumption) | exact st_e (by decide) st_s | exact st_e (by omega) st_s | exact st_e (by decide) (st_e (by decide) (by assumption)) | exact st_e (by omega) (st_e (by omega) (by assumption))) ?_)
            refine Exists.intro _ (And.intro (by first | assumption | exact st_s | exact st_e (by decide) (by assumption) | exact st_e (by omega) (by assumption) | exact st_e (by decide) st_s | exact st_e (by omega) st_s | exact st_e (by decide) (st_e (by decide) (by assumption)) | exact st_e (by omega) (st_e (by omega) (by assumption))) (And.intro rfl (ab_inv_ev (m_wordAt (h := 313) j57 j13 hr st_s jhi.1 w' (by omega)) (by first | decide | omega) (by first | exact Nat.le_refl _ | omega) (by first | exact Nat.le_refl _ | omega) ?_)))
            exact md_as (by unfold sp_indexWord; rw [if_pos hP1, if_pos hP2] <;> rfl) rfl jf hJI
          · exact absurd rfl q
        have gF2 : ¬ (0 ≤ w ∧ w < (cnt (sw (bmOf rows K va (k' : Nat) ((p' + 1 : Nat) : Int) (j' : Nat))) (gu rows) : Nat)) → At 6 [some (rf 57), some (.inl (k' : Nat)), some (.inl ((p' + 1 : Nat) : Int)), some (.inl (j' : Nat)), some (.inl w), some (.inl 1)] [.inl 1, rf 57] (ab_st σ0 313 (bmc (bmOf rows K va (k' : Nat) ((p' + 1 : Nat) : Int) (j' : Nat)))) 0 0 := fun hP2 => by
          refine hA 6 _ rfl _ _ _ _ _ ?_
          refine Exists.intro _ (And.intro (by first | assumption | exact st_s | exact st_e (by decide) (by assumption) | exact st_e (by omega) (by assumption) | exact st_e (by decide) st_s | exact st_e (by omega) st_s | exact st_e (by decide) (st_e (by decide) (by assumption)) | exact st_e (by omega) (st_e (by omega) (by assumption))) (And.intro rfl (ab_inv_ev (m_bad1 j57 p0 j58 1 0 (by decide) (by decide) (by decide)) (by first | decide | omega) (by first | exact Nat.le_refl _ | omega) (by first | exact Nat.le_refl _ | omega) ?_)))
          refine And.intro (by first | assumption | exact b2i_R _ | exact rR (by omega) (by omega) | exact rR (by simp only [Int.toNat_natCast]; omega) (by simp only [Int.toNat_natCast]; omega)) (And.intro (fun q => ?_) (fun q => ?_))
          · exact absurd q (by decide)
          · refine hA 7 _ rfl _ _ _ _ _ ?_
            exact md_no (by unfold sp_indexWord; rw [if_pos hP1, if_neg hP2] <;> rfl) jf hJI rfl
        have gO2 : ¬ (0 ≤ w ∧ w < (cnt (sw (bmOf rows K va (k' : Nat) ((p' + 1 : Nat) : Int) (j' : Nat))) (gu rows) : Nat)) → At 4 [some (rf 57), some (.inl (k' : Nat)), some (.inl ((p' + 1 : Nat) : Int)), some (.inl (j' : Nat)), some (.inl w), some (.inl 1)] [rf 57] (ab_st σ0 313 (bmc (bmOf rows K va (k' : Nat) ((p' + 1 : Nat) : Int) (j' : Nat)))) 0 0 := fun h => by
          refine hA 4 _ rfl _ _ _ _ _ ?_
          exact gF2 h
        have gZ2 : (0 ≤ w ∧ w < (cnt (sw (bmOf rows K va (k' : Nat) ((p' + 1 : Nat) : Int) (j' : Nat))) (gu rows) : Nat)) → At 5 [some (rf 57), some (.inl (k' : Nat)), some (.inl ((p' + 1 : Nat) : Int)), some (.inl (j' : Nat)), some (.inl w), some (.inl 1)] [rf 57] (ab_st σ0 313 (bmc (bmOf rows K va (k' : Nat) ((p' + 1 : Nat) : Int) (j' : Nat)))) 0 0 := fun h => by
          refine hA 5 _ rfl _ _ _ _ _ ?_
          exact gK2 h
        refine hA 3 _ rfl _ _ _ _ _ ?_
        refine Exists.intro _ (And.intro (by first | assumption | exact st_s | exact st_e (by decide) (by assumption) | exact st_e (by omega) (by assumption) | exact st_e (by decide) st_s | exact st_e (by omega) st_s | exact st_e (by decide) (st_e (by decide) (by assumption)) | exact st_e (by omega) (st_e (by omega) (by assumption))) ?_)
        refine Exists.intro _ (And.intro (by first | assumption | exact st_s | exact st_e (by decide) (by assumption) | exact st_e (by omega) (by assumption) | exact st_e (by decide) st_s | exact st_e (by omega) st_s | exact st_e (by decide) (st_e (by decide) (by assumption)) | exact st_e (by omega) (st_e (by omega) (by assumption))) (And.intro rfl (ab_inv_ev hwo (by first | decide | omega) (by first | exact Nat.le_refl _ | omega) (by first | exact Nat.le_refl _ | omega) ?_)))
        refine And.intro rfl (ab_inv_ev (m_in w 0 ((cnt (sw (bmOf rows K va (k' : Nat) ((p' + 1 : Nat) : Int) (j' : Nat))) (gu rows) : Nat) - 1) hw (rR (by omega) (by omega)) (rR (by omega) (by omega))) (by first | decide | omega) (by first | exact Nat.le_refl _ | omega) (by first | exact Nat.le_refl _ | omega) ?_)
        refine And.intro (by first | assumption | exact b2i_R _ | exact rR (by omega) (by omega) | exact rR (by simp only [Int.toNat_natCast]; omega) (by simp only [Int.toNat_natCast]; omega)) (And.intro (fun q => ?_) (fun q => ?_))
        · have q1 := of_decide_eq_true (b2i_1 q)
          exact gZ2 (by omega)
        · exact gO2 (by have q1 := of_decide_eq_false (b2i_0 q); omega)
set_option maxRecDepth 100000 in
set_option maxHeartbeats 1000000 in
theorem g_group (hI : MI σ cc rows K va R f n pl c t r th) (k g what : Int) (hk : ab_R k) (hg : ab_R g) (hwhat : ab_R what) : ab_call 10 0 0 yX10_group [rf 57, .inl k, .inl g, .inl what] σ (mdP σ (cc, rows, K, va, R, f, n, pl, c) r (fun i => (i : Int) + 1) (stq (cc, rows, K, va, R, f, n, pl, c) (sp_group rows R k g what))) := by
  have q57 := hI.h57
  have hr := hI.hr
  have hcc := hI.hc
  have hgl := gu_le hr
  have hI0 := hI.uth 0
  have hf0 : fr mA σ (ab_st σ 57 (m10 (ab_up t 0 0))) := fr_st (by unfold mA; omega)
  generalize ht0 : ab_up t 0 0 = t0 at hI0 hf0
  generalize hs0 : ab_st σ 57 (m10 t0) = σ0 at hI0 hf0
  have p57 := hI0.h57
  have p58 := hI0.h58
  have p0 := hI0.t0
  have p2 := hI0.t2
  have p12 := hI0.t12
  have p13 := hI0.t13
  refine eX10_group rfl (fun At hA => ?_)
  have gK1 : ((0 ≤ k ∧ k ≤ 6) ∧ 0 ≤ g ∧ g < gu rows) → At 4 [some (rf 57), some (.inl k), some (.inl g), some (.inl what), none, none, none] [.inl 0, rf 57] σ0 0 0 := fun hP1 => by
    refine hA 4 _ rfl _ _ _ _ _ ?_
    refine Exists.intro _ (And.intro (by first | assumption | exact st_s | exact st_e (by decide) (by assumption) | exact st_e (by omega) (by assumption) | exact st_e (by decide) st_s | exact st_e (by omega) st_s | exact st_e (by decide) (st_e (by decide) (by assumption)) | exact st_e (by omega) (st_e (by omega) (by assumption))) (And.intro rfl (ab_inv_ev (m_bad0 p57 p0 1 0) (by first | decide | omega) (by first | exact Nat.le_refl _ | omega) (by first | exact Nat.le_refl _ | omega) ?_)))
    refine And.intro (by first | assumption | exact b2i_R _ | exact rR (by omega) (by omega) | exact rR (by simp only [Int.toNat_natCast]; omega) (by simp only [Int.toNat_natCast]; omega)) (And.intro (fun q => ?_) (fun q => ?_))
    · exact absurd rfl q
    · have gK2 : (0 ≤ what ∧ what ≤ 2) → At 8 [some (rf 57), some (.inl k), some (.inl g), some (.inl what), none, none, none] [.inl 0, rf 57] σ0 0 0 := fun hP2 => by
        refine hA 8 _ rfl _ _ _ _ _ ?_
        refine Exists.intro _ (And.intro (by first | assumption | exact st_s | exact st_e (by decide) (by assumption) | exact st_e (by omega) (by assumption) | exact st_e (by decide) st_s | exact st_e (by omega) st_s | exact st_e (by decide) (st_e (by decide) (by assumption)) | exact st_e (by omega) (st_e (by omega) (by assumption))) (And.intro rfl (ab_inv_ev (m_bad0 p57 p0 2 1) (by first | decide | omega) (by first | exact Nat.le_refl _ | omega) (by first | exact Nat.le_refl _ | omega) ?_)))
        refine And.intro (by first | assumption | exact b2i_R _ | exact rR (by omega) (by omega) | exact rR (by simp only [Int.toNat_natCast]; omega) (by simp only [Int.toNat_natCast]; omega)) (And.intro (fun q => ?_) (fun q => ?_))
        · obtain ⟨k', rfl⟩ : ∃ m : Nat, k = (m : Int) := ⟨k.toNat, by omega⟩
          have hB := hI0.bmS k'
          have b57 := hB.h57
          have b13 := hB.t13
          have brd := bS_rd hI0 (k := k') (by omega)
          have bhi := hI0.hR (i := k') (by omega)
          have bf := fr_bS (σ := σ0) (R := R) hf0 (by unfold mA; omega) k'
          have hbm := m_bitmap hI0 k' (by omega)
          obtain ⟨g', rfl⟩ : ∃ m : Nat, g = (m : Int) := ⟨g.toNat, by omega⟩
          obtain ⟨what', rfl⟩ : ∃ m : Nat, what = (m : Int) := ⟨what.toNat, by omega⟩
          have hst := fun j (hj : j < gu rows) => m_stretch b57 b13 hr brd bhi.1 j hj
          have hcl := cnt_le (sw (R k'))
          have hR0 := brd
          have loop : ∀ (m p : Nat), p + m = g' → sw (R k') p = true → At 11 [some (rf 57), some (.inl (k' : Nat)), some (.inl (g' : Nat)), some (.inl (what' : Nat)), some (rf (bA k')), some (.inl (cnt (sw (R k')) p)), some (.inl p)] [] (bS σ0 R k') 0 0 := by
            intro m
            induction m using Nat.strongRecOn with
            | ind m ih =>
              intro p hp hsw
              have hpl : p < gu rows := by omega
              have hsp := strN_pos (g := R k') hpl
              have hwe := strN_wen (g := R k') hpl
              have hcp := hcl p
              refine hA 11 _ rfl _ _ _ _ _ ?_
              refine Exists.intro _ (And.intro (by first | assumption | exact st_s | exact st_e (by decide) (by assumption) | exact st_e (by omega) (by assumption) | exact st_e (by decide) st_s | exact st_e (by omega) st_s | exact st_e (by decide) (st_e (by decide) (by assumption)) | exact st_e (by omega) (st_e (by omega) (by assumption))) (And.intro rfl (ab_inv_ev (hst p hpl) (by first | decide | omega) (by first | exact Nat.le_refl _ | omega) (by first | exact Nat.le_refl _ | omega) ?_)))
              refine And.intro (And.intro (by first | assumption | exact b2i_R _ | exact rR (by omega) (by omega) | exact rR (by simp only [Int.toNat_natCast]; omega) (by simp only [Int.toNat_natCast]; omega)) (by first | assumption | exact b2i_R _ | exact rR (by omega) (by omega) | exact rR (by simp only [Int.toNat_natCast]; omega) (by simp only [Int.toNat_natCast]; omega))) (And.intro (fun q => ?_) (fun q => ?_))
              · have hgw : g' < wen (R k') (gu rows) p := by omega
                have hwn := wen_of (g := R k') (u := gu rows) (p := p) (n := g') (by omega) hgw hpl
                have hno : ∀ j, p < j → j ≤ g' → sw (R k') j = false := fun j h1 h2 => wen_no (u := gu rows) h1 (by omega)
                have hws := wst_of hsw (show p ≤ g' by omega) hno
                have hcn := cnt_nx (p := sw (R k')) (i := p) (e := g' + 1) (by omega) hsw (fun j h1 h2 => hno j h1 (by omega))
                have k18 : ∀ z : Int, sp_group rows R (k' : Nat) (g' : Nat) (what' : Nat) = .inl z → ∀ L, At 18 L [.inl z] (bS σ0 R k') 0 0 := fun z hz L => by
                  refine hA 18 _ rfl _ _ _ _ _ ?_
                  exact md_as hz rfl bf hB
                refine hA 13 _ rfl _ _ _ _ _ ?_
                refine And.intro (by first | assumption | exact b2i_R _ | exact rR (by omega) (by omega) | exact rR (by simp only [Int.toNat_natCast]; omega) (by simp only [Int.toNat_natCast]; omega)) (And.intro (fun q => ?_) (fun q => ?_))
                · refine hA 15 _ rfl _ _ _ _ _ ?_
                  refine And.intro (And.intro (by first | assumption | exact b2i_R _ | exact rR (by omega) (by omega) | exact rR (by simp only [Int.toNat_natCast]; omega) (by simp only [Int.toNat_natCast]; omega)) (by first | assumption | exact b2i_R _ | exact rR (by omega) (by omega) | exact rR (by simp only [Int.toNat_natCast]; omega) (by simp only [Int.toNat_natCast]; omega))) (And.intro (fun q => ?_) (fun q => ?_))
                  · refine hA 17 _ rfl _ _ _ _ _ ?_
                    refine k18 _ ?_ _
                    unfold sp_group
                    rw [if_pos hP1.1, if_pos hP1.2, if_pos hP2, if_neg (by omega), if_neg (by omega), Int.toNat_natCast, Int.toNat_natCast, hcn]
                    congr 1
                    omega
                  · refine hA 16 _ rfl _ _ _ _ _ ?_
                    refine Exists.intro _ (And.intro (by first | assumption | exact st_s | exact st_e (by decide) (by assumption) | exact st_e (by omega) (by assumption) | exact st_e (by decide) st_s | exact st_e (by omega) st_s | exact st_e (by decide) (st_e (by decide) (by assumption)) | exact st_e (by omega) (st_e (by omega) (by assumption))) (And.intro rfl (ab_inv_ev (hst p hpl) (by first | decide | omega) (by first | exact Nat.le_refl _ | omega) (by first | exact Nat.le_refl _ | omega) ?_)))
                    refine k18 _ ?_ _
                    unfold sp_group gw
                    rw [if_pos hP1.1, if_pos hP1.2, if_pos hP2, if_neg (by omega), if_pos (by omega), Int.toNat_natCast, Int.toNat_natCast, hwn, hws]
                    congr 2
                    omega
                · refine hA 14 _ rfl _ _ _ _ _ ?_
                  refine Exists.intro _ (Exists.intro _ (And.intro (brd) (And.intro (by omega) ?_)))
                  refine k18 _ ?_ _
                  unfold sp_group
                  rw [if_pos hP1.1, if_pos hP1.2, if_pos hP2, if_pos (by omega)] <;> rfl
              · have ec : cnt (sw (R k')) (p + strN (R k') (gu rows) p) = cnt (sw (R k')) p + 1 := by
                  rw [hwe]
                  exact cnt_nx (by omega) hsw (fun j h1 h2 => wen_no h1 h2)
                have := ih (g' - (p + strN (R k') (gu rows) p)) (by omega) (p + strN (R k') (gu rows) p) (by omega) (by rw [hwe]; exact wen_sw hpl (by omega))
                rw [ec, Int.natCast_add, Int.natCast_add] at this
                refine hA 12 _ rfl _ _ _ _ _ ?_
                refine Exists.intro _ (And.intro (by first | assumption | exact st_s | exact st_e (by decide) (by assumption) | exact st_e (by omega) (by assumption) | exact st_e (by decide) st_s | exact st_e (by omega) st_s | exact st_e (by decide) (st_e (by decide) (by assumption)) | exact st_e (by omega) (st_e (by omega) (by assumption))) (And.intro rfl (ab_inv_ev (hst p hpl) (by first | decide | omega) (by first | exact Nat.le_refl _ | omega) (by first | exact Nat.le_refl _ | omega) ?_)))
                exact this
          refine hA 10 _ rfl _ _ _ _ _ ?_
          refine Exists.intro _ (And.intro (by first | assumption | exact st_s | exact st_e (by decide) (by assumption) | exact st_e (by omega) (by assumption) | exact st_e (by decide) st_s | exact st_e (by omega) st_s | exact st_e (by decide) (st_e (by decide) (by assumption)) | exact st_e (by omega) (st_e (by omega) (by assumption))) (And.intro rfl (ab_inv_ev hbm (by first | decide | omega) (by first | exact Nat.le_refl _ | omega) (by first | exact Nat.le_refl _ | omega) ?_)))
          exact loop g' 0 (by omega) rfl
        · exact absurd rfl q
      have gF2 : ¬ (0 ≤ what ∧ what ≤ 2) → At 8 [some (rf 57), some (.inl k), some (.inl g), some (.inl what), none, none, none] [.inl 1, rf 57] σ0 0 0 := fun hP2 => by
        refine hA 8 _ rfl _ _ _ _ _ ?_
        refine Exists.intro _ (And.intro (by first | assumption | exact st_s | exact st_e (by decide) (by assumption) | exact st_e (by omega) (by assumption) | exact st_e (by decide) st_s | exact st_e (by omega) st_s | exact st_e (by decide) (st_e (by decide) (by assumption)) | exact st_e (by omega) (st_e (by omega) (by assumption))) (And.intro rfl (ab_inv_ev (m_bad1 p57 p0 p58 2 1 (by decide) (by decide) (by decide)) (by first | decide | omega) (by first | exact Nat.le_refl _ | omega) (by first | exact Nat.le_refl _ | omega) ?_)))
        refine And.intro (by first | assumption | exact b2i_R _ | exact rR (by omega) (by omega) | exact rR (by simp only [Int.toNat_natCast]; omega) (by simp only [Int.toNat_natCast]; omega)) (And.intro (fun q => ?_) (fun q => ?_))
        · exact absurd q (by decide)
        · refine hA 9 _ rfl _ _ _ _ _ ?_
          exact md_no (by unfold sp_group; rw [if_pos hP1.1, if_pos hP1.2, if_neg hP2] <;> rfl) hf0 hI0 rfl
      have gO2 : ¬ (0 ≤ what ∧ what ≤ 2) → At 6 [some (rf 57), some (.inl k), some (.inl g), some (.inl what), none, none, none] [rf 57] σ0 0 0 := fun h => by
        refine hA 6 _ rfl _ _ _ _ _ ?_
        exact gF2 h
      have gZ2 : (0 ≤ what ∧ what ≤ 2) → At 7 [some (rf 57), some (.inl k), some (.inl g), some (.inl what), none, none, none] [rf 57] σ0 0 0 := fun h => by
        refine hA 7 _ rfl _ _ _ _ _ ?_
        exact gK2 h
      refine hA 5 _ rfl _ _ _ _ _ ?_
      refine And.intro rfl (ab_inv_ev (m_in what 0 2 hwhat (rR (by omega) (by omega)) (rR (by omega) (by omega))) (by first | decide | omega) (by first | exact Nat.le_refl _ | omega) (by first | exact Nat.le_refl _ | omega) ?_)
      refine And.intro (by first | assumption | exact b2i_R _ | exact rR (by omega) (by omega) | exact rR (by simp only [Int.toNat_natCast]; omega) (by simp only [Int.toNat_natCast]; omega)) (And.intro (fun q => ?_) (fun q => ?_))
      · have q10 := of_decide_eq_true (b2i_1 q)
        exact gZ2 (by omega)
      · exact gO2 (by have q1 := of_decide_eq_false (b2i_0 q); omega)
  have gF1 : ¬ ((0 ≤ k ∧ k ≤ 6) ∧ 0 ≤ g ∧ g < gu rows) → At 4 [some (rf 57), some (.inl k), some (.inl g), some (.inl what), none, none, none] [.inl 1, rf 57] σ0 0 0 := fun hP1 => by
    refine hA 4 _ rfl _ _ _ _ _ ?_
    refine Exists.intro _ (And.intro (by first | assumption | exact st_s | exact st_e (by decide) (by assumption) | exact st_e (by omega) (by assumption) | exact st_e (by decide) st_s | exact st_e (by omega) st_s | exact st_e (by decide) (st_e (by decide) (by assumption)) | exact st_e (by omega) (st_e (by omega) (by assumption))) (And.intro rfl (ab_inv_ev (m_bad1 p57 p0 p58 1 0 (by decide) (by decide) (by decide)) (by first | decide | omega) (by first | exact Nat.le_refl _ | omega) (by first | exact Nat.le_refl _ | omega) ?_)))
    refine And.intro (by first | assumption | exact b2i_R _ | exact rR (by omega) (by omega) | exact rR (by simp only [Int.toNat_natCast]; omega) (by simp only [Int.toNat_natCast]; omega)) (And.intro (fun q => ?_) (fun q => ?_))
    · refine hA 9 _ rfl _ _ _ _ _ ?_
      exact md_no (by unfold sp_group; by_cases h1 : 0 ≤ k ∧ k ≤ 6; (rw [if_pos h1, if_neg (fun h2 => hP1 ⟨h1, h2⟩)] <;> rfl); (rw [if_neg h1] <;> rfl)) hf0 hI0 rfl
    · exact absurd q (by decide)
  have gO1 : ¬ ((0 ≤ k ∧ k ≤ 6) ∧ 0 ≤ g ∧ g < gu rows) → At 2 [some (rf 57), some (.inl k), some (.inl g), some (.inl what), none, none, none] [rf 57] σ0 0 0 := fun h => by
    refine hA 2 _ rfl _ _ _ _ _ ?_
    exact gF1 h
  have gZ1 : ((0 ≤ k ∧ k ≤ 6) ∧ 0 ≤ g ∧ g < gu rows) → At 3 [some (rf 57), some (.inl k), some (.inl g), some (.inl what), none, none, none] [rf 57] σ0 0 0 := fun h => by
    refine hA 3 _ rfl _ _ _ _ _ ?_
    exact gK1 h
  refine hA 0 _ rfl _ _ _ _ _ ?_
  refine Exists.intro _ (And.intro (q57) ?_)
  rw [m10_s0, ht0, hs0]
  refine Exists.intro _ (And.intro (by first | assumption | exact st_s | exact st_e (by decide) (by assumption) | exact st_e (by omega) (by assumption) | exact st_e (by decide) st_s | exact st_e (by omega) st_s | exact st_e (by decide) (st_e (by decide) (by assumption)) | exact st_e (by omega) (st_e (by omega) (by assumption))) (And.intro rfl (ab_inv_ev (m_isSet k hk) (by first | decide | omega) (by first | exact Nat.le_refl _ | omega) (by first | exact Nat.le_refl _ | omega) ?_)))
  refine And.intro (by first | assumption | exact b2i_R _ | exact rR (by omega) (by omega) | exact rR (by simp only [Int.toNat_natCast]; omega) (by simp only [Int.toNat_natCast]; omega)) (And.intro (fun q => ?_) (fun q => ?_))
  · exact gO1 (by have q1 := of_decide_eq_false (b2i_0 q); omega)
  · have q00 := of_decide_eq_true (b2i_1 q)
    refine hA 1 _ rfl _ _ _ _ _ ?_
    refine Exists.intro _ (And.intro (by first | assumption | exact st_s | exact st_e (by decide) (by assumption) | exact st_e (by omega) (by assumption) | exact st_e (by decide) st_s | exact st_e (by omega) st_s | exact st_e (by decide) (st_e (by decide) (by assumption)) | exact st_e (by omega) (st_e (by omega) (by assumption))) (And.intro rfl (ab_inv_ev (m_groups p57 p13 hr) (by first | decide | omega) (by first | exact Nat.le_refl _ | omega) (by first | exact Nat.le_refl _ | omega) ?_)))
    refine And.intro rfl (ab_inv_ev (m_in g 0 ((gu rows : Nat) - 1) hg (rR (by omega) (by omega)) (rR (by omega) (by omega))) (by first | decide | omega) (by first | exact Nat.le_refl _ | omega) (by first | exact Nat.le_refl _ | omega) ?_)
    refine And.intro (by first | assumption | exact b2i_R _ | exact rR (by omega) (by omega) | exact rR (by simp only [Int.toNat_natCast]; omega) (by simp only [Int.toNat_natCast]; omega)) (And.intro (fun q => ?_) (fun q => ?_))
    · have q01 := of_decide_eq_true (b2i_1 q)
      exact gZ1 (by omega)
    · exact gO1 (by have q1 := of_decide_eq_false (b2i_0 q); omega)
set_option maxRecDepth 100000 in
set_option maxHeartbeats 1000000 in
theorem g_columnOf (hI : MI σ cc rows K va R f n pl c t r th) (k what : Int) (hk : ab_R k) (hwhat : ab_R what) : ab_call 10 0 0 yX10_columnOf [rf 57, .inl k, .inl what] σ (mdP σ (cc, rows, K, va, R, f, n, pl, c) r (fun i => (i : Int) + 1) (stq (cc, rows, K, va, R, f, n, pl, c) (sp_columnOf cc rows K va k what))) := by
  have q57 := hI.h57
  have hr := hI.hr
  have hcc := hI.hc
  have hgl := gu_le hr
  have hI0 := hI.uth 0
  have hf0 : fr mA σ (ab_st σ 57 (m10 (ab_up t 0 0))) := fr_st (by unfold mA; omega)
  generalize ht0 : ab_up t 0 0 = t0 at hI0 hf0
  generalize hs0 : ab_st σ 57 (m10 t0) = σ0 at hI0 hf0
  have p57 := hI0.h57
  have p58 := hI0.h58
  have p0 := hI0.t0
  have p2 := hI0.t2
  have p12 := hI0.t12
  have p13 := hI0.t13
  refine eX10_columnOf rfl (fun At hA => ?_)
  have gK1 : (0 ≤ k ∧ k < cc) → At 3 [some (rf 57), some (.inl k), some (.inl what)] [.inl 0, rf 57] σ0 0 0 := fun hP1 => by
    refine hA 3 _ rfl _ _ _ _ _ ?_
    refine Exists.intro _ (And.intro (by first | assumption | exact st_s | exact st_e (by decide) (by assumption) | exact st_e (by omega) (by assumption) | exact st_e (by decide) st_s | exact st_e (by omega) st_s | exact st_e (by decide) (st_e (by decide) (by assumption)) | exact st_e (by omega) (st_e (by omega) (by assumption))) (And.intro rfl (ab_inv_ev (m_bad0 p57 p0 1 0) (by first | decide | omega) (by first | exact Nat.le_refl _ | omega) (by first | exact Nat.le_refl _ | omega) ?_)))
    refine And.intro (by first | assumption | exact b2i_R _ | exact rR (by omega) (by omega) | exact rR (by simp only [Int.toNat_natCast]; omega) (by simp only [Int.toNat_natCast]; omega)) (And.intro (fun q => ?_) (fun q => ?_))
    · exact absurd rfl q
    · have gK2 : (0 ≤ what ∧ what ≤ 4) → At 7 [some (rf 57), some (.inl k), some (.inl what)] [.inl 0, rf 57] σ0 0 0 := fun hP2 => by
        refine hA 7 _ rfl _ _ _ _ _ ?_
        refine Exists.intro _ (And.intro (by first | assumption | exact st_s | exact st_e (by decide) (by assumption) | exact st_e (by omega) (by assumption) | exact st_e (by decide) st_s | exact st_e (by omega) st_s | exact st_e (by decide) (st_e (by decide) (by assumption)) | exact st_e (by omega) (st_e (by omega) (by assumption))) (And.intro rfl (ab_inv_ev (m_bad0 p57 p0 2 1) (by first | decide | omega) (by first | exact Nat.le_refl _ | omega) (by first | exact Nat.le_refl _ | omega) ?_)))
        refine And.intro (by first | assumption | exact b2i_R _ | exact rR (by omega) (by omega) | exact rR (by simp only [Int.toNat_natCast]; omega) (by simp only [Int.toNat_natCast]; omega)) (And.intro (fun q => ?_) (fun q => ?_))
        · obtain ⟨k', rfl⟩ : ∃ m : Nat, k = (m : Int) := ⟨k.toNat, by omega⟩
          obtain ⟨what', rfl⟩ : ∃ m : Nat, what = (m : Int) := ⟨what.toNat, by omega⟩
          have hK := hI0.k (k := k') (by omega)
          have hV := hI0.v (k := k') (by omega)
          obtain ⟨a1, a2, a3, gg, a4, a5, a6, a7, a8⟩ := id hK
          obtain ⟨o, ho⟩ := hI0.sc.bm (a := 313) (by omega) (by omega)
          have k14 : ∀ (z : Int) (τ : ab_H), sp_columnOf cc rows K va (k' : Nat) (what' : Nat) = .inl z → fr mA σ τ → MI τ cc rows K va R f n pl c t0 r 0 → At 14 [some (rf 57), some (.inl (k' : Nat)), some (.inl (what' : Nat))] [.inl z] τ 0 0 := fun z τ hz h1 h2 => by
            refine hA 14 _ rfl _ _ _ _ _ ?_
            exact md_as hz rfl h1 h2
          refine hA 9 _ rfl _ _ _ _ _ ?_
          refine And.intro (And.intro (by first | assumption | exact b2i_R _ | exact rR (by omega) (by omega) | exact rR (by simp only [Int.toNat_natCast]; omega) (by simp only [Int.toNat_natCast]; omega)) (by first | assumption | exact b2i_R _ | exact rR (by omega) (by omega) | exact rR (by simp only [Int.toNat_natCast]; omega) (by simp only [Int.toNat_natCast]; omega))) (And.intro (fun q => ?_) (fun q => ?_))
          · refine hA 11 _ rfl _ _ _ _ _ ?_
            refine And.intro (And.intro (by first | assumption | exact b2i_R _ | exact rR (by omega) (by omega) | exact rR (by simp only [Int.toNat_natCast]; omega) (by simp only [Int.toNat_natCast]; omega)) (by first | assumption | exact b2i_R _ | exact rR (by omega) (by omega) | exact rR (by simp only [Int.toNat_natCast]; omega) (by simp only [Int.toNat_natCast]; omega))) (And.intro (fun q => ?_) (fun q => ?_))
            · have hw4 : what' = 4 := by omega
              subst hw4
              refine hA 13 _ rfl _ _ _ _ _ ?_
              refine Exists.intro _ (And.intro (by first | assumption | exact st_s | exact st_e (by decide) (by assumption) | exact st_e (by omega) (by assumption) | exact st_e (by decide) st_s | exact st_e (by omega) st_s | exact st_e (by decide) (st_e (by decide) (by assumption)) | exact st_e (by omega) (st_e (by omega) (by assumption))) (And.intro rfl (ab_inv_of (m_wordsOfColumn p57 p13 hr hK hV ho) (by first | decide | omega) (by omega) (by omega) ?_)))
              intro z τ hpost
              obtain ⟨rfl, g9, rfl⟩ := hpost
              refine k14 _ _ ?_ (hf0.st (by unfold mA; omega)) (hI0.st (by omega) (by omega) (shp_bm (by omega) (by omega)))
              unfold sp_columnOf
              rw [if_pos hP1, if_pos hP2] <;> rfl
            · have hw4 : what' = 3 := by omega
              subst hw4
              refine hA 12 _ rfl _ _ _ _ _ ?_
              refine Exists.intro _ (And.intro (by first | assumption | exact st_s | exact st_e (by decide) (by assumption) | exact st_e (by omega) (by assumption) | exact st_e (by decide) st_s | exact st_e (by omega) st_s | exact st_e (by decide) (st_e (by decide) (by assumption)) | exact st_e (by omega) (st_e (by omega) (by assumption))) (And.intro rfl (ab_inv_ev (m_bitmapsOfColumn p57 hK) (by first | decide | omega) (by first | exact Nat.le_refl _ | omega) (by first | exact Nat.le_refl _ | omega) ?_)))
              refine k14 _ _ ?_ hf0 hI0
              unfold sp_columnOf
              rw [if_pos hP1, if_pos hP2] <;> rfl
          · refine hA 10 _ rfl _ _ _ _ _ ?_
            refine Exists.intro _ (And.intro (p57) ?_)
            refine Exists.intro _ (Exists.intro _ (And.intro (a3) (And.intro (by omega) ?_)))
            refine Exists.intro _ (Exists.intro _ (And.intro (a4) (And.intro (by omega) ?_)))
            refine k14 _ _ ?_ hf0 hI0
            unfold sp_columnOf
            rw [if_pos hP1, if_pos hP2]
            rcases (show what' = 0 ∨ what' = 1 ∨ what' = 2 by omega) with rfl | rfl | rfl
            · exact congrArg Sum.inl a5.symm
            · exact congrArg Sum.inl a6.symm
            · exact congrArg Sum.inl a7.symm
        · exact absurd rfl q
      have gF2 : ¬ (0 ≤ what ∧ what ≤ 4) → At 7 [some (rf 57), some (.inl k), some (.inl what)] [.inl 1, rf 57] σ0 0 0 := fun hP2 => by
        refine hA 7 _ rfl _ _ _ _ _ ?_
        refine Exists.intro _ (And.intro (by first | assumption | exact st_s | exact st_e (by decide) (by assumption) | exact st_e (by omega) (by assumption) | exact st_e (by decide) st_s | exact st_e (by omega) st_s | exact st_e (by decide) (st_e (by decide) (by assumption)) | exact st_e (by omega) (st_e (by omega) (by assumption))) (And.intro rfl (ab_inv_ev (m_bad1 p57 p0 p58 2 1 (by decide) (by decide) (by decide)) (by first | decide | omega) (by first | exact Nat.le_refl _ | omega) (by first | exact Nat.le_refl _ | omega) ?_)))
        refine And.intro (by first | assumption | exact b2i_R _ | exact rR (by omega) (by omega) | exact rR (by simp only [Int.toNat_natCast]; omega) (by simp only [Int.toNat_natCast]; omega)) (And.intro (fun q => ?_) (fun q => ?_))
        · exact absurd q (by decide)
        · refine hA 8 _ rfl _ _ _ _ _ ?_
          exact md_no (by unfold sp_columnOf; rw [if_pos hP1, if_neg hP2] <;> rfl) hf0 hI0 rfl
      have gO2 : ¬ (0 ≤ what ∧ what ≤ 4) → At 5 [some (rf 57), some (.inl k), some (.inl what)] [rf 57] σ0 0 0 := fun h => by
        refine hA 5 _ rfl _ _ _ _ _ ?_
        exact gF2 h
      have gZ2 : (0 ≤ what ∧ what ≤ 4) → At 6 [some (rf 57), some (.inl k), some (.inl what)] [rf 57] σ0 0 0 := fun h => by
        refine hA 6 _ rfl _ _ _ _ _ ?_
        exact gK2 h
      refine hA 4 _ rfl _ _ _ _ _ ?_
      refine And.intro rfl (ab_inv_ev (m_in what 0 4 hwhat (rR (by omega) (by omega)) (rR (by omega) (by omega))) (by first | decide | omega) (by first | exact Nat.le_refl _ | omega) (by first | exact Nat.le_refl _ | omega) ?_)
      refine And.intro (by first | assumption | exact b2i_R _ | exact rR (by omega) (by omega) | exact rR (by simp only [Int.toNat_natCast]; omega) (by simp only [Int.toNat_natCast]; omega)) (And.intro (fun q => ?_) (fun q => ?_))
      · have q10 := of_decide_eq_true (b2i_1 q)
        exact gZ2 (by omega)
      · exact gO2 (by have q1 := of_decide_eq_false (b2i_0 q); omega)
  have gF1 : ¬ (0 ≤ k ∧ k < cc) → At 3 [some (rf 57), some (.inl k), some (.inl what)] [.inl 1, rf 57] σ0 0 0 := fun hP1 => by
    refine hA 3 _ rfl _ _ _ _ _ ?_
    refine Exists.intro _ (And.intro (by first | assumption | exact st_s | exact st_e (by decide) (by assumption) | exact st_e (by omega) (by assumption) | exact st_e (by decide) st_s | exact st_e (by omega) st_s | exact st_e (by decide) (st_e (by decide) (by assumption)) | exact st_e (by omega) (st_e (by omega) (by assumption))) (And.intro rfl (ab_inv_ev (m_bad1 p57 p0 p58 1 0 (by decide) (by decide) (by decide)) (by first | decide | omega) (by first | exact Nat.le_refl _ | omega) (by first | exact Nat.le_refl _ | omega) ?_)))
    refine And.intro (by first | assumption | exact b2i_R _ | exact rR (by omega) (by omega) | exact rR (by simp only [Int.toNat_natCast]; omega) (by simp only [Int.toNat_natCast]; omega)) (And.intro (fun q => ?_) (fun q => ?_))
    · refine hA 8 _ rfl _ _ _ _ _ ?_
      exact md_no (by unfold sp_columnOf; rw [if_neg hP1] <;> rfl) hf0 hI0 rfl
    · exact absurd q (by decide)
  have gO1 : ¬ (0 ≤ k ∧ k < cc) → At 1 [some (rf 57), some (.inl k), some (.inl what)] [rf 57] σ0 0 0 := fun h => by
    refine hA 1 _ rfl _ _ _ _ _ ?_
    exact gF1 h
  have gZ1 : (0 ≤ k ∧ k < cc) → At 2 [some (rf 57), some (.inl k), some (.inl what)] [rf 57] σ0 0 0 := fun h => by
    refine hA 2 _ rfl _ _ _ _ _ ?_
    exact gK1 h
  refine hA 0 _ rfl _ _ _ _ _ ?_
  refine Exists.intro _ (And.intro (q57) ?_)
  rw [m10_s0, ht0, hs0]
  refine Exists.intro _ (And.intro (by first | assumption | exact st_s | exact st_e (by decide) (by assumption) | exact st_e (by omega) (by assumption) | exact st_e (by decide) st_s | exact st_e (by omega) st_s | exact st_e (by decide) (st_e (by decide) (by assumption)) | exact st_e (by omega) (st_e (by omega) (by assumption))) (And.intro rfl (ab_inv_ev (m_isColumn p57 p12 hcc k hk) (by first | decide | omega) (by first | exact Nat.le_refl _ | omega) (by first | exact Nat.le_refl _ | omega) ?_)))
  refine And.intro (by first | assumption | exact b2i_R _ | exact rR (by omega) (by omega) | exact rR (by simp only [Int.toNat_natCast]; omega) (by simp only [Int.toNat_natCast]; omega)) (And.intro (fun q => ?_) (fun q => ?_))
  · have q00 := of_decide_eq_true (b2i_1 q)
    exact gZ1 (by omega)
  · exact gO1 (by have q1 := of_decide_eq_false (b2i_0 q); omega)
set_option maxRecDepth 100000 in
set_option maxHeartbeats 1000000 in
theorem g_told (hI : MI σ cc rows K va R f n pl c t r th) (what : Int) (hwhat : ab_R what) : ab_call 10 0 0 yX10_told [rf 57, .inl what] σ (mdP σ (cc, rows, K, va, R, f, n, pl, c) r (fun i => (i : Int)) (stq (cc, rows, K, va, R, f, n, pl, c) (sp_told cc rows K va R n what))) := by
  have q57 := hI.h57
  have hr := hI.hr
  have hcc := hI.hc
  have hgl := gu_le hr
  have hI0 := hI.uth 0
  have hf0 : fr mA σ (ab_st σ 57 (m10 (ab_up t 0 0))) := fr_st (by unfold mA; omega)
  generalize ht0 : ab_up t 0 0 = t0 at hI0 hf0
  generalize hs0 : ab_st σ 57 (m10 t0) = σ0 at hI0 hf0
  have p57 := hI0.h57
  have p58 := hI0.h58
  have p0 := hI0.t0
  have p2 := hI0.t2
  have p12 := hI0.t12
  have p13 := hI0.t13
  refine eX10_told rfl (fun At hA => ?_)
  have gK1 : (0 ≤ what ∧ what ≤ 6) → At 3 [some (rf 57), some (.inl what), none, none] [.inl 0, rf 57] σ0 0 0 := fun hP1 => by
    refine hA 3 _ rfl _ _ _ _ _ ?_
    refine Exists.intro _ (And.intro (by first | assumption | exact st_s | exact st_e (by decide) (by assumption) | exact st_e (by omega) (by assumption) | exact st_e (by decide) st_s | exact st_e (by omega) st_s | exact st_e (by decide) (st_e (by decide) (by assumption)) | exact st_e (by omega) (st_e (by omega) (by assumption))) (And.intro rfl (ab_inv_ev (m_bad0 p57 p0 1 1) (by first | decide | omega) (by first | exact Nat.le_refl _ | omega) (by first | exact Nat.le_refl _ | omega) ?_)))
    refine And.intro (by first | assumption | exact b2i_R _ | exact rR (by omega) (by omega) | exact rR (by simp only [Int.toNat_natCast]; omega) (by simp only [Int.toNat_natCast]; omega)) (And.intro (fun q => ?_) (fun q => ?_))
    · have hL0 : ∀ j, At j [some (rf 57), some (.inl what), some (.inl 0), none] [] σ0 0 0 → At j [some (rf 57), some (.inl what), some (.inl 0), none] [] σ0 0 0 := fun j h => h
      have j6 : what = 0 → At 6 [some (rf 57), some (.inl what), some (.inl 0), none] [] σ0 0 0 := fun e => by
        subst e
        refine hA 6 _ rfl _ _ _ _ _ ?_
        refine Exists.intro _ (And.intro (by first | assumption | exact st_s | exact st_e (by decide) (by assumption) | exact st_e (by omega) (by assumption) | exact st_e (by decide) st_s | exact st_e (by omega) st_s | exact st_e (by decide) (st_e (by decide) (by assumption)) | exact st_e (by omega) (st_e (by omega) (by assumption))) ?_)
        exact md_as (e := fun i => (i : Int)) (by rfl) hI0.t12 hf0 hI0
      have j7 : what = 1 → At 7 [some (rf 57), some (.inl what), some (.inl 0), none] [] σ0 0 0 := fun e => by
        subst e
        refine hA 7 _ rfl _ _ _ _ _ ?_
        refine Exists.intro _ (And.intro (by first | assumption | exact st_s | exact st_e (by decide) (by assumption) | exact st_e (by omega) (by assumption) | exact st_e (by decide) st_s | exact st_e (by omega) st_s | exact st_e (by decide) (st_e (by decide) (by assumption)) | exact st_e (by omega) (st_e (by omega) (by assumption))) ?_)
        exact md_as (e := fun i => (i : Int)) (by rfl) hI0.t13 hf0 hI0
      have j8 : what = 2 → At 8 [some (rf 57), some (.inl what), some (.inl 0), none] [] σ0 0 0 := fun e => by
        subst e
        refine hA 8 _ rfl _ _ _ _ _ ?_
        refine Exists.intro _ (And.intro (by first | assumption | exact st_s | exact st_e (by decide) (by assumption) | exact st_e (by omega) (by assumption) | exact st_e (by decide) st_s | exact st_e (by omega) st_s | exact st_e (by decide) (st_e (by decide) (by assumption)) | exact st_e (by omega) (st_e (by omega) (by assumption))) (And.intro rfl (ab_inv_ev (m_alive hI0) (by first | decide | omega) (by first | exact Nat.le_refl _ | omega) (by first | exact Nat.le_refl _ | omega) ?_)))
        exact md_as (e := fun i => (i : Int)) (by rfl) rfl hf0 hI0
      have j9 : what = 3 → At 9 [some (rf 57), some (.inl what), some (.inl 0), none] [] σ0 0 0 := fun e => by
        subst e
        refine hA 9 _ rfl _ _ _ _ _ ?_
        refine Exists.intro _ (And.intro (by first | assumption | exact st_s | exact st_e (by decide) (by assumption) | exact st_e (by omega) (by assumption) | exact st_e (by decide) st_s | exact st_e (by omega) st_s | exact st_e (by decide) (st_e (by decide) (by assumption)) | exact st_e (by omega) (st_e (by omega) (by assumption))) (And.intro rfl (ab_inv_ev (m_groups p57 p13 hr) (by first | decide | omega) (by first | exact Nat.le_refl _ | omega) (by first | exact Nat.le_refl _ | omega) ?_)))
        exact md_as (e := fun i => (i : Int)) (by rfl) rfl hf0 hI0
      have j17 : what = 6 → At 17 [some (rf 57), some (.inl what), some (.inl 0), none] [] σ0 0 0 := fun e => by
        subst e
        refine hA 17 _ rfl _ _ _ _ _ ?_
        refine Exists.intro _ (And.intro (by first | assumption | exact st_s | exact st_e (by decide) (by assumption) | exact st_e (by omega) (by assumption) | exact st_e (by decide) st_s | exact st_e (by omega) st_s | exact st_e (by decide) (st_e (by decide) (by assumption)) | exact st_e (by omega) (st_e (by omega) (by assumption))) ?_)
        exact md_as (e := fun i => (i : Int)) (by rfl) hI0.t2 hf0 hI0
      have j10 : what = 4 → At 10 [some (rf 57), some (.inl what), some (.inl 0), none] [] σ0 0 0 := fun e => by
        subst e
        have loop : ∀ m i : Nat, i + m = cc → At 11 [some (rf 57), some (.inl 4), some (.inl (sm (fun c => fsp (K c).1 (K c).2.2.2 (K c).2.2.1) i : Nat)), some (.inl i)] [] σ0 0 0 := by
          intro m
          induction m with
          | zero =>
            intro i hi
            have hi : i = cc := by omega
            subst hi
            refine hA 11 _ rfl _ _ _ _ _ ?_
            refine Exists.intro _ (And.intro (by first | assumption | exact st_s | exact st_e (by decide) (by assumption) | exact st_e (by omega) (by assumption) | exact st_e (by decide) st_s | exact st_e (by omega) st_s | exact st_e (by decide) (st_e (by decide) (by assumption)) | exact st_e (by omega) (st_e (by omega) (by assumption))) ?_)
            refine And.intro (And.intro (by first | assumption | exact b2i_R _ | exact rR (by omega) (by omega) | exact rR (by simp only [Int.toNat_natCast]; omega) (by simp only [Int.toNat_natCast]; omega)) (by first | assumption | exact b2i_R _ | exact rR (by omega) (by omega) | exact rR (by simp only [Int.toNat_natCast]; omega) (by simp only [Int.toNat_natCast]; omega))) (And.intro (fun q => ?_) (fun q => ?_))
            · refine hA 16 _ rfl _ _ _ _ _ ?_
              exact md_as (e := fun i => (i : Int)) (by rfl) rfl hf0 hI0
            · omega
          | succ m ih =>
            intro i hi
            have ihi := ih (i + 1) (by omega)
            rw [show sm (fun c => fsp (K c).1 (K c).2.2.2 (K c).2.2.1) (i + 1) = sm (fun c => fsp (K c).1 (K c).2.2.2 (K c).2.2.1) i + fsp (K i).1 (K i).2.2.2 (K i).2.2.1 from rfl, Int.natCast_add] at ihi
            refine hA 11 _ rfl _ _ _ _ _ ?_
            refine Exists.intro _ (And.intro (by first | assumption | exact st_s | exact st_e (by decide) (by assumption) | exact st_e (by omega) (by assumption) | exact st_e (by decide) st_s | exact st_e (by omega) st_s | exact st_e (by decide) (st_e (by decide) (by assumption)) | exact st_e (by omega) (st_e (by omega) (by assumption))) ?_)
            refine And.intro (And.intro (by first | assumption | exact b2i_R _ | exact rR (by omega) (by omega) | exact rR (by simp only [Int.toNat_natCast]; omega) (by simp only [Int.toNat_natCast]; omega)) (by first | assumption | exact b2i_R _ | exact rR (by omega) (by omega) | exact rR (by simp only [Int.toNat_natCast]; omega) (by simp only [Int.toNat_natCast]; omega))) (And.intro (fun q => ?_) (fun q => ?_))
            · omega
            · refine hA 12 _ rfl _ _ _ _ _ ?_
              refine And.intro (And.intro (by first | assumption | exact b2i_R _ | exact rR (by omega) (by omega) | exact rR (by simp only [Int.toNat_natCast]; omega) (by simp only [Int.toNat_natCast]; omega)) (by first | assumption | exact b2i_R _ | exact rR (by omega) (by omega) | exact rR (by simp only [Int.toNat_natCast]; omega) (by simp only [Int.toNat_natCast]; omega))) (And.intro (fun q => ?_) (fun q => ?_))
              · exact absurd rfl q
              · refine hA 13 _ rfl _ _ _ _ _ ?_
                refine Exists.intro _ (And.intro (by first | assumption | exact st_s | exact st_e (by decide) (by assumption) | exact st_e (by omega) (by assumption) | exact st_e (by decide) st_s | exact st_e (by omega) st_s | exact st_e (by decide) (st_e (by decide) (by assumption)) | exact st_e (by omega) (st_e (by omega) (by assumption))) (And.intro rfl (ab_inv_ev (m_bitmapsOfColumn p57 (hI0.k (k := i) (by omega))) (by first | decide | omega) (by first | exact Nat.le_refl _ | omega) (by first | exact Nat.le_refl _ | omega) ?_)))
                refine hA 15 _ rfl _ _ _ _ _ ?_
                exact ihi
        refine hA 10 _ rfl _ _ _ _ _ ?_
        exact loop cc 0 (by omega)
      have j10b : what = 5 → At 10 [some (rf 57), some (.inl what), some (.inl 0), none] [] σ0 0 0 := fun e => by
        subst e
        obtain ⟨o, ho⟩ := hI0.sc.bm (a := 313) (by omega) (by omega)
        have loop : ∀ (m i : Nat) (g : Nat → Nat), i + m = cc → At 11 [some (rf 57), some (.inl 5), some (.inl (sm (wordsC rows K va) i : Nat)), some (.inl i)] [] (ab_st σ0 313 (bmc g)) 0 0 := by
          intro m
          induction m with
          | zero =>
            intro i g hi
            have hJ : MI (ab_st σ0 313 (bmc g)) cc rows K va R f n pl c t0 r 0 := hI0.st (by omega) (by omega) (shp_bm (by omega) (by omega))
            have j57 := hJ.h57
            have hi : i = cc := by omega
            subst hi
            refine hA 11 _ rfl _ _ _ _ _ ?_
            refine Exists.intro _ (And.intro (by first | assumption | exact st_s | exact st_e (by decide) (by assumption) | exact st_e (by omega) (by assumption) | exact st_e (by decide) st_s | exact st_e (by omega) st_s | exact st_e (by decide) (st_e (by decide) (by assumption)) | exact st_e (by omega) (st_e (by omega) (by assumption))) ?_)
            refine And.intro (And.intro (by first | assumption | exact b2i_R _ | exact rR (by omega) (by omega) | exact rR (by simp only [Int.toNat_natCast]; omega) (by simp only [Int.toNat_natCast]; omega)) (by first | assumption | exact b2i_R _ | exact rR (by omega) (by omega) | exact rR (by simp only [Int.toNat_natCast]; omega) (by simp only [Int.toNat_natCast]; omega))) (And.intro (fun q => ?_) (fun q => ?_))
            · refine hA 16 _ rfl _ _ _ _ _ ?_
              exact md_as (e := fun i => (i : Int)) (by rfl) rfl (hf0.st (by unfold mA; omega)) hJ
            · omega
          | succ m ih =>
            intro i g hi
            have hJ : MI (ab_st σ0 313 (bmc g)) cc rows K va R f n pl c t0 r 0 := hI0.st (by omega) (by omega) (shp_bm (by omega) (by omega))
            have j57 := hJ.h57
            refine hA 11 _ rfl _ _ _ _ _ ?_
            refine Exists.intro _ (And.intro (by first | assumption | exact st_s | exact st_e (by decide) (by assumption) | exact st_e (by omega) (by assumption) | exact st_e (by decide) st_s | exact st_e (by omega) st_s | exact st_e (by decide) (st_e (by decide) (by assumption)) | exact st_e (by omega) (st_e (by omega) (by assumption))) ?_)
            refine And.intro (And.intro (by first | assumption | exact b2i_R _ | exact rR (by omega) (by omega) | exact rR (by simp only [Int.toNat_natCast]; omega) (by simp only [Int.toNat_natCast]; omega)) (by first | assumption | exact b2i_R _ | exact rR (by omega) (by omega) | exact rR (by simp only [Int.toNat_natCast]; omega) (by simp only [Int.toNat_natCast]; omega))) (And.intro (fun q => ?_) (fun q => ?_))
            · omega
            · refine hA 12 _ rfl _ _ _ _ _ ?_
              refine And.intro (And.intro (by first | assumption | exact b2i_R _ | exact rR (by omega) (by omega) | exact rR (by simp only [Int.toNat_natCast]; omega) (by simp only [Int.toNat_natCast]; omega)) (by first | assumption | exact b2i_R _ | exact rR (by omega) (by omega) | exact rR (by simp only [Int.toNat_natCast]; omega) (by simp only [Int.toNat_natCast]; omega))) (And.intro (fun q => ?_) (fun q => ?_))
              · refine hA 14 _ rfl _ _ _ _ _ ?_
                refine Exists.intro _ (And.intro (by first | assumption | exact st_s | exact st_e (by decide) (by assumption) | exact st_e (by omega) (by assumption) | exact st_e (by decide) st_s | exact st_e (by omega) st_s | exact st_e (by decide) (st_e (by decide) (by assumption)) | exact st_e (by omega) (st_e (by omega) (by assumption))) (And.intro rfl (ab_inv_of (m_wordsOfColumn j57 p13 hr (hJ.k (k := i) (by omega)) (hJ.v (k := i) (by omega)) (o := g) st_s) (by first | decide | omega) (by omega) (by omega) ?_)))
                intro z τ hpost
                obtain ⟨rfl, g9, rfl⟩ := hpost
                rw [st_st]
                have ihi := ih (i + 1) g9 (by omega)
                rw [show sm (wordsC rows K va) (i + 1) = sm (wordsC rows K va) i + wordsC rows K va i from rfl, Int.natCast_add] at ihi
                refine hA 15 _ rfl _ _ _ _ _ ?_
                exact ihi
              · exact absurd q (by decide)
        have l0 := loop cc 0 o (by omega)
        rw [st_id ho] at l0
        refine hA 10 _ rfl _ _ _ _ _ ?_
        exact l0
      refine hA 5 _ rfl _ _ _ _ _ ?_
      refine And.intro (by first | assumption | exact b2i_R _ | exact rR (by omega) (by omega) | exact rR (by simp only [Int.toNat_natCast]; omega) (by simp only [Int.toNat_natCast]; omega)) ?_
      exact And.intro (fun q => j6 (by omega)) (fun q0 => And.intro (fun q => j7 (by omega)) (fun q1 => And.intro (fun q => j8 (by omega)) (fun q2 => And.intro (fun q => j9 (by omega)) (fun q3 => And.intro (fun q => j10 (by omega)) (fun q4 => And.intro (fun q => j10b (by omega)) (fun q5 => j17 (by omega)))))))
    · exact absurd rfl q
  have gF1 : ¬ (0 ≤ what ∧ what ≤ 6) → At 3 [some (rf 57), some (.inl what), none, none] [.inl 1, rf 57] σ0 0 0 := fun hP1 => by
    refine hA 3 _ rfl _ _ _ _ _ ?_
    refine Exists.intro _ (And.intro (by first | assumption | exact st_s | exact st_e (by decide) (by assumption) | exact st_e (by omega) (by assumption) | exact st_e (by decide) st_s | exact st_e (by omega) st_s | exact st_e (by decide) (st_e (by decide) (by assumption)) | exact st_e (by omega) (st_e (by omega) (by assumption))) (And.intro rfl (ab_inv_ev (m_bad1 p57 p0 p58 1 1 (by decide) (by decide) (by decide)) (by first | decide | omega) (by first | exact Nat.le_refl _ | omega) (by first | exact Nat.le_refl _ | omega) ?_)))
    refine And.intro (by first | assumption | exact b2i_R _ | exact rR (by omega) (by omega) | exact rR (by simp only [Int.toNat_natCast]; omega) (by simp only [Int.toNat_natCast]; omega)) (And.intro (fun q => ?_) (fun q => ?_))
    · exact absurd q (by decide)
    · refine hA 4 _ rfl _ _ _ _ _ ?_
      exact md_no (by unfold sp_told; rw [if_neg hP1] <;> rfl) hf0 hI0 rfl
  have gO1 : ¬ (0 ≤ what ∧ what ≤ 6) → At 1 [some (rf 57), some (.inl what), none, none] [rf 57] σ0 0 0 := fun h => by
    refine hA 1 _ rfl _ _ _ _ _ ?_
    exact gF1 h
  have gZ1 : (0 ≤ what ∧ what ≤ 6) → At 2 [some (rf 57), some (.inl what), none, none] [rf 57] σ0 0 0 := fun h => by
    refine hA 2 _ rfl _ _ _ _ _ ?_
    exact gK1 h
  refine hA 0 _ rfl _ _ _ _ _ ?_
  refine Exists.intro _ (And.intro (q57) ?_)
  rw [m10_s0, ht0, hs0]
  refine And.intro rfl (ab_inv_ev (m_in what 0 6 hwhat (rR (by omega) (by omega)) (rR (by omega) (by omega))) (by first | decide | omega) (by first | exact Nat.le_refl _ | omega) (by first | exact Nat.le_refl _ | omega) ?_)
  refine And.intro (by first | assumption | exact b2i_R _ | exact rR (by omega) (by omega) | exact rR (by simp only [Int.toNat_natCast]; omega) (by simp only [Int.toNat_natCast]; omega)) (And.intro (fun q => ?_) (fun q => ?_))
  · have q00 := of_decide_eq_true (b2i_1 q)
    exact gZ1 (by omega)
  · exact gO1 (by have q1 := of_decide_eq_false (b2i_0 q); omega)
set_option maxRecDepth 100000 in
set_option maxHeartbeats 1000000 in
theorem g_readings (hI : MI σ cc rows K va R f n pl c t r th) (k what : Int) (hk : ab_R k) (hwhat : ab_R what) : ab_call 10 0 0 yX10_readings [rf 57, .inl k, .inl what] σ (mdP σ (cc, rows, K, va, R, f, n, pl, c) r (fun i => (i : Int) + 1) (stq (cc, rows, K, va, R, f, n, pl, c) (sp_readings cc K k what))) := by
  have q57 := hI.h57
  have hr := hI.hr
  have hcc := hI.hc
  have hgl := gu_le hr
  have hI0 := hI.uth 0
  have hf0 : fr mA σ (ab_st σ 57 (m10 (ab_up t 0 0))) := fr_st (by unfold mA; omega)
  generalize ht0 : ab_up t 0 0 = t0 at hI0 hf0
  generalize hs0 : ab_st σ 57 (m10 t0) = σ0 at hI0 hf0
  have p57 := hI0.h57
  have p58 := hI0.h58
  have p0 := hI0.t0
  have p2 := hI0.t2
  have p12 := hI0.t12
  have p13 := hI0.t13
  refine eX10_readings rfl (fun At hA => ?_)
  have gK1 : (0 ≤ k ∧ k < cc) → At 3 [some (rf 57), some (.inl k), some (.inl what), none, none, none] [.inl 0, rf 57] σ0 0 0 := fun hP1 => by
    refine hA 3 _ rfl _ _ _ _ _ ?_
    refine Exists.intro _ (And.intro (by first | assumption | exact st_s | exact st_e (by decide) (by assumption) | exact st_e (by omega) (by assumption) | exact st_e (by decide) st_s | exact st_e (by omega) st_s | exact st_e (by decide) (st_e (by decide) (by assumption)) | exact st_e (by omega) (st_e (by omega) (by assumption))) (And.intro rfl (ab_inv_ev (m_bad0 p57 p0 1 0) (by first | decide | omega) (by first | exact Nat.le_refl _ | omega) (by first | exact Nat.le_refl _ | omega) ?_)))
    refine And.intro (by first | assumption | exact b2i_R _ | exact rR (by omega) (by omega) | exact rR (by simp only [Int.toNat_natCast]; omega) (by simp only [Int.toNat_natCast]; omega)) (And.intro (fun q => ?_) (fun q => ?_))
    · exact absurd rfl q
    · have gK2 : (0 ≤ what ∧ what ≤ 1) → At 7 [some (rf 57), some (.inl k), some (.inl what), none, none, none] [.inl 0, rf 57] σ0 0 0 := fun hP2 => by
        refine hA 7 _ rfl _ _ _ _ _ ?_
        refine Exists.intro _ (And.intro (by first | assumption | exact st_s | exact st_e (by decide) (by assumption) | exact st_e (by omega) (by assumption) | exact st_e (by decide) st_s | exact st_e (by omega) st_s | exact st_e (by decide) (st_e (by decide) (by assumption)) | exact st_e (by omega) (st_e (by omega) (by assumption))) (And.intro rfl (ab_inv_ev (m_bad0 p57 p0 2 1) (by first | decide | omega) (by first | exact Nat.le_refl _ | omega) (by first | exact Nat.le_refl _ | omega) ?_)))
        refine And.intro (by first | assumption | exact b2i_R _ | exact rR (by omega) (by omega) | exact rR (by simp only [Int.toNat_natCast]; omega) (by simp only [Int.toNat_natCast]; omega)) (And.intro (fun q => ?_) (fun q => ?_))
        · obtain ⟨k', rfl⟩ : ∃ m : Nat, k = (m : Int) := ⟨k.toNat, by omega⟩
          obtain ⟨what', rfl⟩ : ∃ m : Nat, what = (m : Int) := ⟨what.toNat, by omega⟩
          have hK := hI0.k (k := k') (by omega)
          obtain ⟨a1, a2, a3, gg, a4, a5, a6, a7, a8⟩ := id hK
          obtain ⟨o1, o2, o3, o4, o5, -⟩ := id a2
          have hro : ∀ v : Nat, v < 1000 → ab_ev 3 yX10_readingsOf [rf 57, .inl (k' : Nat), .inl v] σ0 (some (.inl (rdK K k' v : Nat))) σ0 := fun v hv => by
            have := m_readingsOf p57 hK v hv
            unfold rdK
            exact this
          have hrb := rdK_le (K := K) (c := k') a2
          have hmb := mxF_le hrb
          have fin : At 12 [some (rf 57), some (.inl (k' : Nat)), some (.inl (what' : Nat)), some (.inl (sm (rdK K k') (K k').2.1 : Nat)), some (.inl (mxF (rdK K k') (K k').2.1 : Nat)), some (.inl (K k').2.1)] [] σ0 0 0 := by
            have k15 : ∀ z : Int, sp_readings cc K (k' : Nat) (what' : Nat) = .inl z → ∀ L, At 15 L [.inl z] σ0 0 0 := fun z hz L => by
              refine hA 15 _ rfl _ _ _ _ _ ?_
              exact md_as hz rfl hf0 hI0
            refine hA 12 _ rfl _ _ _ _ _ ?_
            refine And.intro (by first | assumption | exact b2i_R _ | exact rR (by omega) (by omega) | exact rR (by simp only [Int.toNat_natCast]; omega) (by simp only [Int.toNat_natCast]; omega)) (And.intro (fun q => ?_) (fun q => ?_))
            · refine hA 14 _ rfl _ _ _ _ _ ?_
              refine k15 _ ?_ _
              unfold sp_readings
              rw [if_pos hP1, if_pos hP2, if_neg (by omega)] <;> rfl
            · refine hA 13 _ rfl _ _ _ _ _ ?_
              refine k15 _ ?_ _
              unfold sp_readings
              rw [if_pos hP1, if_pos hP2, if_pos (by omega)] <;> rfl
          have loop : ∀ m v : Nat, v + m = (K k').2.1 → At 10 [some (rf 57), some (.inl (k' : Nat)), some (.inl (what' : Nat)), some (.inl (sm (rdK K k') v : Nat)), some (.inl (mxF (rdK K k') v : Nat)), some (.inl v)] [] σ0 0 0 := by
            intro m
            induction m with
            | zero =>
              intro v hv
              have hv : v = (K k').2.1 := by omega
              subst hv
              refine hA 10 _ rfl _ _ _ _ _ ?_
              refine Exists.intro _ (And.intro (p57) ?_)
              refine Exists.intro _ (Exists.intro _ (And.intro (a3) (And.intro (by omega) ?_)))
              refine Exists.intro _ (Exists.intro _ (And.intro (a4) (And.intro (by omega) ?_)))
              refine And.intro (And.intro (rR (by omega) (by omega)) (show ab_R (gg 0) from rR (by omega) (by omega))) (And.intro (fun q => ?_) (fun q => ?_))
              · exact fin
              · have q : (((K k').2.1 : Nat) : Int) < gg 0 := q
                omega
            | succ m ih =>
              intro v hv
              have ihv := ih (v + 1) (by omega)
              have hb1 := hrb v
              have hb2 := hmb v
              have hmo := m_more (σ := σ0) (mxF (rdK K k') v : Nat) (rdK K k' v : Nat) (rR (by omega) (by omega)) (rR (by omega) (by omega))
              have hmx : ((if ((mxF (rdK K k') v : Nat) : Int) ≤ ((rdK K k' v : Nat) : Int) then ((rdK K k' v : Nat) : Int) else ((mxF (rdK K k') v : Nat) : Int)) : Int) = ((mxF (rdK K k') (v + 1) : Nat) : Int) := by
                rw [show mxF (rdK K k') (v + 1) = max (mxF (rdK K k') v) (rdK K k' v) from rfl]
                split <;> omega
              rw [hmx] at hmo
              rw [show sm (rdK K k') (v + 1) = sm (rdK K k') v + rdK K k' v from rfl, Int.natCast_add] at ihv
              refine hA 10 _ rfl _ _ _ _ _ ?_
              refine Exists.intro _ (And.intro (p57) ?_)
              refine Exists.intro _ (Exists.intro _ (And.intro (a3) (And.intro (by omega) ?_)))
              refine Exists.intro _ (Exists.intro _ (And.intro (a4) (And.intro (by omega) ?_)))
              refine And.intro (And.intro (rR (by omega) (by omega)) (show ab_R (gg 0) from rR (by omega) (by omega))) (And.intro (fun q => ?_) (fun q => ?_))
              · have q : gg 0 ≤ ((v : Nat) : Int) := q
                omega
              · refine hA 11 _ rfl _ _ _ _ _ ?_
                refine Exists.intro _ (And.intro (by first | assumption | exact st_s | exact st_e (by decide) (by assumption) | exact st_e (by omega) (by assumption) | exact st_e (by decide) st_s | exact st_e (by omega) st_s | exact st_e (by decide) (st_e (by decide) (by assumption)) | exact st_e (by omega) (st_e (by omega) (by assumption))) (And.intro rfl (ab_inv_ev (hro v (by omega)) (by first | decide | omega) (by first | exact Nat.le_refl _ | omega) (by first | exact Nat.le_refl _ | omega) ?_)))
                refine Exists.intro _ (And.intro (by first | assumption | exact st_s | exact st_e (by decide) (by assumption) | exact st_e (by omega) (by assumption) | exact st_e (by decide) st_s | exact st_e (by omega) st_s | exact st_e (by decide) (st_e (by decide) (by assumption)) | exact st_e (by omega) (st_e (by omega) (by assumption))) (And.intro rfl (ab_inv_ev (hro v (by omega)) (by first | decide | omega) (by first | exact Nat.le_refl _ | omega) (by first | exact Nat.le_refl _ | omega) ?_)))
                refine And.intro rfl (ab_inv_ev hmo (by first | decide | omega) (by first | exact Nat.le_refl _ | omega) (by first | exact Nat.le_refl _ | omega) ?_)
                exact ihv
          refine hA 9 _ rfl _ _ _ _ _ ?_
          exact loop (K k').2.1 0 (by omega)
        · exact absurd rfl q
      have gF2 : ¬ (0 ≤ what ∧ what ≤ 1) → At 7 [some (rf 57), some (.inl k), some (.inl what), none, none, none] [.inl 1, rf 57] σ0 0 0 := fun hP2 => by
        refine hA 7 _ rfl _ _ _ _ _ ?_
        refine Exists.intro _ (And.intro (by first | assumption | exact st_s | exact st_e (by decide) (by assumption) | exact st_e (by omega) (by assumption) | exact st_e (by decide) st_s | exact st_e (by omega) st_s | exact st_e (by decide) (st_e (by decide) (by assumption)) | exact st_e (by omega) (st_e (by omega) (by assumption))) (And.intro rfl (ab_inv_ev (m_bad1 p57 p0 p58 2 1 (by decide) (by decide) (by decide)) (by first | decide | omega) (by first | exact Nat.le_refl _ | omega) (by first | exact Nat.le_refl _ | omega) ?_)))
        refine And.intro (by first | assumption | exact b2i_R _ | exact rR (by omega) (by omega) | exact rR (by simp only [Int.toNat_natCast]; omega) (by simp only [Int.toNat_natCast]; omega)) (And.intro (fun q => ?_) (fun q => ?_))
        · exact absurd q (by decide)
        · refine hA 8 _ rfl _ _ _ _ _ ?_
          exact md_no (by unfold sp_readings; rw [if_pos hP1, if_neg hP2] <;> rfl) hf0 hI0 rfl
      have gO2 : ¬ (0 ≤ what ∧ what ≤ 1) → At 5 [some (rf 57), some (.inl k), some (.inl what), none, none, none] [rf 57] σ0 0 0 := fun h => by
        refine hA 5 _ rfl _ _ _ _ _ ?_
        exact gF2 h
      have gZ2 : (0 ≤ what ∧ what ≤ 1) → At 6 [some (rf 57), some (.inl k), some (.inl what), none, none, none] [rf 57] σ0 0 0 := fun h => by
        refine hA 6 _ rfl _ _ _ _ _ ?_
        exact gK2 h
      refine hA 4 _ rfl _ _ _ _ _ ?_
      refine And.intro rfl (ab_inv_ev (m_in what 0 1 hwhat (rR (by omega) (by omega)) (rR (by omega) (by omega))) (by first | decide | omega) (by first | exact Nat.le_refl _ | omega) (by first | exact Nat.le_refl _ | omega) ?_)
      refine And.intro (by first | assumption | exact b2i_R _ | exact rR (by omega) (by omega) | exact rR (by simp only [Int.toNat_natCast]; omega) (by simp only [Int.toNat_natCast]; omega)) (And.intro (fun q => ?_) (fun q => ?_))
      · have q10 := of_decide_eq_true (b2i_1 q)
        exact gZ2 (by omega)
      · exact gO2 (by have q1 := of_decide_eq_false (b2i_0 q); omega)
  have gF1 : ¬ (0 ≤ k ∧ k < cc) → At 3 [some (rf 57), some (.inl k), some (.inl what), none, none, none] [.inl 1, rf 57] σ0 0 0 := fun hP1 => by
    refine hA 3 _ rfl _ _ _ _ _ ?_
    refine Exists.intro _ (And.intro (by first | assumption | exact st_s | exact st_e (by decide) (by assumption) | exact st_e (by omega) (by assumption) | exact st_e (by decide) st_s | exact st_e (by omega) st_s | exact st_e (by decide) (st_e (by decide) (by assumption)) | exact st_e (by omega) (st_e (by omega) (by assumption))) (And.intro rfl (ab_inv_ev (m_bad1 p57 p0 p58 1 0 (by decide) (by decide) (by decide)) (by first | decide | omega) (by first | exact Nat.le_refl _ | omega) (by first | exact Nat.le_refl _ | omega) ?_)))
    refine And.intro (by first | assumption | exact b2i_R _ | exact rR (by omega) (by omega) | exact rR (by simp only [Int.toNat_natCast]; omega) (by simp only [Int.toNat_natCast]; omega)) (And.intro (fun q => ?_) (fun q => ?_))
    · refine hA 8 _ rfl _ _ _ _ _ ?_
      exact md_no (by unfold sp_readings; rw [if_neg hP1] <;> rfl) hf0 hI0 rfl
    · exact absurd q (by decide)
  have gO1 : ¬ (0 ≤ k ∧ k < cc) → At 1 [some (rf 57), some (.inl k), some (.inl what), none, none, none] [rf 57] σ0 0 0 := fun h => by
    refine hA 1 _ rfl _ _ _ _ _ ?_
    exact gF1 h
  have gZ1 : (0 ≤ k ∧ k < cc) → At 2 [some (rf 57), some (.inl k), some (.inl what), none, none, none] [rf 57] σ0 0 0 := fun h => by
    refine hA 2 _ rfl _ _ _ _ _ ?_
    exact gK1 h
  refine hA 0 _ rfl _ _ _ _ _ ?_
  refine Exists.intro _ (And.intro (q57) ?_)
  rw [m10_s0, ht0, hs0]
  refine Exists.intro _ (And.intro (by first | assumption | exact st_s | exact st_e (by decide) (by assumption) | exact st_e (by omega) (by assumption) | exact st_e (by decide) st_s | exact st_e (by omega) st_s | exact st_e (by decide) (st_e (by decide) (by assumption)) | exact st_e (by omega) (st_e (by omega) (by assumption))) (And.intro rfl (ab_inv_ev (m_isColumn p57 p12 hcc k hk) (by first | decide | omega) (by first | exact Nat.le_refl _ | omega) (by first | exact Nat.le_refl _ | omega) ?_)))
  refine And.intro (by first | assumption | exact b2i_R _ | exact rR (by omega) (by omega) | exact rR (by simp only [Int.toNat_natCast]; omega) (by simp only [Int.toNat_natCast]; omega)) (And.intro (fun q => ?_) (fun q => ?_))
  · have q00 := of_decide_eq_true (b2i_1 q)
    exact gZ1 (by omega)
  · exact gO1 (by have q1 := of_decide_eq_false (b2i_0 q); omega)
end Mask3
