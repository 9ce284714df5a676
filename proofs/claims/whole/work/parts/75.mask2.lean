-- ===== the model's calls that ask =====
section Mask
variable {σ : ab_H} {cc rows : Nat} {K : Nat → CT} {va : Nat → Nat → Nat} {R : Nat → V1} {f : Nat → Int} {n : Nat} {pl : Int} {c : C3} {t : Nat → Int} {r : Nat → Nat} {th : Int}
set_option maxRecDepth 100000 in
set_option maxHeartbeats 1000000 in
theorem g_fault (hI : MI σ cc rows K va R f n pl c t r th)  : ab_call 1 0 0 yX10_fault [rf 57] σ (mdP σ (cc, rows, K, va, R, f, n, pl, c) r (fun i => (i : Int)) (stq (cc, rows, K, va, R, f, n, pl, c) (.inl pl))) := by
  have q57 := hI.h57
  have hr := hI.hr
  have hcc := hI.hc
  have hgl := gu_le hr
  have hI0 := hI.uth 0
  have hf0 : fr mA σ (ab_st σ 57 (m10 (ab_up t 0 0))) := fr_st (by unfold mA; omega)
  generalize ht0 : ab_up t 0 0 = t0 at hI0 hf0
  generalize hs0 : ab_st σ 57 (m10 t0) = σ0 at hI0 hf0
  have p57 := hI0.h57
  have p58 := hI0.h58
  have p0 := hI0.t0
  have p2 := hI0.t2
  have p12 := hI0.t12
  have p13 := hI0.t13
  refine eX10_fault rfl (fun At hA => ?_)
  refine hA 0 _ rfl _ _ _ _ _ ?_
  refine Exists.intro _ (And.intro (q57) ?_)
  rw [m10_s0, ht0, hs0]
  refine Exists.intro _ (And.intro (by first | assumption | exact st_s | exact st_e (by decide) (by assumption) | exact st_e (by omega) (by assumption) | exact st_e (by decide) st_s | exact st_e (by omega) st_s | exact st_e (by decide) (st_e (by decide) (by assumption)) | exact st_e (by omega) (st_e (by omega) (by assumption))) ?_)
  exact md_as (e := fun i => (i : Int)) rfl hI0.t5 hf0 hI0
set_option maxRecDepth 100000 in
set_option maxHeartbeats 1000000 in
theorem g_status (hI : MI σ cc rows K va R f n pl c t r th) (what : Int) (hwhat : ab_R what) : ab_call 2 0 0 yX10_status [rf 57, .inl what] σ (mdP σ (cc, rows, K, va, R, f, n, pl, c) r (fun i => (i : Int)) (stq (cc, rows, K, va, R, f, n, pl, c) (sp_status r what))) := by
  have q57 := hI.h57
  have hr := hI.hr
  have hcc := hI.hc
  have hgl := gu_le hr
  have hI0 := hI.uth 0
  have hf0 : fr mA σ (ab_st σ 57 (m10 (ab_up t 0 0))) := fr_st (by unfold mA; omega)
  generalize ht0 : ab_up t 0 0 = t0 at hI0 hf0
  generalize hs0 : ab_st σ 57 (m10 t0) = σ0 at hI0 hf0
  have p57 := hI0.h57
  have p58 := hI0.h58
  have p0 := hI0.t0
  have p2 := hI0.t2
  have p12 := hI0.t12
  have p13 := hI0.t13
  refine eX10_status rfl (fun At hA => ?_)
  have k3 : ∀ z : Int, sp_status r what = .inl z → At 3 [some (rf 57), some (.inl what)] [.inl z] σ0 0 0 := fun z hz => by
    refine hA 3 _ rfl _ _ _ _ _ ?_
    exact md_as (e := fun i => (i : Int)) hz rfl hf0 hI0
  refine hA 0 _ rfl _ _ _ _ _ ?_
  refine Exists.intro _ (And.intro (q57) ?_)
  rw [m10_s0, ht0, hs0]
  refine And.intro rfl (ab_inv_ev (m_in what 0 2 hwhat (rR (by omega) (by omega)) (rR (by omega) (by omega))) (by first | decide | omega) (by first | exact Nat.le_refl _ | omega) (by first | exact Nat.le_refl _ | omega) ?_)
  refine And.intro (by first | assumption | exact b2i_R _ | exact rR (by omega) (by omega) | exact rR (by simp only [Int.toNat_natCast]; omega) (by simp only [Int.toNat_natCast]; omega)) (And.intro (fun q => ?_) (fun q => ?_))
  · have q1 := of_decide_eq_false (b2i_0 q)
    refine hA 2 _ rfl _ _ _ _ _ ?_
    refine k3 _ ?_
    unfold sp_status
    rw [if_neg (by omega), if_neg (by omega), if_neg (by omega)]
  · have q1 := of_decide_eq_true (b2i_1 q)
    obtain ⟨what', rfl⟩ : ∃ m : Nat, what = (m : Int) := ⟨what.toNat, by omega⟩
    refine hA 1 _ rfl _ _ _ _ _ ?_
    refine Exists.intro _ (And.intro (p57) ?_)
    refine Exists.intro _ (Exists.intro _ (And.intro (p58) (And.intro (by omega) ?_)))
    refine k3 _ ?_
    unfold sp_status
    rcases (show what' = 0 ∨ what' = 1 ∨ what' = 2 by omega) with rfl | rfl | rfl <;> rfl
set_option maxRecDepth 100000 in
set_option maxHeartbeats 1000000 in
theorem g_cost (hI : MI σ cc rows K va R f n pl c t r th) (what : Int) (hwhat : ab_R what) : ab_call 10 0 0 yX10_cost [rf 57, .inl what] σ (mdP σ (cc, rows, K, va, R, f, n, pl, c) r (fun i => (i : Int)) (stq (cc, rows, K, va, R, f, n, pl, c) (sp_cost c what))) := by
  have q57 := hI.h57
  have hr := hI.hr
  have hcc := hI.hc
  have hgl := gu_le hr
  have hI0 := hI.uth 0
  have hf0 : fr mA σ (ab_st σ 57 (m10 (ab_up t 0 0))) := fr_st (by unfold mA; omega)
  generalize ht0 : ab_up t 0 0 = t0 at hI0 hf0
  generalize hs0 : ab_st σ 57 (m10 t0) = σ0 at hI0 hf0
  have p57 := hI0.h57
  have p58 := hI0.h58
  have p0 := hI0.t0
  have p2 := hI0.t2
  have p12 := hI0.t12
  have p13 := hI0.t13
  refine eX10_cost rfl (fun At hA => ?_)
  have gK1 : (0 ≤ what ∧ what ≤ 2) → At 3 [some (rf 57), some (.inl what)] [.inl 0, rf 57] σ0 0 0 := fun hP1 => by
    refine hA 3 _ rfl _ _ _ _ _ ?_
    refine Exists.intro _ (And.intro (by first | assumption | exact st_s | exact st_e (by decide) (by assumption) | exact st_e (by omega) (by assumption) | exact st_e (by decide) st_s | exact st_e (by omega) st_s | exact st_e (by decide) (st_e (by decide) (by assumption)) | exact st_e (by omega) (st_e (by omega) (by assumption))) (And.intro rfl (ab_inv_ev (m_bad0 p57 p0 1 1) (by first | decide | omega) (by first | exact Nat.le_refl _ | omega) (by first | exact Nat.le_refl _ | omega) ?_)))
    refine And.intro (by first | assumption | exact b2i_R _ | exact rR (by omega) (by omega) | exact rR (by simp only [Int.toNat_natCast]; omega) (by simp only [Int.toNat_natCast]; omega)) (And.intro (fun q => ?_) (fun q => ?_))
    · have k10 : ∀ z : Int, sp_cost c what = .inl z → At 10 [some (rf 57), some (.inl what)] [.inl z] σ0 0 0 := fun z hz => by
        refine hA 10 _ rfl _ _ _ _ _ ?_
        exact md_as hz rfl hf0 hI0
      have htc := hI0.tc
      refine hA 5 _ rfl _ _ _ _ _ ?_
      refine And.intro (by first | assumption | exact b2i_R _ | exact rR (by omega) (by omega) | exact rR (by simp only [Int.toNat_natCast]; omega) (by simp only [Int.toNat_natCast]; omega)) (And.intro (fun q => ?_) (fun q => ?_))
      · refine hA 7 _ rfl _ _ _ _ _ ?_
        refine And.intro (And.intro (by first | assumption | exact b2i_R _ | exact rR (by omega) (by omega) | exact rR (by simp only [Int.toNat_natCast]; omega) (by simp only [Int.toNat_natCast]; omega)) (by first | assumption | exact b2i_R _ | exact rR (by omega) (by omega) | exact rR (by simp only [Int.toNat_natCast]; omega) (by simp only [Int.toNat_natCast]; omega))) (And.intro (fun q => ?_) (fun q => ?_))
        · refine hA 9 _ rfl _ _ _ _ _ ?_
          refine Exists.intro _ (And.intro (by first | assumption | exact st_s | exact st_e (by decide) (by assumption) | exact st_e (by omega) (by assumption) | exact st_e (by decide) st_s | exact st_e (by omega) st_s | exact st_e (by decide) (st_e (by decide) (by assumption)) | exact st_e (by omega) (st_e (by omega) (by assumption))) ?_)
          refine k10 _ ?_
          unfold sp_cost
          rw [if_pos hP1, if_neg (by omega), if_neg (by omega), htc.2.2]
        · refine hA 8 _ rfl _ _ _ _ _ ?_
          refine Exists.intro _ (And.intro (by first | assumption | exact st_s | exact st_e (by decide) (by assumption) | exact st_e (by omega) (by assumption) | exact st_e (by decide) st_s | exact st_e (by omega) st_s | exact st_e (by decide) (st_e (by decide) (by assumption)) | exact st_e (by omega) (st_e (by omega) (by assumption))) ?_)
          refine k10 _ ?_
          unfold sp_cost
          rw [if_pos hP1, if_neg (by omega), if_pos (by omega), htc.2.1]
      · refine hA 6 _ rfl _ _ _ _ _ ?_
        refine Exists.intro _ (And.intro (by first | assumption | exact st_s | exact st_e (by decide) (by assumption) | exact st_e (by omega) (by assumption) | exact st_e (by decide) st_s | exact st_e (by omega) st_s | exact st_e (by decide) (st_e (by decide) (by assumption)) | exact st_e (by omega) (st_e (by omega) (by assumption))) ?_)
        refine k10 _ ?_
        unfold sp_cost
        rw [if_pos hP1, if_pos (by omega), htc.1]
    · exact absurd rfl q
  have gF1 : ¬ (0 ≤ what ∧ what ≤ 2) → At 3 [some (rf 57), some (.inl what)] [.inl 1, rf 57] σ0 0 0 := fun hP1 => by
    refine hA 3 _ rfl _ _ _ _ _ ?_
    refine Exists.intro _ (And.intro (by first | assumption | exact st_s | exact st_e (by decide) (by assumption) | exact st_e (by omega) (by assumption) | exact st_e (by decide) st_s | exact st_e (by omega) st_s | exact st_e (by decide) (st_e (by decide) (by assumption)) | exact st_e (by omega) (st_e (by omega) (by assumption))) (And.intro rfl (ab_inv_ev (m_bad1 p57 p0 p58 1 1 (by decide) (by decide) (by decide)) (by first | decide | omega) (by first | exact Nat.le_refl _ | omega) (by first | exact Nat.le_refl _ | omega) ?_)))
    refine And.intro (by first | assumption | exact b2i_R _ | exact rR (by omega) (by omega) | exact rR (by simp only [Int.toNat_natCast]; omega) (by simp only [Int.toNat_natCast]; omega)) (And.intro (fun q => ?_) (fun q => ?_))
    · exact absurd q (by decide)
    · refine hA 4 _ rfl _ _ _ _ _ ?_
      exact md_no (by unfold sp_cost; rw [if_neg hP1] <;> rfl) hf0 hI0 rfl
  have gO1 : ¬ (0 ≤ what ∧ what ≤ 2) → At 1 [some (rf 57), some (.inl what)] [rf 57] σ0 0 0 := fun h => by
    refine hA 1 _ rfl _ _ _ _ _ ?_
    exact gF1 h
  have gZ1 : (0 ≤ what ∧ what ≤ 2) → At 2 [some (rf 57), some (.inl what)] [rf 57] σ0 0 0 := fun h => by
    refine hA 2 _ rfl _ _ _ _ _ ?_
    exact gK1 h
  refine hA 0 _ rfl _ _ _ _ _ ?_
  refine Exists.intro _ (And.intro (q57) ?_)
  rw [m10_s0, ht0, hs0]
  refine And.intro rfl (ab_inv_ev (m_in what 0 2 hwhat (rR (by omega) (by omega)) (rR (by omega) (by omega))) (by first | decide | omega) (by first | exact Nat.le_refl _ | omega) (by first | exact Nat.le_refl _ | omega) ?_)
  refine And.intro (by first | assumption | exact b2i_R _ | exact rR (by omega) (by omega) | exact rR (by simp only [Int.toNat_natCast]; omega) (by simp only [Int.toNat_natCast]; omega)) (And.intro (fun q => ?_) (fun q => ?_))
  · have q00 := of_decide_eq_true (b2i_1 q)
    exact gZ1 (by omega)
  · exact gO1 (by have q1 := of_decide_eq_false (b2i_0 q); omega)
set_option maxRecDepth 100000 in
set_option maxHeartbeats 1000000 in
theorem g_base (hI : MI σ cc rows K va R f n pl c t r th) (k p : Int) (hk : ab_R k) (hp : ab_R p) : ab_call 10 0 0 yX10_base [rf 57, .inl k, .inl p] σ (mdP σ (cc, rows, K, va, R, f, n, pl, c) r (fun i => (i : Int) + 1) (stq (cc, rows, K, va, R, f, n, pl, c) (sp_base cc K k p))) := by
  have q57 := hI.h57
  have hr := hI.hr
  have hcc := hI.hc
  have hgl := gu_le hr
  have hI0 := hI.uth 0
  have hf0 : fr mA σ (ab_st σ 57 (m10 (ab_up t 0 0))) := fr_st (by unfold mA; omega)
  generalize ht0 : ab_up t 0 0 = t0 at hI0 hf0
  generalize hs0 : ab_st σ 57 (m10 t0) = σ0 at hI0 hf0
  have p57 := hI0.h57
  have p58 := hI0.h58
  have p0 := hI0.t0
  have p2 := hI0.t2
  have p12 := hI0.t12
  have p13 := hI0.t13
  refine eX10_base rfl (fun At hA => ?_)
  have gK1 : ((0 ≤ k ∧ k < cc) ∧ 1 ≤ p ∧ p ≤ (K k.toNat).2.2.1) → At 3 [some (rf 57), some (.inl k), some (.inl p)] [.inl 0, rf 57] σ0 0 0 := fun hP1 => by
    refine hA 3 _ rfl _ _ _ _ _ ?_
    refine Exists.intro _ (And.intro (by first | assumption | exact st_s | exact st_e (by decide) (by assumption) | exact st_e (by omega) (by assumption) | exact st_e (by decide) st_s | exact st_e (by omega) st_s | exact st_e (by decide) (st_e (by decide) (by assumption)) | exact st_e (by omega) (st_e (by omega) (by assumption))) (And.intro rfl (ab_inv_ev (m_bad0 p57 p0 1 0) (by first | decide | omega) (by first | exact Nat.le_refl _ | omega) (by first | exact Nat.le_refl _ | omega) ?_)))
    refine And.intro (by first | assumption | exact b2i_R _ | exact rR (by omega) (by omega) | exact rR (by simp only [Int.toNat_natCast]; omega) (by simp only [Int.toNat_natCast]; omega)) (And.intro (fun q => ?_) (fun q => ?_))
    · obtain ⟨k', rfl⟩ : ∃ m : Nat, k = (m : Int) := ⟨k.toNat, by omega⟩
      have hb := m_baseOf p57 (hI0.k (k := k') (by omega)) (p - 1).toNat (by have := hP1.2.2; rw [Int.toNat_natCast] at this; omega)
      rw [show (((p - 1).toNat + 1 : Nat) : Int) = p by omega] at hb
      refine hA 5 _ rfl _ _ _ _ _ ?_
      refine Exists.intro _ (And.intro (by first | assumption | exact st_s | exact st_e (by decide) (by assumption) | exact st_e (by omega) (by assumption) | exact st_e (by decide) st_s | exact st_e (by omega) st_s | exact st_e (by decide) (st_e (by decide) (by assumption)) | exact st_e (by omega) (st_e (by omega) (by assumption))) (And.intro rfl (ab_inv_ev hb (by first | decide | omega) (by first | exact Nat.le_refl _ | omega) (by first | exact Nat.le_refl _ | omega) ?_)))
      exact md_as (by unfold sp_base; rw [if_pos hP1] <;> rfl) (rfl) hf0 hI0
    · exact absurd rfl q
  have gF1 : ¬ ((0 ≤ k ∧ k < cc) ∧ 1 ≤ p ∧ p ≤ (K k.toNat).2.2.1) → At 3 [some (rf 57), some (.inl k), some (.inl p)] [.inl 1, rf 57] σ0 0 0 := fun hP1 => by
    refine hA 3 _ rfl _ _ _ _ _ ?_
    refine Exists.intro _ (And.intro (by first | assumption | exact st_s | exact st_e (by decide) (by assumption) | exact st_e (by omega) (by assumption) | exact st_e (by decide) st_s | exact st_e (by omega) st_s | exact st_e (by decide) (st_e (by decide) (by assumption)) | exact st_e (by omega) (st_e (by omega) (by assumption))) (And.intro rfl (ab_inv_ev (m_bad1 p57 p0 p58 1 0 (by decide) (by decide) (by decide)) (by first | decide | omega) (by first | exact Nat.le_refl _ | omega) (by first | exact Nat.le_refl _ | omega) ?_)))
    refine And.intro (by first | assumption | exact b2i_R _ | exact rR (by omega) (by omega) | exact rR (by simp only [Int.toNat_natCast]; omega) (by simp only [Int.toNat_natCast]; omega)) (And.intro (fun q => ?_) (fun q => ?_))
    · exact absurd q (by decide)
    · refine hA 4 _ rfl _ _ _ _ _ ?_
      exact md_no (by unfold sp_base; rw [if_neg hP1] <;> rfl) hf0 hI0 rfl
  have gO1 : ¬ ((0 ≤ k ∧ k < cc) ∧ 1 ≤ p ∧ p ≤ (K k.toNat).2.2.1) → At 1 [some (rf 57), some (.inl k), some (.inl p)] [rf 57] σ0 0 0 := fun h => by
    refine hA 1 _ rfl _ _ _ _ _ ?_
    exact gF1 h
  have gZ1 : ((0 ≤ k ∧ k < cc) ∧ 1 ≤ p ∧ p ≤ (K k.toNat).2.2.1) → At 2 [some (rf 57), some (.inl k), some (.inl p)] [rf 57] σ0 0 0 := fun h => by
    refine hA 2 _ rfl _ _ _ _ _ ?_
    exact gK1 h
  refine hA 0 _ rfl _ _ _ _ _ ?_
  refine Exists.intro _ (And.intro (q57) ?_)
  rw [m10_s0, ht0, hs0]
  refine Exists.intro _ (And.intro (by first | assumption | exact st_s | exact st_e (by decide) (by assumption) | exact st_e (by omega) (by assumption) | exact st_e (by decide) st_s | exact st_e (by omega) st_s | exact st_e (by decide) (st_e (by decide) (by assumption)) | exact st_e (by omega) (st_e (by omega) (by assumption))) (And.intro rfl (ab_inv_ev (m_isPart hI0 k p hk hp) (by first | decide | omega) (by first | exact Nat.le_refl _ | omega) (by first | exact Nat.le_refl _ | omega) ?_)))
  refine And.intro (by first | assumption | exact b2i_R _ | exact rR (by omega) (by omega) | exact rR (by simp only [Int.toNat_natCast]; omega) (by simp only [Int.toNat_natCast]; omega)) (And.intro (fun q => ?_) (fun q => ?_))
  · have q1 := of_decide_eq_true (b2i_1 q)
    exact gZ1 (q1)
  · exact gO1 (of_decide_eq_false (b2i_0 q))
set_option maxRecDepth 100000 in
set_option maxHeartbeats 1000000 in
theorem g_value (hI : MI σ cc rows K va R f n pl c t r th) (k row : Int) (hk : ab_R k) (hrow : ab_R row) : ab_call 10 0 0 yX10_value [rf 57, .inl k, .inl row] σ (mdP σ (cc, rows, K, va, R, f, n, pl, c) r (fun i => (i : Int) + 1) (stq (cc, rows, K, va, R, f, n, pl, c) (sp_value cc rows va k row))) := by
  have q57 := hI.h57
  have hr := hI.hr
  have hcc := hI.hc
  have hgl := gu_le hr
  have hI0 := hI.uth 0
  have hf0 : fr mA σ (ab_st σ 57 (m10 (ab_up t 0 0))) := fr_st (by unfold mA; omega)
  generalize ht0 : ab_up t 0 0 = t0 at hI0 hf0
  generalize hs0 : ab_st σ 57 (m10 t0) = σ0 at hI0 hf0
  have p57 := hI0.h57
  have p58 := hI0.h58
  have p0 := hI0.t0
  have p2 := hI0.t2
  have p12 := hI0.t12
  have p13 := hI0.t13
  refine eX10_value rfl (fun At hA => ?_)
  have gK1 : ((0 ≤ k ∧ k < cc) ∧ 0 ≤ row ∧ row < rows) → At 4 [some (rf 57), some (.inl k), some (.inl row)] [.inl 0, rf 57] σ0 0 0 := fun hP1 => by
    refine hA 4 _ rfl _ _ _ _ _ ?_
    refine Exists.intro _ (And.intro (by first | assumption | exact st_s | exact st_e (by decide) (by assumption) | exact st_e (by omega) (by assumption) | exact st_e (by decide) st_s | exact st_e (by omega) st_s | exact st_e (by decide) (st_e (by decide) (by assumption)) | exact st_e (by omega) (st_e (by omega) (by assumption))) (And.intro rfl (ab_inv_ev (m_bad0 p57 p0 1 0) (by first | decide | omega) (by first | exact Nat.le_refl _ | omega) (by first | exact Nat.le_refl _ | omega) ?_)))
    refine And.intro (by first | assumption | exact b2i_R _ | exact rR (by omega) (by omega) | exact rR (by simp only [Int.toNat_natCast]; omega) (by simp only [Int.toNat_natCast]; omega)) (And.intro (fun q => ?_) (fun q => ?_))
    · obtain ⟨k', rfl⟩ : ∃ m : Nat, k = (m : Int) := ⟨k.toNat, by omega⟩
      obtain ⟨row', rfl⟩ : ∃ m : Nat, row = (m : Int) := ⟨row.toNat, by omega⟩
      obtain ⟨q66, w, q67, hw, hva⟩ := hI0.v (k := k') (by omega)
      have hwi := hw row' (by omega)
      refine hA 6 _ rfl _ _ _ _ _ ?_
      refine Exists.intro _ (And.intro (p57) ?_)
      refine Exists.intro _ (Exists.intro _ (And.intro (q66) (And.intro (by omega) ?_)))
      refine Exists.intro _ (Exists.intro _ (And.intro (q67) (And.intro (by omega) ?_)))
      exact md_as (by unfold sp_value; rw [if_pos hP1] <;> rfl) (hwi) hf0 hI0
    · exact absurd rfl q
  have gF1 : ¬ ((0 ≤ k ∧ k < cc) ∧ 0 ≤ row ∧ row < rows) → At 4 [some (rf 57), some (.inl k), some (.inl row)] [.inl 1, rf 57] σ0 0 0 := fun hP1 => by
    refine hA 4 _ rfl _ _ _ _ _ ?_
    refine Exists.intro _ (And.intro (by first | assumption | exact st_s | exact st_e (by decide) (by assumption) | exact st_e (by omega) (by assumption) | exact st_e (by decide) st_s | exact st_e (by omega) st_s | exact st_e (by decide) (st_e (by decide) (by assumption)) | exact st_e (by omega) (st_e (by omega) (by assumption))) (And.intro rfl (ab_inv_ev (m_bad1 p57 p0 p58 1 0 (by decide) (by decide) (by decide)) (by first | decide | omega) (by first | exact Nat.le_refl _ | omega) (by first | exact Nat.le_refl _ | omega) ?_)))
    refine And.intro (by first | assumption | exact b2i_R _ | exact rR (by omega) (by omega) | exact rR (by simp only [Int.toNat_natCast]; omega) (by simp only [Int.toNat_natCast]; omega)) (And.intro (fun q => ?_) (fun q => ?_))
    · exact absurd q (by decide)
    · refine hA 5 _ rfl _ _ _ _ _ ?_
      exact md_no (by unfold sp_value; rw [if_neg hP1] <;> rfl) hf0 hI0 rfl
  have gO1 : ¬ ((0 ≤ k ∧ k < cc) ∧ 0 ≤ row ∧ row < rows) → At 2 [some (rf 57), some (.inl k), some (.inl row)] [rf 57] σ0 0 0 := fun h => by
    refine hA 2 _ rfl _ _ _ _ _ ?_
    exact gF1 h
  have gZ1 : ((0 ≤ k ∧ k < cc) ∧ 0 ≤ row ∧ row < rows) → At 3 [some (rf 57), some (.inl k), some (.inl row)] [rf 57] σ0 0 0 := fun h => by
    refine hA 3 _ rfl _ _ _ _ _ ?_
    exact gK1 h
  refine hA 0 _ rfl _ _ _ _ _ ?_
  refine Exists.intro _ (And.intro (q57) ?_)
  rw [m10_s0, ht0, hs0]
  refine Exists.intro _ (And.intro (by first | assumption | exact st_s | exact st_e (by decide) (by assumption) | exact st_e (by omega) (by assumption) | exact st_e (by decide) st_s | exact st_e (by omega) st_s | exact st_e (by decide) (st_e (by decide) (by assumption)) | exact st_e (by omega) (st_e (by omega) (by assumption))) (And.intro rfl (ab_inv_ev (m_isColumn p57 p12 hcc k hk) (by first | decide | omega) (by first | exact Nat.le_refl _ | omega) (by first | exact Nat.le_refl _ | omega) ?_)))
  refine And.intro (by first | assumption | exact b2i_R _ | exact rR (by omega) (by omega) | exact rR (by simp only [Int.toNat_natCast]; omega) (by simp only [Int.toNat_natCast]; omega)) (And.intro (fun q => ?_) (fun q => ?_))
  · exact gO1 (by have q1 := of_decide_eq_false (b2i_0 q); omega)
  · have q00 := of_decide_eq_true (b2i_1 q)
    refine hA 1 _ rfl _ _ _ _ _ ?_
    refine Exists.intro _ (And.intro (by first | assumption | exact st_s | exact st_e (by decide) (by assumption) | exact st_e (by omega) (by assumption) | exact st_e (by decide) st_s | exact st_e (by omega) st_s | exact st_e (by decide) (st_e (by decide) (by assumption)) | exact st_e (by omega) (st_e (by omega) (by assumption))) ?_)
    refine And.intro rfl (ab_inv_ev (m_in row 0 (t0 13 - 1) hrow (rR (by omega) (by omega)) (rR (by omega) (by omega))) (by first | decide | omega) (by first | exact Nat.le_refl _ | omega) (by first | exact Nat.le_refl _ | omega) ?_)
    refine And.intro (by first | assumption | exact b2i_R _ | exact rR (by omega) (by omega) | exact rR (by simp only [Int.toNat_natCast]; omega) (by simp only [Int.toNat_natCast]; omega)) (And.intro (fun q => ?_) (fun q => ?_))
    · have q01 := of_decide_eq_true (b2i_1 q)
      exact gZ1 (by omega)
    · exact gO1 (by have q1 := of_decide_eq_false (b2i_0 q); omega)
set_option maxRecDepth 100000 in
set_option maxHeartbeats 1000000 in
theorem g_result (hI : MI σ cc rows K va R f n pl c t r th) (k what : Int) (hk : ab_R k) (hwhat : ab_R what) : ab_call 10 0 0 yX10_result [rf 57, .inl k, .inl what] σ (mdP σ (cc, rows, K, va, R, f, n, pl, c) r (fun i => (i : Int) + 1) (stq (cc, rows, K, va, R, f, n, pl, c) (sp_result rows R k what))) := by
  have q57 := hI.h57
  have hr := hI.hr
  have hcc := hI.hc
  have hgl := gu_le hr
  have hI0 := hI.uth 0
  have hf0 : fr mA σ (ab_st σ 57 (m10 (ab_up t 0 0))) := fr_st (by unfold mA; omega)
  generalize ht0 : ab_up t 0 0 = t0 at hI0 hf0
  generalize hs0 : ab_st σ 57 (m10 t0) = σ0 at hI0 hf0
  have p57 := hI0.h57
  have p58 := hI0.h58
  have p0 := hI0.t0
  have p2 := hI0.t2
  have p12 := hI0.t12
  have p13 := hI0.t13
  refine eX10_result rfl (fun At hA => ?_)
  have gK1 : (0 ≤ k ∧ k ≤ 6) → At 3 [some (rf 57), some (.inl k), some (.inl what)] [.inl 0, rf 57] σ0 0 0 := fun hP1 => by
    refine hA 3 _ rfl _ _ _ _ _ ?_
    refine Exists.intro _ (And.intro (by first | assumption | exact st_s | exact st_e (by decide) (by assumption) | exact st_e (by omega) (by assumption) | exact st_e (by decide) st_s | exact st_e (by omega) st_s | exact st_e (by decide) (st_e (by decide) (by assumption)) | exact st_e (by omega) (st_e (by omega) (by assumption))) (And.intro rfl (ab_inv_ev (m_bad0 p57 p0 1 0) (by first | decide | omega) (by first | exact Nat.le_refl _ | omega) (by first | exact Nat.le_refl _ | omega) ?_)))
    refine And.intro (by first | assumption | exact b2i_R _ | exact rR (by omega) (by omega) | exact rR (by simp only [Int.toNat_natCast]; omega) (by simp only [Int.toNat_natCast]; omega)) (And.intro (fun q => ?_) (fun q => ?_))
    · exact absurd rfl q
    · have gK2 : (0 ≤ what ∧ what ≤ 7) → At 7 [some (rf 57), some (.inl k), some (.inl what)] [.inl 0, rf 57] σ0 0 0 := fun hP2 => by
        refine hA 7 _ rfl _ _ _ _ _ ?_
        refine Exists.intro _ (And.intro (by first | assumption | exact st_s | exact st_e (by decide) (by assumption) | exact st_e (by omega) (by assumption) | exact st_e (by decide) st_s | exact st_e (by omega) st_s | exact st_e (by decide) (st_e (by decide) (by assumption)) | exact st_e (by omega) (st_e (by omega) (by assumption))) (And.intro rfl (ab_inv_ev (m_bad0 p57 p0 2 1) (by first | decide | omega) (by first | exact Nat.le_refl _ | omega) (by first | exact Nat.le_refl _ | omega) ?_)))
        refine And.intro (by first | assumption | exact b2i_R _ | exact rR (by omega) (by omega) | exact rR (by simp only [Int.toNat_natCast]; omega) (by simp only [Int.toNat_natCast]; omega)) (And.intro (fun q => ?_) (fun q => ?_))
        · obtain ⟨k', rfl⟩ : ∃ m : Nat, k = (m : Int) := ⟨k.toNat, by omega⟩
          have hB := hI0.bmS k'
          have b57 := hB.h57
          have b13 := hB.t13
          have brd := bS_rd hI0 (k := k') (by omega)
          have bhi := hI0.hR (i := k') (by omega)
          have bf := fr_bS (σ := σ0) (R := R) hf0 (by unfold mA; omega) k'
          have hbm := m_bitmap hI0 k' (by omega)
          obtain ⟨what', rfl⟩ : ∃ m : Nat, what = (m : Int) := ⟨what.toNat, by omega⟩
          refine hA 9 _ rfl _ _ _ _ _ ?_
          refine And.intro (And.intro (by first | assumption | exact b2i_R _ | exact rR (by omega) (by omega) | exact rR (by simp only [Int.toNat_natCast]; omega) (by simp only [Int.toNat_natCast]; omega)) (by first | assumption | exact b2i_R _ | exact rR (by omega) (by omega) | exact rR (by simp only [Int.toNat_natCast]; omega) (by simp only [Int.toNat_natCast]; omega))) (And.intro (fun q => ?_) (fun q => ?_))
          · refine hA 11 _ rfl _ _ _ _ _ ?_
            refine Exists.intro _ (And.intro (by first | assumption | exact st_s | exact st_e (by decide) (by assumption) | exact st_e (by omega) (by assumption) | exact st_e (by decide) st_s | exact st_e (by omega) st_s | exact st_e (by decide) (st_e (by decide) (by assumption)) | exact st_e (by omega) (st_e (by omega) (by assumption))) (And.intro rfl (ab_inv_ev hbm (by first | decide | omega) (by first | exact Nat.le_refl _ | omega) (by first | exact Nat.le_refl _ | omega) ?_)))
            refine Exists.intro _ (And.intro (by first | assumption | exact st_s | exact st_e (by decide) (by assumption) | exact st_e (by omega) (by assumption) | exact st_e (by decide) st_s | exact st_e (by omega) st_s | exact st_e (by decide) (st_e (by decide) (by assumption)) | exact st_e (by omega) (st_e (by omega) (by assumption))) (And.intro rfl (ab_inv_ev (m_runs b57 b13 hr brd bhi what' (by omega)) (by first | decide | omega) (by first | exact Nat.le_refl _ | omega) (by first | exact Nat.le_refl _ | omega) ?_)))
            refine hA 12 _ rfl _ _ _ _ _ ?_
            exact md_as (by unfold sp_result; rw [if_pos hP1, if_pos hP2] <;> rfl) (rfl) bf hB
          · refine hA 10 _ rfl _ _ _ _ _ ?_
            refine Exists.intro _ (And.intro (by first | assumption | exact st_s | exact st_e (by decide) (by assumption) | exact st_e (by omega) (by assumption) | exact st_e (by decide) st_s | exact st_e (by omega) st_s | exact st_e (by decide) (st_e (by decide) (by assumption)) | exact st_e (by omega) (st_e (by omega) (by assumption))) (And.intro rfl (ab_inv_ev hbm (by first | decide | omega) (by first | exact Nat.le_refl _ | omega) (by first | exact Nat.le_refl _ | omega) ?_)))
            refine Exists.intro _ (And.intro (by first | assumption | exact st_s | exact st_e (by decide) (by assumption) | exact st_e (by omega) (by assumption) | exact st_e (by decide) st_s | exact st_e (by omega) st_s | exact st_e (by decide) (st_e (by decide) (by assumption)) | exact st_e (by omega) (st_e (by omega) (by assumption))) (And.intro rfl (ab_inv_ev (m_of b57 b13 hr brd bhi what' (by omega)) (by first | decide | omega) (by first | exact Nat.le_refl _ | omega) (by first | exact Nat.le_refl _ | omega) ?_)))
            refine hA 12 _ rfl _ _ _ _ _ ?_
            exact md_as (by unfold sp_result; rw [if_pos hP1, if_pos hP2] <;> rfl) (rfl) bf hB
        · exact absurd rfl q
      have gF2 : ¬ (0 ≤ what ∧ what ≤ 7) → At 7 [some (rf 57), some (.inl k), some (.inl what)] [.inl 1, rf 57] σ0 0 0 := fun hP2 => by
        refine hA 7 _ rfl _ _ _ _ _ ?_
        refine Exists.intro _ (And.intro (by first | assumption | exact st_s | exact st_e (by decide) (by assumption) | exact st_e (by omega) (by assumption) | exact st_e (by decide) st_s | exact st_e (by omega) st_s | exact st_e (by decide) (st_e (by decide) (by assumption)) | exact st_e (by omega) (st_e (by omega) (by assumption))) (And.intro rfl (ab_inv_ev (m_bad1 p57 p0 p58 2 1 (by decide) (by decide) (by decide)) (by first | decide | omega) (by first | exact Nat.le_refl _ | omega) (by first | exact Nat.le_refl _ | omega) ?_)))
        refine And.intro (by first | assumption | exact b2i_R _ | exact rR (by omega) (by omega) | exact rR (by simp only [Int.toNat_natCast]; omega) (by simp only [Int.toNat_natCast]; omega)) (And.intro (fun q => ?_) (fun q => ?_))
        · exact absurd q (by decide)
        · refine hA 8 _ rfl _ _ _ _ _ ?_
          exact md_no (by unfold sp_result; rw [if_pos hP1, if_neg hP2] <;> rfl) hf0 hI0 rfl
      have gO2 : ¬ (0 ≤ what ∧ what ≤ 7) → At 5 [some (rf 57), some (.inl k), some (.inl what)] [rf 57] σ0 0 0 := fun h => by
        refine hA 5 _ rfl _ _ _ _ _ ?_
        exact gF2 h
      have gZ2 : (0 ≤ what ∧ what ≤ 7) → At 6 [some (rf 57), some (.inl k), some (.inl what)] [rf 57] σ0 0 0 := fun h => by
        refine hA 6 _ rfl _ _ _ _ _ ?_
        exact gK2 h
      refine hA 4 _ rfl _ _ _ _ _ ?_
      refine And.intro rfl (ab_inv_ev (m_in what 0 7 hwhat (rR (by omega) (by omega)) (rR (by omega) (by omega))) (by first | decide | omega) (by first | exact Nat.le_refl _ | omega) (by first | exact Nat.le_refl _ | omega) ?_)
      refine And.intro (by first | assumption | exact b2i_R _ | exact rR (by omega) (by omega) | exact rR (by simp only [Int.toNat_natCast]; omega) (by simp only [Int.toNat_natCast]; omega)) (And.intro (fun q => ?_) (fun q => ?_))
      · have q10 := of_decide_eq_true (b2i_1 q)
        exact gZ2 (by omega)
      · exact gO2 (by have q1 := of_decide_eq_false (b2i_0 q); omega)
  have gF1 : ¬ (0 ≤ k ∧ k ≤ 6) → At 3 [some (rf 57), some (.inl k), some (.inl what)] [.inl 1, rf 57] σ0 0 0 := fun hP1 => by
    refine hA 3 _ rfl _ _ _ _ _ ?_
    refine Exists.intro _ (And.intro (by first | assumption | exact st_s | exact st_e (by decide) (by assumption) | exact st_e (by omega) (by assumption) | exact st_e (by decide) st_s | exact st_e (by omega) st_s | exact st_e (by decide) (st_e (by decide) (by assumption)) | exact st_e (by omega) (st_e (by omega) (by assumption))) (And.intro rfl (ab_inv_ev (m_bad1 p57 p0 p58 1 0 (by decide) (by decide) (by decide)) (by first | decide | omega) (by first | exact Nat.le_refl _ | omega) (by first | exact Nat.le_refl _ | omega) ?_)))
    refine And.intro (by first | assumption | exact b2i_R _ | exact rR (by omega) (by omega) | exact rR (by simp only [Int.toNat_natCast]; omega) (by simp only [Int.toNat_natCast]; omega)) (And.intro (fun q => ?_) (fun q => ?_))
    · refine hA 8 _ rfl _ _ _ _ _ ?_
      exact md_no (by unfold sp_result; rw [if_neg hP1] <;> rfl) hf0 hI0 rfl
    · exact absurd q (by decide)
  have gO1 : ¬ (0 ≤ k ∧ k ≤ 6) → At 1 [some (rf 57), some (.inl k), some (.inl what)] [rf 57] σ0 0 0 := fun h => by
    refine hA 1 _ rfl _ _ _ _ _ ?_
    exact gF1 h
  have gZ1 : (0 ≤ k ∧ k ≤ 6) → At 2 [some (rf 57), some (.inl k), some (.inl what)] [rf 57] σ0 0 0 := fun h => by
    refine hA 2 _ rfl _ _ _ _ _ ?_
    exact gK1 h
  refine hA 0 _ rfl _ _ _ _ _ ?_
  refine Exists.intro _ (And.intro (q57) ?_)
  rw [m10_s0, ht0, hs0]
  refine Exists.intro _ (And.intro (by first | assumption | exact st_s | exact st_e (by decide) (by assumption) | exact st_e (by omega) (by assumption) | exact st_e (by decide) st_s | exact st_e (by omega) st_s | exact st_e (by decide) (st_e (by decide) (by assumption)) | exact st_e (by omega) (st_e (by omega) (by assumption))) (And.intro rfl (ab_inv_ev (m_isSet k hk) (by first | decide | omega) (by first | exact Nat.le_refl _ | omega) (by first | exact Nat.le_refl _ | omega) ?_)))
  refine And.intro (by first | assumption | exact b2i_R _ | exact rR (by omega) (by omega) | exact rR (by simp only [Int.toNat_natCast]; omega) (by simp only [Int.toNat_natCast]; omega)) (And.intro (fun q => ?_) (fun q => ?_))
  · have q00 := of_decide_eq_true (b2i_1 q)
    exact gZ1 (by omega)
  · exact gO1 (by have q1 := of_decide_eq_false (b2i_0 q); omega)
set_option maxRecDepth 100000 in
set_option maxHeartbeats 1000000 in
theorem g_has (hI : MI σ cc rows K va R f n pl c t r th) (k row : Int) (hk : ab_R k) (hrow : ab_R row) : ab_call 10 0 0 yX10_has_ [rf 57, .inl k, .inl row] σ (mdP σ (cc, rows, K, va, R, f, n, pl, c) r (fun i => (i : Int) + 1) (stq (cc, rows, K, va, R, f, n, pl, c) (sp_has rows R k row))) := by
  have q57 := hI.h57
  have hr := hI.hr
  have hcc := hI.hc
  have hgl := gu_le hr
  have hI0 := hI.uth 0
  have hf0 : fr mA σ (ab_st σ 57 (m10 (ab_up t 0 0))) := fr_st (by unfold mA; omega)
  generalize ht0 : ab_up t 0 0 = t0 at hI0 hf0
  generalize hs0 : ab_st σ 57 (m10 t0) = σ0 at hI0 hf0
  have p57 := hI0.h57
  have p58 := hI0.h58
  have p0 := hI0.t0
  have p2 := hI0.t2
  have p12 := hI0.t12
  have p13 := hI0.t13
  refine eX10_has_ rfl (fun At hA => ?_)
  have gK1 : ((0 ≤ k ∧ k ≤ 6) ∧ 0 ≤ row ∧ row < rows) → At 4 [some (rf 57), some (.inl k), some (.inl row)] [.inl 0, rf 57] σ0 0 0 := fun hP1 => by
    refine hA 4 _ rfl _ _ _ _ _ ?_
    refine Exists.intro _ (And.intro (by first | assumption | exact st_s | exact st_e (by decide) (by assumption) | exact st_e (by omega) (by assumption) | exact st_e (by decide) st_s | exact st_e (by omega) st_s | exact st_e (by decide) (st_e (by decide) (by assumption)) | exact st_e (by omega) (st_e (by omega) (by assumption))) (And.intro rfl (ab_inv_ev (m_bad0 p57 p0 1 0) (by first | decide | omega) (by first | exact Nat.le_refl _ | omega) (by first | exact Nat.le_refl _ | omega) ?_)))
    refine And.intro (by first | assumption | exact b2i_R _ | exact rR (by omega) (by omega) | exact rR (by simp only [Int.toNat_natCast]; omega) (by simp only [Int.toNat_natCast]; omega)) (And.intro (fun q => ?_) (fun q => ?_))
    · obtain ⟨k', rfl⟩ : ∃ m : Nat, k = (m : Int) := ⟨k.toNat, by omega⟩
      have hB := hI0.bmS k'
      have b57 := hB.h57
      have b13 := hB.t13
      have brd := bS_rd hI0 (k := k') (by omega)
      have bhi := hI0.hR (i := k') (by omega)
      have bf := fr_bS (σ := σ0) (R := R) hf0 (by unfold mA; omega) k'
      have hbm := m_bitmap hI0 k' (by omega)
      obtain ⟨row', rfl⟩ : ∃ m : Nat, row = (m : Int) := ⟨row.toNat, by omega⟩
      refine hA 6 _ rfl _ _ _ _ _ ?_
      refine Exists.intro _ (And.intro (by first | assumption | exact st_s | exact st_e (by decide) (by assumption) | exact st_e (by omega) (by assumption) | exact st_e (by decide) st_s | exact st_e (by omega) st_s | exact st_e (by decide) (st_e (by decide) (by assumption)) | exact st_e (by omega) (st_e (by omega) (by assumption))) (And.intro rfl (ab_inv_ev hbm (by first | decide | omega) (by first | exact Nat.le_refl _ | omega) (by first | exact Nat.le_refl _ | omega) ?_)))
      refine And.intro rfl (ab_inv_ev (m_has brd bhi.1 row' (by omega)) (by first | decide | omega) (by first | exact Nat.le_refl _ | omega) (by first | exact Nat.le_refl _ | omega) ?_)
      refine And.intro (by first | exact Or.inl rfl | exact Or.inr rfl | exact b2i_01 _) ?_
      exact md_as (by unfold sp_has; rw [if_pos hP1.1, if_pos hP1.2] <;> rfl) rfl bf hB
    · exact absurd rfl q
  have gF1 : ¬ ((0 ≤ k ∧ k ≤ 6) ∧ 0 ≤ row ∧ row < rows) → At 4 [some (rf 57), some (.inl k), some (.inl row)] [.inl 1, rf 57] σ0 0 0 := fun hP1 => by
    refine hA 4 _ rfl _ _ _ _ _ ?_
    refine Exists.intro _ (And.intro (by first | assumption | exact st_s | exact st_e (by decide) (by assumption) | exact st_e (by omega) (by assumption) | exact st_e (by decide) st_s | exact st_e (by omega) st_s | exact st_e (by decide) (st_e (by decide) (by assumption)) | exact st_e (by omega) (st_e (by omega) (by assumption))) (And.intro rfl (ab_inv_ev (m_bad1 p57 p0 p58 1 0 (by decide) (by decide) (by decide)) (by first | decide | omega) (by first | exact Nat.le_refl _ | omega) (by first | exact Nat.le_refl _ | omega) ?_)))
    refine And.intro (by first | assumption | exact b2i_R _ | exact rR (by omega) (by omega) | exact rR (by simp only [Int.toNat_natCast]; omega) (by simp only [Int.toNat_natCast]; omega)) (And.intro (fun q => ?_) (fun q => ?_))
    · exact absurd q (by decide)
    · refine hA 5 _ rfl _ _ _ _ _ ?_
      refine And.intro (by first | exact Or.inl rfl | exact Or.inr rfl | exact b2i_01 _) ?_
      exact md_no (by unfold sp_has; by_cases h1 : 0 ≤ k ∧ k ≤ 6; (rw [if_pos h1, if_neg (fun h2 => hP1 ⟨h1, h2⟩)] <;> rfl); (rw [if_neg h1] <;> rfl)) hf0 hI0 rfl
  have gO1 : ¬ ((0 ≤ k ∧ k ≤ 6) ∧ 0 ≤ row ∧ row < rows) → At 2 [some (rf 57), some (.inl k), some (.inl row)] [rf 57] σ0 0 0 := fun h => by
    refine hA 2 _ rfl _ _ _ _ _ ?_
    exact gF1 h
  have gZ1 : ((0 ≤ k ∧ k ≤ 6) ∧ 0 ≤ row ∧ row < rows) → At 3 [some (rf 57), some (.inl k), some (.inl row)] [rf 57] σ0 0 0 := fun h => by
    refine hA 3 _ rfl _ _ _ _ _ ?_
    exact gK1 h
  refine hA 0 _ rfl _ _ _ _ _ ?_
  refine Exists.intro _ (And.intro (q57) ?_)
  rw [m10_s0, ht0, hs0]
  refine Exists.intro _ (And.intro (by first | assumption | exact st_s | exact st_e (by decide) (by assumption) | exact st_e (by omega) (by assumption) | exact st_e (by decide) st_s | exact st_e (by omega) st_s | exact st_e (by decide) (st_e (by decide) (by assumption)) | exact st_e (by omega) (st_e (by omega) (by assumption))) (And.intro rfl (ab_inv_ev (m_isSet k hk) (by first | decide | omega) (by first | exact Nat.le_refl _ | omega) (by first | exact Nat.le_refl _ | omega) ?_)))
  refine And.intro (by first | assumption | exact b2i_R _ | exact rR (by omega) (by omega) | exact rR (by simp only [Int.toNat_natCast]; omega) (by simp only [Int.toNat_natCast]; omega)) (And.intro (fun q => ?_) (fun q => ?_))
  · exact gO1 (by have q1 := of_decide_eq_false (b2i_0 q); omega)
  · have q00 := of_decide_eq_true (b2i_1 q)
    refine hA 1 _ rfl _ _ _ _ _ ?_
    refine Exists.intro _ (And.intro (by first | assumption | exact st_s | exact st_e (by decide) (by assumption) | exact st_e (by omega) (by assumption) | exact st_e (by decide) st_s | exact st_e (by omega) st_s | exact st_e (by decide) (st_e (by decide) (by assumption)) | exact st_e (by omega) (st_e (by omega) (by assumption))) ?_)
    refine And.intro rfl (ab_inv_ev (m_in row 0 (t0 13 - 1) hrow (rR (by omega) (by omega)) (rR (by omega) (by omega))) (by first | decide | omega) (by first | exact Nat.le_refl _ | omega) (by first | exact Nat.le_refl _ | omega) ?_)
    refine And.intro (by first | assumption | exact b2i_R _ | exact rR (by omega) (by omega) | exact rR (by simp only [Int.toNat_natCast]; omega) (by simp only [Int.toNat_natCast]; omega)) (And.intro (fun q => ?_) (fun q => ?_))
    · have q01 := of_decide_eq_true (b2i_1 q)
      exact gZ1 (by omega)
    · exact gO1 (by have q1 := of_decide_eq_false (b2i_0 q); omega)
set_option maxRecDepth 100000 in
set_option maxHeartbeats 1000000 in
theorem g_rank (hI : MI σ cc rows K va R f n pl c t r th) (k row : Int) (hk : ab_R k) (hrow : ab_R row) : ab_call 10 0 0 yX10_rank [rf 57, .inl k, .inl row] σ (mdP σ (cc, rows, K, va, R, f, n, pl, c) r (fun i => (i : Int) + 1) (stq (cc, rows, K, va, R, f, n, pl, c) (sp_rank rows R k row))) := by
  have q57 := hI.h57
  have hr := hI.hr
  have hcc := hI.hc
  have hgl := gu_le hr
  have hI0 := hI.uth 0
  have hf0 : fr mA σ (ab_st σ 57 (m10 (ab_up t 0 0))) := fr_st (by unfold mA; omega)
  generalize ht0 : ab_up t 0 0 = t0 at hI0 hf0
  generalize hs0 : ab_st σ 57 (m10 t0) = σ0 at hI0 hf0
  have p57 := hI0.h57
  have p58 := hI0.h58
  have p0 := hI0.t0
  have p2 := hI0.t2
  have p12 := hI0.t12
  have p13 := hI0.t13
  refine eX10_rank rfl (fun At hA => ?_)
  have gK1 : (0 ≤ k ∧ k ≤ 6) → At 3 [some (rf 57), some (.inl k), some (.inl row), none, none, none] [.inl 0, rf 57] σ0 0 0 := fun hP1 => by
    refine hA 3 _ rfl _ _ _ _ _ ?_
    refine Exists.intro _ (And.intro (by first | assumption | exact st_s | exact st_e (by decide) (by assumption) | exact st_e (by omega) (by assumption) | exact st_e (by decide) st_s | exact st_e (by omega) st_s | exact st_e (by decide) (st_e (by decide) (by assumption)) | exact st_e (by omega) (st_e (by omega) (by assumption))) (And.intro rfl (ab_inv_ev (m_bad0 p57 p0 1 0) (by first | decide | omega) (by first | exact Nat.le_refl _ | omega) (by first | exact Nat.le_refl _ | omega) ?_)))
    refine And.intro (by first | assumption | exact b2i_R _ | exact rR (by omega) (by omega) | exact rR (by simp only [Int.toNat_natCast]; omega) (by simp only [Int.toNat_natCast]; omega)) (And.intro (fun q => ?_) (fun q => ?_))
    · exact absurd rfl q
    · have gK2 : (0 ≤ row ∧ row ≤ rows) → At 7 [some (rf 57), some (.inl k), some (.inl row), none, none, none] [.inl 0, rf 57] σ0 0 0 := fun hP2 => by
        refine hA 7 _ rfl _ _ _ _ _ ?_
        refine Exists.intro _ (And.intro (by first | assumption | exact st_s | exact st_e (by decide) (by assumption) | exact st_e (by omega) (by assumption) | exact st_e (by decide) st_s | exact st_e (by omega) st_s | exact st_e (by decide) (st_e (by decide) (by assumption)) | exact st_e (by omega) (st_e (by omega) (by assumption))) (And.intro rfl (ab_inv_ev (m_bad0 p57 p0 2 1) (by first | decide | omega) (by first | exact Nat.le_refl _ | omega) (by first | exact Nat.le_refl _ | omega) ?_)))
        refine And.intro (by first | assumption | exact b2i_R _ | exact rR (by omega) (by omega) | exact rR (by simp only [Int.toNat_natCast]; omega) (by simp only [Int.toNat_natCast]; omega)) (And.intro (fun q => ?_) (fun q => ?_))
        · obtain ⟨k', rfl⟩ : ∃ m : Nat, k = (m : Int) := ⟨k.toNat, by omega⟩
          have hB := hI0.bmS k'
          have b57 := hB.h57
          have b13 := hB.t13
          have brd := bS_rd hI0 (k := k') (by omega)
          have bhi := hI0.hR (i := k') (by omega)
          have bf := fr_bS (σ := σ0) (R := R) hf0 (by unfold mA; omega) k'
          have hbm := m_bitmap hI0 k' (by omega)
          obtain ⟨row', rfl⟩ : ∃ m : Nat, row = (m : Int) := ⟨row.toNat, by omega⟩
          have hcl := cnt_le (bit (R k'))
          have loop : ∀ m i : Nat, i + m = row' → At 10 [some (rf 57), some (.inl (k' : Nat)), some (.inl (row' : Nat)), some (rf (bA k')), some (.inl (cnt (bit (R k')) i)), some (.inl i)] [] (bS σ0 R k') 0 0 := by
            intro m
            induction m with
            | zero =>
              intro i hi
              have hi : i = row' := by omega
              subst hi
              refine hA 10 _ rfl _ _ _ _ _ ?_
              refine And.intro (And.intro (by first | assumption | exact b2i_R _ | exact rR (by omega) (by omega) | exact rR (by simp only [Int.toNat_natCast]; omega) (by simp only [Int.toNat_natCast]; omega)) (by first | assumption | exact b2i_R _ | exact rR (by omega) (by omega) | exact rR (by simp only [Int.toNat_natCast]; omega) (by simp only [Int.toNat_natCast]; omega))) (And.intro (fun q => ?_) (fun q => ?_))
              · refine hA 15 _ rfl _ _ _ _ _ ?_
                exact md_as (by unfold sp_rank; rw [if_pos hP1, if_pos hP2] <;> rfl) (rfl) bf hB
              · omega
            | succ m ih =>
              intro i hi
              have ihi := ih (i + 1) (by omega)
              have k14 : ∀ z : Int, z = ((bit (R k') i).toNat : Nat) → At 14 [some (rf 57), some (.inl (k' : Nat)), some (.inl (row' : Nat)), some (rf (bA k')), some (.inl (cnt (bit (R k')) i)), some (.inl i)] [.inl z, .inl (cnt (bit (R k')) i)] (bS σ0 R k') 0 0 := fun z hz => by
                subst hz
                rw [show cnt (bit (R k')) (i + 1) = cnt (bit (R k')) i + (bit (R k') i).toNat from rfl, Int.natCast_add] at ihi
                refine hA 14 _ rfl _ _ _ _ _ ?_
                exact ihi
              refine hA 10 _ rfl _ _ _ _ _ ?_
              refine And.intro (And.intro (by first | assumption | exact b2i_R _ | exact rR (by omega) (by omega) | exact rR (by simp only [Int.toNat_natCast]; omega) (by simp only [Int.toNat_natCast]; omega)) (by first | assumption | exact b2i_R _ | exact rR (by omega) (by omega) | exact rR (by simp only [Int.toNat_natCast]; omega) (by simp only [Int.toNat_natCast]; omega))) (And.intro (fun q => ?_) (fun q => ?_))
              · omega
              · refine hA 11 _ rfl _ _ _ _ _ ?_
                refine And.intro rfl (ab_inv_ev (m_has brd bhi.1 i (by omega)) (by first | decide | omega) (by first | exact Nat.le_refl _ | omega) (by first | exact Nat.le_refl _ | omega) ?_)
                refine And.intro (by first | assumption | exact b2i_R _ | exact rR (by omega) (by omega) | exact rR (by simp only [Int.toNat_natCast]; omega) (by simp only [Int.toNat_natCast]; omega)) (And.intro (fun q => ?_) (fun q => ?_))
                · refine hA 13 _ rfl _ _ _ _ _ ?_
                  exact k14 0 (by rw [b2i_0 q] <;> rfl)
                · refine hA 12 _ rfl _ _ _ _ _ ?_
                  exact k14 1 (by rw [b2i_1 q] <;> rfl)
          refine hA 9 _ rfl _ _ _ _ _ ?_
          refine Exists.intro _ (And.intro (by first | assumption | exact st_s | exact st_e (by decide) (by assumption) | exact st_e (by omega) (by assumption) | exact st_e (by decide) st_s | exact st_e (by omega) st_s | exact st_e (by decide) (st_e (by decide) (by assumption)) | exact st_e (by omega) (st_e (by omega) (by assumption))) (And.intro rfl (ab_inv_ev hbm (by first | decide | omega) (by first | exact Nat.le_refl _ | omega) (by first | exact Nat.le_refl _ | omega) ?_)))
          exact loop row' 0 (by omega)
        · exact absurd rfl q
      have gF2 : ¬ (0 ≤ row ∧ row ≤ rows) → At 7 [some (rf 57), some (.inl k), some (.inl row), none, none, none] [.inl 1, rf 57] σ0 0 0 := fun hP2 => by
        refine hA 7 _ rfl _ _ _ _ _ ?_
        refine Exists.intro _ (And.intro (by first | assumption | exact st_s | exact st_e (by decide) (by assumption) | exact st_e (by omega) (by assumption) | exact st_e (by decide) st_s | exact st_e (by omega) st_s | exact st_e (by decide) (st_e (by decide) (by assumption)) | exact st_e (by omega) (st_e (by omega) (by assumption))) (And.intro rfl (ab_inv_ev (m_bad1 p57 p0 p58 2 1 (by decide) (by decide) (by decide)) (by first | decide | omega) (by first | exact Nat.le_refl _ | omega) (by first | exact Nat.le_refl _ | omega) ?_)))
        refine And.intro (by first | assumption | exact b2i_R _ | exact rR (by omega) (by omega) | exact rR (by simp only [Int.toNat_natCast]; omega) (by simp only [Int.toNat_natCast]; omega)) (And.intro (fun q => ?_) (fun q => ?_))
        · exact absurd q (by decide)
        · refine hA 8 _ rfl _ _ _ _ _ ?_
          exact md_no (by unfold sp_rank; rw [if_pos hP1, if_neg hP2] <;> rfl) hf0 hI0 rfl
      have gO2 : ¬ (0 ≤ row ∧ row ≤ rows) → At 5 [some (rf 57), some (.inl k), some (.inl row), none, none, none] [rf 57] σ0 0 0 := fun h => by
        refine hA 5 _ rfl _ _ _ _ _ ?_
        exact gF2 h
      have gZ2 : (0 ≤ row ∧ row ≤ rows) → At 6 [some (rf 57), some (.inl k), some (.inl row), none, none, none] [rf 57] σ0 0 0 := fun h => by
        refine hA 6 _ rfl _ _ _ _ _ ?_
        exact gK2 h
      refine hA 4 _ rfl _ _ _ _ _ ?_
      refine Exists.intro _ (And.intro (by first | assumption | exact st_s | exact st_e (by decide) (by assumption) | exact st_e (by omega) (by assumption) | exact st_e (by decide) st_s | exact st_e (by omega) st_s | exact st_e (by decide) (st_e (by decide) (by assumption)) | exact st_e (by omega) (st_e (by omega) (by assumption))) ?_)
      refine And.intro rfl (ab_inv_ev (m_in row 0 (t0 13) hrow (rR (by omega) (by omega)) (rR (by omega) (by omega))) (by first | decide | omega) (by first | exact Nat.le_refl _ | omega) (by first | exact Nat.le_refl _ | omega) ?_)
      refine And.intro (by first | assumption | exact b2i_R _ | exact rR (by omega) (by omega) | exact rR (by simp only [Int.toNat_natCast]; omega) (by simp only [Int.toNat_natCast]; omega)) (And.intro (fun q => ?_) (fun q => ?_))
      · have q10 := of_decide_eq_true (b2i_1 q)
        exact gZ2 (by omega)
      · exact gO2 (by have q1 := of_decide_eq_false (b2i_0 q); omega)
  have gF1 : ¬ (0 ≤ k ∧ k ≤ 6) → At 3 [some (rf 57), some (.inl k), some (.inl row), none, none, none] [.inl 1, rf 57] σ0 0 0 := fun hP1 => by
    refine hA 3 _ rfl _ _ _ _ _ ?_
    refine Exists.intro _ (And.intro (by first | assumption | exact st_s | exact st_e (by decide) (by assumption) | exact st_e (by omega) (by assumption) | exact st_e (by decide) st_s | exact st_e (by omega) st_s | exact st_e (by decide) (st_e (by decide) (by assumption)) | exact st_e (by omega) (st_e (by omega) (by assumption))) (And.intro rfl (ab_inv_ev (m_bad1 p57 p0 p58 1 0 (by decide) (by decide) (by decide)) (by first | decide | omega) (by first | exact Nat.le_refl _ | omega) (by first | exact Nat.le_refl _ | omega) ?_)))
    refine And.intro (by first | assumption | exact b2i_R _ | exact rR (by omega) (by omega) | exact rR (by simp only [Int.toNat_natCast]; omega) (by simp only [Int.toNat_natCast]; omega)) (And.intro (fun q => ?_) (fun q => ?_))
    · refine hA 8 _ rfl _ _ _ _ _ ?_
      exact md_no (by unfold sp_rank; rw [if_neg hP1] <;> rfl) hf0 hI0 rfl
    · exact absurd q (by decide)
  have gO1 : ¬ (0 ≤ k ∧ k ≤ 6) → At 1 [some (rf 57), some (.inl k), some (.inl row), none, none, none] [rf 57] σ0 0 0 := fun h => by
    refine hA 1 _ rfl _ _ _ _ _ ?_
    exact gF1 h
  have gZ1 : (0 ≤ k ∧ k ≤ 6) → At 2 [some (rf 57), some (.inl k), some (.inl row), none, none, none] [rf 57] σ0 0 0 := fun h => by
    refine hA 2 _ rfl _ _ _ _ _ ?_
    exact gK1 h
  refine hA 0 _ rfl _ _ _ _ _ ?_
  refine Exists.intro _ (And.intro (q57) ?_)
  rw [m10_s0, ht0, hs0]
  refine Exists.intro _ (And.intro (by first | assumption | exact st_s | exact st_e (by decide) (by assumption) | exact st_e (by omega) (by assumption) | exact st_e (by decide) st_s | exact st_e (by omega) st_s | exact st_e (by decide) (st_e (by decide) (by assumption)) | exact st_e (by omega) (st_e (by omega) (by assumption))) (And.intro rfl (ab_inv_ev (m_isSet k hk) (by first | decide | omega) (by first | exact Nat.le_refl _ | omega) (by first | exact Nat.le_refl _ | omega) ?_)))
  refine And.intro (by first | assumption | exact b2i_R _ | exact rR (by omega) (by omega) | exact rR (by simp only [Int.toNat_natCast]; omega) (by simp only [Int.toNat_natCast]; omega)) (And.intro (fun q => ?_) (fun q => ?_))
  · have q00 := of_decide_eq_true (b2i_1 q)
    exact gZ1 (by omega)
  · exact gO1 (by have q1 := of_decide_eq_false (b2i_0 q); omega)
set_option maxRecDepth 100000 in
set_option maxHeartbeats 1000000 in
theorem g_next (hI : MI σ cc rows K va R f n pl c t r th) (k row : Int) (hk : ab_R k) (hrow : ab_R row) : ab_call 10 0 0 yX10_next [rf 57, .inl k, .inl row] σ (mdP σ (cc, rows, K, va, R, f, n, pl, c) r (fun i => (i : Int) + 1) (stq (cc, rows, K, va, R, f, n, pl, c) (sp_next rows R k row))) := by
  have q57 := hI.h57
  have hr := hI.hr
  have hcc := hI.hc
  have hgl := gu_le hr
  have hI0 := hI.uth 0
  have hf0 : fr mA σ (ab_st σ 57 (m10 (ab_up t 0 0))) := fr_st (by unfold mA; omega)
  generalize ht0 : ab_up t 0 0 = t0 at hI0 hf0
  generalize hs0 : ab_st σ 57 (m10 t0) = σ0 at hI0 hf0
  have p57 := hI0.h57
  have p58 := hI0.h58
  have p0 := hI0.t0
  have p2 := hI0.t2
  have p12 := hI0.t12
  have p13 := hI0.t13
  refine eX10_next rfl (fun At hA => ?_)
  have gK1 : (0 ≤ k ∧ k ≤ 6) → At 3 [some (rf 57), some (.inl k), some (.inl row)] [.inl 0, rf 57] σ0 0 0 := fun hP1 => by
    refine hA 3 _ rfl _ _ _ _ _ ?_
    refine Exists.intro _ (And.intro (by first | assumption | exact st_s | exact st_e (by decide) (by assumption) | exact st_e (by omega) (by assumption) | exact st_e (by decide) st_s | exact st_e (by omega) st_s | exact st_e (by decide) (st_e (by decide) (by assumption)) | exact st_e (by omega) (st_e (by omega) (by assumption))) (And.intro rfl (ab_inv_ev (m_bad0 p57 p0 1 0) (by first | decide | omega) (by first | exact Nat.le_refl _ | omega) (by first | exact Nat.le_refl _ | omega) ?_)))
    refine And.intro (by first | assumption | exact b2i_R _ | exact rR (by omega) (by omega) | exact rR (by simp only [Int.toNat_natCast]; omega) (by simp only [Int.toNat_natCast]; omega)) (And.intro (fun q => ?_) (fun q => ?_))
    · exact absurd rfl q
    · have gK2 : (0 ≤ row ∧ row ≤ rows) → At 7 [some (rf 57), some (.inl k), some (.inl row)] [.inl 0, rf 57] σ0 0 0 := fun hP2 => by
        refine hA 7 _ rfl _ _ _ _ _ ?_
        refine Exists.intro _ (And.intro (by first | assumption | exact st_s | exact st_e (by decide) (by assumption) | exact st_e (by omega) (by assumption) | exact st_e (by decide) st_s | exact st_e (by omega) st_s | exact st_e (by decide) (st_e (by decide) (by assumption)) | exact st_e (by omega) (st_e (by omega) (by assumption))) (And.intro rfl (ab_inv_ev (m_bad0 p57 p0 2 1) (by first | decide | omega) (by first | exact Nat.le_refl _ | omega) (by first | exact Nat.le_refl _ | omega) ?_)))
        refine And.intro (by first | assumption | exact b2i_R _ | exact rR (by omega) (by omega) | exact rR (by simp only [Int.toNat_natCast]; omega) (by simp only [Int.toNat_natCast]; omega)) (And.intro (fun q => ?_) (fun q => ?_))
        · obtain ⟨k', rfl⟩ : ∃ m : Nat, k = (m : Int) := ⟨k.toNat, by omega⟩
          have hB := hI0.bmS k'
          have b57 := hB.h57
          have b13 := hB.t13
          have brd := bS_rd hI0 (k := k') (by omega)
          have bhi := hI0.hR (i := k') (by omega)
          have bf := fr_bS (σ := σ0) (R := R) hf0 (by unfold mA; omega) k'
          have hbm := m_bitmap hI0 k' (by omega)
          obtain ⟨row', rfl⟩ : ∃ m : Nat, row = (m : Int) := ⟨row.toNat, by omega⟩
          refine hA 9 _ rfl _ _ _ _ _ ?_
          refine Exists.intro _ (And.intro (by first | assumption | exact st_s | exact st_e (by decide) (by assumption) | exact st_e (by omega) (by assumption) | exact st_e (by decide) st_s | exact st_e (by omega) st_s | exact st_e (by decide) (st_e (by decide) (by assumption)) | exact st_e (by omega) (st_e (by omega) (by assumption))) (And.intro rfl (ab_inv_ev hbm (by first | decide | omega) (by first | exact Nat.le_refl _ | omega) (by first | exact Nat.le_refl _ | omega) ?_)))
          refine Exists.intro _ (And.intro (by first | assumption | exact st_s | exact st_e (by decide) (by assumption) | exact st_e (by omega) (by assumption) | exact st_e (by decide) st_s | exact st_e (by omega) st_s | exact st_e (by decide) (st_e (by decide) (by assumption)) | exact st_e (by omega) (st_e (by omega) (by assumption))) (And.intro rfl (ab_inv_ev (m_nextIn b57 b13 hr brd bhi.1 row' (by omega)) (by first | decide | omega) (by first | exact Nat.le_refl _ | omega) (by first | exact Nat.le_refl _ | omega) ?_)))
          exact md_as (by unfold sp_next; rw [if_pos hP1, if_pos hP2] <;> rfl) (sr_cut bhi.2 (rows - row') row' (1500 - row') (by omega) (by omega)).symm bf hB
        · exact absurd rfl q
      have gF2 : ¬ (0 ≤ row ∧ row ≤ rows) → At 7 [some (rf 57), some (.inl k), some (.inl row)] [.inl 1, rf 57] σ0 0 0 := fun hP2 => by
        refine hA 7 _ rfl _ _ _ _ _ ?_
        refine Exists.intro _ (And.intro (by first | assumption | exact st_s | exact st_e (by decide) (by assumption) | exact st_e (by omega) (by assumption) | exact st_e (by decide) st_s | exact st_e (by omega) st_s | exact st_e (by decide) (st_e (by decide) (by assumption)) | exact st_e (by omega) (st_e (by omega) (by assumption))) (And.intro rfl (ab_inv_ev (m_bad1 p57 p0 p58 2 1 (by decide) (by decide) (by decide)) (by first | decide | omega) (by first | exact Nat.le_refl _ | omega) (by first | exact Nat.le_refl _ | omega) ?_)))
        refine And.intro (by first | assumption | exact b2i_R _ | exact rR (by omega) (by omega) | exact rR (by simp only [Int.toNat_natCast]; omega) (by simp only [Int.toNat_natCast]; omega)) (And.intro (fun q => ?_) (fun q => ?_))
        · exact absurd q (by decide)
        · refine hA 8 _ rfl _ _ _ _ _ ?_
          exact md_no (by unfold sp_next; rw [if_pos hP1, if_neg hP2] <;> rfl) hf0 hI0 rfl
      have gO2 : ¬ (0 ≤ row ∧ row ≤ rows) → At 5 [some (rf 57), some (.inl k), some (.inl row)] [rf 57] σ0 0 0 := fun h => by
        refine hA 5 _ rfl _ _ _ _ _ ?_
        exact gF2 h
      have gZ2 : (0 ≤ row ∧ row ≤ rows) → At 6 [some (rf 57), some (.inl k), some (.inl row)] [rf 57] σ0 0 0 := fun h => by
        refine hA 6 _ rfl _ _ _ _ _ ?_
        exact gK2 h
      refine hA 4 _ rfl _ _ _ _ _ ?_
      refine Exists.intro _ (And.intro (by first | assumption | exact st_s | exact st_e (by decide) (by assumption) | exact st_e (by omega) (by assumption) | exact st_e (by decide) st_s | exact st_e (by omega) st_s | exact st_e (by decide) (st_e (by decide) (by assumption)) | exact st_e (by omega) (st_e (by omega) (by assumption))) ?_)
      refine And.intro rfl (ab_inv_ev (m_in row 0 (t0 13) hrow (rR (by omega) (by omega)) (rR (by omega) (by omega))) (by first | decide | omega) (by first | exact Nat.le_refl _ | omega) (by first | exact Nat.le_refl _ | omega) ?_)
      refine And.intro (by first | assumption | exact b2i_R _ | exact rR (by omega) (by omega) | exact rR (by simp only [Int.toNat_natCast]; omega) (by simp only [Int.toNat_natCast]; omega)) (And.intro (fun q => ?_) (fun q => ?_))
      · have q10 := of_decide_eq_true (b2i_1 q)
        exact gZ2 (by omega)
      · exact gO2 (by have q1 := of_decide_eq_false (b2i_0 q); omega)
  have gF1 : ¬ (0 ≤ k ∧ k ≤ 6) → At 3 [some (rf 57), some (.inl k), some (.inl row)] [.inl 1, rf 57] σ0 0 0 := fun hP1 => by
    refine hA 3 _ rfl _ _ _ _ _ ?_
    refine Exists.intro _ (And.intro (by first | assumption | exact st_s | exact st_e (by decide) (by assumption) | exact st_e (by omega) (by assumption) | exact st_e (by decide) st_s | exact st_e (by omega) st_s | exact st_e (by decide) (st_e (by decide) (by assumption)) | exact st_e (by omega) (st_e (by omega) (by assumption))) (And.intro rfl (ab_inv_ev (m_bad1 p57 p0 p58 1 0 (by decide) (by decide) (by decide)) (by first | decide | omega) (by first | exact Nat.le_refl _ | omega) (by first | exact Nat.le_refl _ | omega) ?_)))
    refine And.intro (by first | assumption | exact b2i_R _ | exact rR (by omega) (by omega) | exact rR (by simp only [Int.toNat_natCast]; omega) (by simp only [Int.toNat_natCast]; omega)) (And.intro (fun q => ?_) (fun q => ?_))
    · refine hA 8 _ rfl _ _ _ _ _ ?_
      exact md_no (by unfold sp_next; rw [if_neg hP1] <;> rfl) hf0 hI0 rfl
    · exact absurd q (by decide)
  have gO1 : ¬ (0 ≤ k ∧ k ≤ 6) → At 1 [some (rf 57), some (.inl k), some (.inl row)] [rf 57] σ0 0 0 := fun h => by
    refine hA 1 _ rfl _ _ _ _ _ ?_
    exact gF1 h
  have gZ1 : (0 ≤ k ∧ k ≤ 6) → At 2 [some (rf 57), some (.inl k), some (.inl row)] [rf 57] σ0 0 0 := fun h => by
    refine hA 2 _ rfl _ _ _ _ _ ?_
    exact gK1 h
  refine hA 0 _ rfl _ _ _ _ _ ?_
  refine Exists.intro _ (And.intro (q57) ?_)
  rw [m10_s0, ht0, hs0]
  refine Exists.intro _ (And.intro (by first | assumption | exact st_s | exact st_e (by decide) (by assumption) | exact st_e (by omega) (by assumption) | exact st_e (by decide) st_s | exact st_e (by omega) st_s | exact st_e (by decide) (st_e (by decide) (by assumption)) | exact st_e (by omega) (st_e (by omega) (by assumption))) (And.intro rfl (ab_inv_ev (m_isSet k hk) (by first | decide | omega) (by first | exact Nat.le_refl _ | omega) (by first | exact Nat.le_refl _ | omega) ?_)))
  refine And.intro (by first | assumption | exact b2i_R _ | exact rR (by omega) (by omega) | exact rR (by simp only [Int.toNat_natCast]; omega) (by simp only [Int.toNat_natCast]; omega)) (And.intro (fun q => ?_) (fun q => ?_))
  · have q00 := of_decide_eq_true (b2i_1 q)
    exact gZ1 (by omega)
  · exact gO1 (by have q1 := of_decide_eq_false (b2i_0 q); omega)
set_option maxRecDepth 100000 in
set_option maxHeartbeats 1000000 in
theorem g_select (hI : MI σ cc rows K va R f n pl c t r th) (k x : Int) (hk : ab_R k) (hx : ab_R x) : ab_call 10 0 0 yX10_select [rf 57, .inl k, .inl x] σ (mdP σ (cc, rows, K, va, R, f, n, pl, c) r (fun i => (i : Int) + 1) (stq (cc, rows, K, va, R, f, n, pl, c) (sp_select R k x))) := by
  have q57 := hI.h57
  have hr := hI.hr
  have hcc := hI.hc
  have hgl := gu_le hr
  have hI0 := hI.uth 0
  have hf0 : fr mA σ (ab_st σ 57 (m10 (ab_up t 0 0))) := fr_st (by unfold mA; omega)
  generalize ht0 : ab_up t 0 0 = t0 at hI0 hf0
  generalize hs0 : ab_st σ 57 (m10 t0) = σ0 at hI0 hf0
  have p57 := hI0.h57
  have p58 := hI0.h58
  have p0 := hI0.t0
  have p2 := hI0.t2
  have p12 := hI0.t12
  have p13 := hI0.t13
  refine eX10_select rfl (fun At hA => ?_)
  have gK1 : (0 ≤ k ∧ k ≤ 6) → At 3 [some (rf 57), some (.inl k), some (.inl x), none, none, none] [.inl 0, rf 57] σ0 0 0 := fun hP1 => by
    refine hA 3 _ rfl _ _ _ _ _ ?_
    refine Exists.intro _ (And.intro (by first | assumption | exact st_s | exact st_e (by decide) (by assumption) | exact st_e (by omega) (by assumption) | exact st_e (by decide) st_s | exact st_e (by omega) st_s | exact st_e (by decide) (st_e (by decide) (by assumption)) | exact st_e (by omega) (st_e (by omega) (by assumption))) (And.intro rfl (ab_inv_ev (m_bad0 p57 p0 1 0) (by first | decide | omega) (by first | exact Nat.le_refl _ | omega) (by first | exact Nat.le_refl _ | omega) ?_)))
    refine And.intro (by first | assumption | exact b2i_R _ | exact rR (by omega) (by omega) | exact rR (by simp only [Int.toNat_natCast]; omega) (by simp only [Int.toNat_natCast]; omega)) (And.intro (fun q => ?_) (fun q => ?_))
    · obtain ⟨k', rfl⟩ : ∃ m : Nat, k = (m : Int) := ⟨k.toNat, by omega⟩
      have hB := hI0.bmS k'
      have b57 := hB.h57
      have b13 := hB.t13
      have brd := bS_rd hI0 (k := k') (by omega)
      have bhi := hI0.hR (i := k') (by omega)
      have bf := fr_bS (σ := σ0) (R := R) hf0 (by unfold mA; omega) k'
      have hbm := m_bitmap hI0 k' (by omega)
      refine hA 5 _ rfl _ _ _ _ _ ?_
      refine Exists.intro _ (And.intro (by first | assumption | exact st_s | exact st_e (by decide) (by assumption) | exact st_e (by omega) (by assumption) | exact st_e (by decide) st_s | exact st_e (by omega) st_s | exact st_e (by decide) (st_e (by decide) (by assumption)) | exact st_e (by omega) (st_e (by omega) (by assumption))) (And.intro rfl (ab_inv_ev hbm (by first | decide | omega) (by first | exact Nat.le_refl _ | omega) (by first | exact Nat.le_refl _ | omega) ?_)))
      refine And.intro (by first | assumption | exact b2i_R _ | exact rR (by omega) (by omega) | exact rR (by simp only [Int.toNat_natCast]; omega) (by simp only [Int.toNat_natCast]; omega)) (And.intro (fun q => ?_) (fun q => ?_))
      · obtain ⟨x', rfl⟩ : ∃ m : Nat, x = (m : Int) := ⟨x.toNat, by omega⟩
        have hs0 := sel_0 bhi hr
        have hx2 := hx.2
        have loop : ∀ (m i : Nat) (z : Int), (z = -1 ∨ rows ≤ z.toNat + m) → -1 ≤ z → z < rows → i ≤ x' → sel (R k') i = z → At 8 [some (rf 57), some (.inl (k' : Nat)), some (.inl (x' : Nat)), some (rf (bA k')), some (.inl z), some (.inl i)] [] (bS σ0 R k') 0 0 := by
          intro m
          induction m with
          | zero =>
            intro i z h1 h2 h3 h4 h5
            have hz : z = -1 := by omega
            subst hz
            have k11 : At 11 [some (rf 57), some (.inl (k' : Nat)), some (.inl (x' : Nat)), some (rf (bA k')), some (.inl (-1)), some (.inl i)] [] (bS σ0 R k') 0 0 := by
              refine hA 11 _ rfl _ _ _ _ _ ?_
              exact md_as (by unfold sp_select; rw [if_pos hP1, if_neg (by omega)] <;> rfl) (by rw [Int.toNat_natCast, Int.toNat_natCast]; exact (sel_st h5 x' h4).symm) bf hB
            refine hA 8 _ rfl _ _ _ _ _ ?_
            refine And.intro (And.intro (by first | assumption | exact b2i_R _ | exact rR (by omega) (by omega) | exact rR (by simp only [Int.toNat_natCast]; omega) (by simp only [Int.toNat_natCast]; omega)) (by first | assumption | exact b2i_R _ | exact rR (by omega) (by omega) | exact rR (by simp only [Int.toNat_natCast]; omega) (by simp only [Int.toNat_natCast]; omega))) (And.intro (fun q => ?_) (fun q => ?_))
            · exact k11
            · refine hA 9 _ rfl _ _ _ _ _ ?_
              refine And.intro (And.intro (by first | assumption | exact b2i_R _ | exact rR (by omega) (by omega) | exact rR (by simp only [Int.toNat_natCast]; omega) (by simp only [Int.toNat_natCast]; omega)) (by first | assumption | exact b2i_R _ | exact rR (by omega) (by omega) | exact rR (by simp only [Int.toNat_natCast]; omega) (by simp only [Int.toNat_natCast]; omega))) (And.intro (fun q => ?_) (fun q => ?_))
              · exact k11
              · exact absurd rfl q
          | succ m ih =>
            intro i z h1 h2 h3 h4 h5
            by_cases hz : z = -1
            · subst hz
              have k11 : At 11 [some (rf 57), some (.inl (k' : Nat)), some (.inl (x' : Nat)), some (rf (bA k')), some (.inl (-1)), some (.inl i)] [] (bS σ0 R k') 0 0 := by
                refine hA 11 _ rfl _ _ _ _ _ ?_
                exact md_as (by unfold sp_select; rw [if_pos hP1, if_neg (by omega)] <;> rfl) (by rw [Int.toNat_natCast, Int.toNat_natCast]; exact (sel_st h5 x' h4).symm) bf hB
              refine hA 8 _ rfl _ _ _ _ _ ?_
              refine And.intro (And.intro (by first | assumption | exact b2i_R _ | exact rR (by omega) (by omega) | exact rR (by simp only [Int.toNat_natCast]; omega) (by simp only [Int.toNat_natCast]; omega)) (by first | assumption | exact b2i_R _ | exact rR (by omega) (by omega) | exact rR (by simp only [Int.toNat_natCast]; omega) (by simp only [Int.toNat_natCast]; omega))) (And.intro (fun q => ?_) (fun q => ?_))
              · exact k11
              · refine hA 9 _ rfl _ _ _ _ _ ?_
                refine And.intro (And.intro (by first | assumption | exact b2i_R _ | exact rR (by omega) (by omega) | exact rR (by simp only [Int.toNat_natCast]; omega) (by simp only [Int.toNat_natCast]; omega)) (by first | assumption | exact b2i_R _ | exact rR (by omega) (by omega) | exact rR (by simp only [Int.toNat_natCast]; omega) (by simp only [Int.toNat_natCast]; omega))) (And.intro (fun q => ?_) (fun q => ?_))
                · exact k11
                · exact absurd rfl q
            · obtain ⟨z', rfl⟩ : ∃ m : Nat, z = (m : Int) := ⟨z.toNat, by omega⟩
              have hnx := sel_nx bhi hr h5
              have hb := sr_bd (bit (R k')) (rows - (z' + 1)) (z' + 1)
              have hni := m_nextIn b57 b13 hr brd bhi.1 (z' + 1) (by omega)
              rw [Int.natCast_add] at hni
              refine hA 8 _ rfl _ _ _ _ _ ?_
              refine And.intro (And.intro (by first | assumption | exact b2i_R _ | exact rR (by omega) (by omega) | exact rR (by simp only [Int.toNat_natCast]; omega) (by simp only [Int.toNat_natCast]; omega)) (by first | assumption | exact b2i_R _ | exact rR (by omega) (by omega) | exact rR (by simp only [Int.toNat_natCast]; omega) (by simp only [Int.toNat_natCast]; omega))) (And.intro (fun q => ?_) (fun q => ?_))
              · refine hA 11 _ rfl _ _ _ _ _ ?_
                exact md_as (by unfold sp_select; rw [if_pos hP1, if_neg (by omega)] <;> rfl) (by rw [Int.toNat_natCast, Int.toNat_natCast, show x' = i by omega]; exact h5.symm) bf hB
              · refine hA 9 _ rfl _ _ _ _ _ ?_
                refine And.intro (And.intro (by first | assumption | exact b2i_R _ | exact rR (by omega) (by omega) | exact rR (by simp only [Int.toNat_natCast]; omega) (by simp only [Int.toNat_natCast]; omega)) (by first | assumption | exact b2i_R _ | exact rR (by omega) (by omega) | exact rR (by simp only [Int.toNat_natCast]; omega) (by simp only [Int.toNat_natCast]; omega))) (And.intro (fun q => ?_) (fun q => ?_))
                · omega
                · refine hA 10 _ rfl _ _ _ _ _ ?_
                  refine Exists.intro _ (And.intro (by first | assumption | exact st_s | exact st_e (by decide) (by assumption) | exact st_e (by omega) (by assumption) | exact st_e (by decide) st_s | exact st_e (by omega) st_s | exact st_e (by decide) (st_e (by decide) (by assumption)) | exact st_e (by omega) (st_e (by omega) (by assumption))) (And.intro rfl (ab_inv_ev hni (by first | decide | omega) (by first | exact Nat.le_refl _ | omega) (by first | exact Nat.le_refl _ | omega) ?_)))
                  have := ih (i + 1) (sr (bit (R k')) (z' + 1) (rows - (z' + 1))) (by omega) hb.1 (by omega) (by omega) hnx
                  exact this
        have hb := sr_bd (bit (R k')) (rows - 0) 0
        refine hA 7 _ rfl _ _ _ _ _ ?_
        refine Exists.intro _ (And.intro (by first | assumption | exact st_s | exact st_e (by decide) (by assumption) | exact st_e (by omega) (by assumption) | exact st_e (by decide) st_s | exact st_e (by omega) st_s | exact st_e (by decide) (st_e (by decide) (by assumption)) | exact st_e (by omega) (st_e (by omega) (by assumption))) (And.intro rfl (ab_inv_ev (m_nextIn b57 b13 hr brd bhi.1 0 (Nat.zero_le _)) (by first | decide | omega) (by first | exact Nat.le_refl _ | omega) (by first | exact Nat.le_refl _ | omega) ?_)))
        exact loop (rows + 1) 0 _ (by omega) hb.1 (by omega) (by omega) hs0
      · refine hA 6 _ rfl _ _ _ _ _ ?_
        exact md_as (by unfold sp_select; rw [if_pos hP1, if_pos q]) rfl bf hB
    · exact absurd rfl q
  have gF1 : ¬ (0 ≤ k ∧ k ≤ 6) → At 3 [some (rf 57), some (.inl k), some (.inl x), none, none, none] [.inl 1, rf 57] σ0 0 0 := fun hP1 => by
    refine hA 3 _ rfl _ _ _ _ _ ?_
    refine Exists.intro _ (And.intro (by first | assumption | exact st_s | exact st_e (by decide) (by assumption) | exact st_e (by omega) (by assumption) | exact st_e (by decide) st_s | exact st_e (by omega) st_s | exact st_e (by decide) (st_e (by decide) (by assumption)) | exact st_e (by omega) (st_e (by omega) (by assumption))) (And.intro rfl (ab_inv_ev (m_bad1 p57 p0 p58 1 0 (by decide) (by decide) (by decide)) (by first | decide | omega) (by first | exact Nat.le_refl _ | omega) (by first | exact Nat.le_refl _ | omega) ?_)))
    refine And.intro (by first | assumption | exact b2i_R _ | exact rR (by omega) (by omega) | exact rR (by simp only [Int.toNat_natCast]; omega) (by simp only [Int.toNat_natCast]; omega)) (And.intro (fun q => ?_) (fun q => ?_))
    · exact absurd q (by decide)
    · refine hA 4 _ rfl _ _ _ _ _ ?_
      exact md_no (by unfold sp_select; rw [if_neg hP1] <;> rfl) hf0 hI0 rfl
  have gO1 : ¬ (0 ≤ k ∧ k ≤ 6) → At 1 [some (rf 57), some (.inl k), some (.inl x), none, none, none] [rf 57] σ0 0 0 := fun h => by
    refine hA 1 _ rfl _ _ _ _ _ ?_
    exact gF1 h
  have gZ1 : (0 ≤ k ∧ k ≤ 6) → At 2 [some (rf 57), some (.inl k), some (.inl x), none, none, none] [rf 57] σ0 0 0 := fun h => by
    refine hA 2 _ rfl _ _ _ _ _ ?_
    exact gK1 h
  refine hA 0 _ rfl _ _ _ _ _ ?_
  refine Exists.intro _ (And.intro (q57) ?_)
  rw [m10_s0, ht0, hs0]
  refine Exists.intro _ (And.intro (by first | assumption | exact st_s | exact st_e (by decide) (by assumption) | exact st_e (by omega) (by assumption) | exact st_e (by decide) st_s | exact st_e (by omega) st_s | exact st_e (by decide) (st_e (by decide) (by assumption)) | exact st_e (by omega) (st_e (by omega) (by assumption))) (And.intro rfl (ab_inv_ev (m_isSet k hk) (by first | decide | omega) (by first | exact Nat.le_refl _ | omega) (by first | exact Nat.le_refl _ | omega) ?_)))
  refine And.intro (by first | assumption | exact b2i_R _ | exact rR (by omega) (by omega) | exact rR (by simp only [Int.toNat_natCast]; omega) (by simp only [Int.toNat_natCast]; omega)) (And.intro (fun q => ?_) (fun q => ?_))
  · have q00 := of_decide_eq_true (b2i_1 q)
    exact gZ1 (by omega)
  · exact gO1 (by have q1 := of_decide_eq_false (b2i_0 q); omega)
set_option maxRecDepth 100000 in
set_option maxHeartbeats 1000000 in
theorem g_widest (hI : MI σ cc rows K va R f n pl c t r th) (k : Int) (hk : ab_R k) : ab_call 10 0 0 yX10_widest [rf 57, .inl k] σ (mdP σ (cc, rows, K, va, R, f, n, pl, c) r (fun i => (i : Int) + 1) (stq (cc, rows, K, va, R, f, n, pl, c) (sp_widest rows R k))) := by
  have q57 := hI.h57
  have hr := hI.hr
  have hcc := hI.hc
  have hgl := gu_le hr
  have hI0 := hI.uth 0
  have hf0 : fr mA σ (ab_st σ 57 (m10 (ab_up t 0 0))) := fr_st (by unfold mA; omega)
  generalize ht0 : ab_up t 0 0 = t0 at hI0 hf0
  generalize hs0 : ab_st σ 57 (m10 t0) = σ0 at hI0 hf0
  have p57 := hI0.h57
  have p58 := hI0.h58
  have p0 := hI0.t0
  have p2 := hI0.t2
  have p12 := hI0.t12
  have p13 := hI0.t13
  refine eX10_widest rfl (fun At hA => ?_)
  have gK1 : (0 ≤ k ∧ k ≤ 6) → At 3 [some (rf 57), some (.inl k), none, none, none] [.inl 0, rf 57] σ0 0 0 := fun hP1 => by
    refine hA 3 _ rfl _ _ _ _ _ ?_
    refine Exists.intro _ (And.intro (by first | assumption | exact st_s | exact st_e (by decide) (by assumption) | exact st_e (by omega) (by assumption) | exact st_e (by decide) st_s | exact st_e (by omega) st_s | exact st_e (by decide) (st_e (by decide) (by assumption)) | exact st_e (by omega) (st_e (by omega) (by assumption))) (And.intro rfl (ab_inv_ev (m_bad0 p57 p0 1 0) (by first | decide | omega) (by first | exact Nat.le_refl _ | omega) (by first | exact Nat.le_refl _ | omega) ?_)))
    refine And.intro (by first | assumption | exact b2i_R _ | exact rR (by omega) (by omega) | exact rR (by simp only [Int.toNat_natCast]; omega) (by simp only [Int.toNat_natCast]; omega)) (And.intro (fun q => ?_) (fun q => ?_))
    · obtain ⟨k', rfl⟩ : ∃ m : Nat, k = (m : Int) := ⟨k.toNat, by omega⟩
      have hB := hI0.bmS k'
      have b57 := hB.h57
      have b13 := hB.t13
      have brd := bS_rd hI0 (k := k') (by omega)
      have bhi := hI0.hR (i := k') (by omega)
      have bf := fr_bS (σ := σ0) (R := R) hf0 (by unfold mA; omega) k'
      have hbm := m_bitmap hI0 k' (by omega)
      have hs := fun j (hj : j < 100) => m_sort (σ := (bS σ0 R k')) (N := 100) brd hj (by decide) (bhi.1 j)
      have hst := fun j (hj : j < gu rows) => m_stretch b57 b13 hr brd bhi.1 j hj
      have hgr := m_groups b57 b13 hr
      have hwb := mws_le (R k') (gu rows)
      have loop : ∀ m i : Nat, i + m = gu rows → At 6 [some (rf 57), some (.inl (k' : Nat)), some (rf (bA k')), some (.inl (mws (R k') (gu rows) i)), some (.inl i)] [] (bS σ0 R k') 0 0 := by
        intro m
        induction m with
        | zero =>
          intro i hi
          refine hA 6 _ rfl _ _ _ _ _ ?_
          refine Exists.intro _ (And.intro (by first | assumption | exact st_s | exact st_e (by decide) (by assumption) | exact st_e (by omega) (by assumption) | exact st_e (by decide) st_s | exact st_e (by omega) st_s | exact st_e (by decide) (st_e (by decide) (by assumption)) | exact st_e (by omega) (st_e (by omega) (by assumption))) (And.intro rfl (ab_inv_ev hgr (by first | decide | omega) (by first | exact Nat.le_refl _ | omega) (by first | exact Nat.le_refl _ | omega) ?_)))
          refine And.intro (And.intro (by first | assumption | exact b2i_R _ | exact rR (by omega) (by omega) | exact rR (by simp only [Int.toNat_natCast]; omega) (by simp only [Int.toNat_natCast]; omega)) (by first | assumption | exact b2i_R _ | exact rR (by omega) (by omega) | exact rR (by simp only [Int.toNat_natCast]; omega) (by simp only [Int.toNat_natCast]; omega))) (And.intro (fun q => ?_) (fun q => ?_))
          · refine hA 11 _ rfl _ _ _ _ _ ?_
            exact md_as (by unfold sp_widest; rw [if_pos hP1] <;> rfl) (by rw [show i = gu rows by omega, mws_wdf] <;> rfl) bf hB
          · omega
        | succ m ih =>
          intro i hi
          have ihi := ih (i + 1) (by omega)
          have hbi := hwb i (by omega)
          have hsp := strN_pos (g := R k') (u := gu rows) (i := i) (by omega)
          have h3 := sort_le (R k' i)
          have hl := sort_lit (z := R k' i)
          have es : mws (R k') (gu rows) (i + 1) = if lit (R k' i) then mws (R k') (gu rows) i else max (mws (R k') (gu rows) i) (strN (R k') (gu rows) i) := rfl
          have k10 : ∀ z : Int, z = (mws (R k') (gu rows) (i + 1) : Nat) → At 10 [some (rf 57), some (.inl (k' : Nat)), some (rf (bA k')), some (.inl (mws (R k') (gu rows) i)), some (.inl i)] [.inl z] (bS σ0 R k') 0 0 := fun z hz => by
            subst hz
            refine hA 10 _ rfl _ _ _ _ _ ?_
            exact ihi
          refine hA 6 _ rfl _ _ _ _ _ ?_
          refine Exists.intro _ (And.intro (by first | assumption | exact st_s | exact st_e (by decide) (by assumption) | exact st_e (by omega) (by assumption) | exact st_e (by decide) st_s | exact st_e (by omega) st_s | exact st_e (by decide) (st_e (by decide) (by assumption)) | exact st_e (by omega) (st_e (by omega) (by assumption))) (And.intro rfl (ab_inv_ev hgr (by first | decide | omega) (by first | exact Nat.le_refl _ | omega) (by first | exact Nat.le_refl _ | omega) ?_)))
          refine And.intro (And.intro (by first | assumption | exact b2i_R _ | exact rR (by omega) (by omega) | exact rR (by simp only [Int.toNat_natCast]; omega) (by simp only [Int.toNat_natCast]; omega)) (by first | assumption | exact b2i_R _ | exact rR (by omega) (by omega) | exact rR (by simp only [Int.toNat_natCast]; omega) (by simp only [Int.toNat_natCast]; omega))) (And.intro (fun q => ?_) (fun q => ?_))
          · omega
          · refine hA 7 _ rfl _ _ _ _ _ ?_
            refine And.intro rfl (ab_inv_ev (hs i (by omega)) (by first | decide | omega) (by first | exact Nat.le_refl _ | omega) (by first | exact Nat.le_refl _ | omega) ?_)
            refine And.intro (And.intro (by first | assumption | exact b2i_R _ | exact rR (by omega) (by omega) | exact rR (by simp only [Int.toNat_natCast]; omega) (by simp only [Int.toNat_natCast]; omega)) (by first | assumption | exact b2i_R _ | exact rR (by omega) (by omega) | exact rR (by simp only [Int.toNat_natCast]; omega) (by simp only [Int.toNat_natCast]; omega))) (And.intro (fun q => ?_) (fun q => ?_))
            · have hmo := m_more (σ := (bS σ0 R k')) (mws (R k') (gu rows) i : Nat) (strN (R k') (gu rows) i : Nat) (rR (by omega) (by omega)) (rR (by omega) (by omega))
              refine hA 9 _ rfl _ _ _ _ _ ?_
              refine Exists.intro _ (And.intro (by first | assumption | exact st_s | exact st_e (by decide) (by assumption) | exact st_e (by omega) (by assumption) | exact st_e (by decide) st_s | exact st_e (by omega) st_s | exact st_e (by decide) (st_e (by decide) (by assumption)) | exact st_e (by omega) (st_e (by omega) (by assumption))) (And.intro rfl (ab_inv_ev (hst i (by omega)) (by first | decide | omega) (by first | exact Nat.le_refl _ | omega) (by first | exact Nat.le_refl _ | omega) ?_)))
              refine And.intro rfl (ab_inv_ev hmo (by first | decide | omega) (by first | exact Nat.le_refl _ | omega) (by first | exact Nat.le_refl _ | omega) ?_)
              refine k10 _ ?_
              have hf : lit (R k' i) = false := by rw [hl]; exact decide_eq_false (by omega)
              rw [hf, if_neg Bool.false_ne_true] at es
              rw [es]
              split <;> omega
            · refine hA 8 _ rfl _ _ _ _ _ ?_
              refine k10 _ ?_
              have hf : lit (R k' i) = true := by rw [hl]; exact decide_eq_true (by omega)
              rw [hf, if_pos rfl] at es
              rw [es]
      refine hA 5 _ rfl _ _ _ _ _ ?_
      refine Exists.intro _ (And.intro (by first | assumption | exact st_s | exact st_e (by decide) (by assumption) | exact st_e (by omega) (by assumption) | exact st_e (by decide) st_s | exact st_e (by omega) st_s | exact st_e (by decide) (st_e (by decide) (by assumption)) | exact st_e (by omega) (st_e (by omega) (by assumption))) (And.intro rfl (ab_inv_ev hbm (by first | decide | omega) (by first | exact Nat.le_refl _ | omega) (by first | exact Nat.le_refl _ | omega) ?_)))
      exact loop (gu rows) 0 (by omega)
    · exact absurd rfl q
  have gF1 : ¬ (0 ≤ k ∧ k ≤ 6) → At 3 [some (rf 57), some (.inl k), none, none, none] [.inl 1, rf 57] σ0 0 0 := fun hP1 => by
    refine hA 3 _ rfl _ _ _ _ _ ?_
    refine Exists.intro _ (And.intro (by first | assumption | exact st_s | exact st_e (by decide) (by assumption) | exact st_e (by omega) (by assumption) | exact st_e (by decide) st_s | exact st_e (by omega) st_s | exact st_e (by decide) (st_e (by decide) (by assumption)) | exact st_e (by omega) (st_e (by omega) (by assumption))) (And.intro rfl (ab_inv_ev (m_bad1 p57 p0 p58 1 0 (by decide) (by decide) (by decide)) (by first | decide | omega) (by first | exact Nat.le_refl _ | omega) (by first | exact Nat.le_refl _ | omega) ?_)))
    refine And.intro (by first | assumption | exact b2i_R _ | exact rR (by omega) (by omega) | exact rR (by simp only [Int.toNat_natCast]; omega) (by simp only [Int.toNat_natCast]; omega)) (And.intro (fun q => ?_) (fun q => ?_))
    · exact absurd q (by decide)
    · refine hA 4 _ rfl _ _ _ _ _ ?_
      exact md_no (by unfold sp_widest; rw [if_neg hP1] <;> rfl) hf0 hI0 rfl
  have gO1 : ¬ (0 ≤ k ∧ k ≤ 6) → At 1 [some (rf 57), some (.inl k), none, none, none] [rf 57] σ0 0 0 := fun h => by
    refine hA 1 _ rfl _ _ _ _ _ ?_
    exact gF1 h
  have gZ1 : (0 ≤ k ∧ k ≤ 6) → At 2 [some (rf 57), some (.inl k), none, none, none] [rf 57] σ0 0 0 := fun h => by
    refine hA 2 _ rfl _ _ _ _ _ ?_
    exact gK1 h
  refine hA 0 _ rfl _ _ _ _ _ ?_
  refine Exists.intro _ (And.intro (q57) ?_)
  rw [m10_s0, ht0, hs0]
  refine Exists.intro _ (And.intro (by first | assumption | exact st_s | exact st_e (by decide) (by assumption) | exact st_e (by omega) (by assumption) | exact st_e (by decide) st_s | exact st_e (by omega) st_s | exact st_e (by decide) (st_e (by decide) (by assumption)) | exact st_e (by omega) (st_e (by omega) (by assumption))) (And.intro rfl (ab_inv_ev (m_isSet k hk) (by first | decide | omega) (by first | exact Nat.le_refl _ | omega) (by first | exact Nat.le_refl _ | omega) ?_)))
  refine And.intro (by first | assumption | exact b2i_R _ | exact rR (by omega) (by omega) | exact rR (by simp only [Int.toNat_natCast]; omega) (by simp only [Int.toNat_natCast]; omega)) (And.intro (fun q => ?_) (fun q => ?_))
  · have q00 := of_decide_eq_true (b2i_1 q)
    exact gZ1 (by omega)
  · exact gO1 (by have q1 := of_decide_eq_false (b2i_0 q); omega)
set_option maxRecDepth 100000 in
set_option maxHeartbeats 1000000 in
theorem g_differ (hI : MI σ cc rows K va R f n pl c t r th) (a b : Int) (ha : ab_R a) (hb : ab_R b) : ab_call 10 0 0 yX10_differ [rf 57, .inl a, .inl b] σ (mdP σ (cc, rows, K, va, R, f, n, pl, c) r (fun i => (i : Int) + 1) (stq (cc, rows, K, va, R, f, n, pl, c) (sp_differ R a b))) := by
  have q57 := hI.h57
  have hr := hI.hr
  have hcc := hI.hc
  have hgl := gu_le hr
  have hI0 := hI.uth 0
  have hf0 : fr mA σ (ab_st σ 57 (m10 (ab_up t 0 0))) := fr_st (by unfold mA; omega)
  generalize ht0 : ab_up t 0 0 = t0 at hI0 hf0
  generalize hs0 : ab_st σ 57 (m10 t0) = σ0 at hI0 hf0
  have p57 := hI0.h57
  have p58 := hI0.h58
  have p0 := hI0.t0
  have p2 := hI0.t2
  have p12 := hI0.t12
  have p13 := hI0.t13
  refine eX10_differ rfl (fun At hA => ?_)
  have gK1 : ((0 ≤ a ∧ a ≤ 6) ∧ 0 ≤ b ∧ b ≤ 6) → At 4 [some (rf 57), some (.inl a), some (.inl b)] [.inl 0, rf 57] σ0 0 0 := fun hP1 => by
    refine hA 4 _ rfl _ _ _ _ _ ?_
    refine Exists.intro _ (And.intro (by first | assumption | exact st_s | exact st_e (by decide) (by assumption) | exact st_e (by omega) (by assumption) | exact st_e (by decide) st_s | exact st_e (by omega) st_s | exact st_e (by decide) (st_e (by decide) (by assumption)) | exact st_e (by omega) (st_e (by omega) (by assumption))) (And.intro rfl (ab_inv_ev (m_bad0 p57 p0 1 0) (by first | decide | omega) (by first | exact Nat.le_refl _ | omega) (by first | exact Nat.le_refl _ | omega) ?_)))
    refine And.intro (by first | assumption | exact b2i_R _ | exact rR (by omega) (by omega) | exact rR (by simp only [Int.toNat_natCast]; omega) (by simp only [Int.toNat_natCast]; omega)) (And.intro (fun q => ?_) (fun q => ?_))
    · obtain ⟨a', rfl⟩ : ∃ m : Nat, a = (m : Int) := ⟨a.toNat, by omega⟩
      obtain ⟨b', rfl⟩ : ∃ m : Nat, b = (m : Int) := ⟨b.toNat, by omega⟩
      have hA1 := hI0.bmS a'
      have hB := hA1.bmS b'
      have a57 := hA1.h57
      have b57 := hB.h57
      have b13 := hB.t13
      have ard := bS_rd2 hI0 (k := a') (l := b') (by omega)
      have brd := bS_rd hA1 (k := b') (by omega)
      have ahi := hI0.hR (i := a') (by omega)
      have bhi := hI0.hR (i := b') (by omega)
      have bf := fr_bS (R := R) (fr_bS (σ := σ0) (R := R) hf0 (by unfold mA; omega) a') (by unfold mA; omega) b'
      have hbm1 := m_bitmap hI0 a' (by omega)
      have hbm2 := m_bitmap hA1 b' (by omega)
      obtain ⟨o, ho⟩ := hB.sc.bm (a := 313) (by omega) (by omega)
      have hjh := hi0_jn (k := 2) ahi bhi
      have hJ := m_joins ho ard brd ahi.1 bhi.1 2 (by omega)
      have hJI := hB.st (a := 313) (x := bmc (jn 2 (R a') (R b'))) (by omega) (by omega) (shp_bm (by omega) (by omega))
      have j57 := hJI.h57
      have j13 := hJI.t13
      have jf : fr mA σ (ab_st (bS (bS σ0 R a') R b') 313 (bmc (jn 2 (R a') (R b')))) := bf.st (by unfold mA; omega)
      have hma := m_many2 (h := 313) j57 j13 hr st_s hjh
      refine hA 6 _ rfl _ _ _ _ _ ?_
      refine Exists.intro _ (And.intro (by first | assumption | exact st_s | exact st_e (by decide) (by assumption) | exact st_e (by omega) (by assumption) | exact st_e (by decide) st_s | exact st_e (by omega) st_s | exact st_e (by decide) (st_e (by decide) (by assumption)) | exact st_e (by omega) (st_e (by omega) (by assumption))) (And.intro rfl (ab_inv_ev hbm1 (by first | decide | omega) (by first | exact Nat.le_refl _ | omega) (by first | exact Nat.le_refl _ | omega) ?_)))
      refine Exists.intro _ (And.intro (by first | assumption | exact st_s | exact st_e (by decide) (by assumption) | exact st_e (by omega) (by assumption) | exact st_e (by decide) st_s | exact st_e (by omega) st_s | exact st_e (by decide) (st_e (by decide) (by assumption)) | exact st_e (by omega) (st_e (by omega) (by assumption))) (And.intro rfl (ab_inv_ev hbm2 (by first | decide | omega) (by first | exact Nat.le_refl _ | omega) (by first | exact Nat.le_refl _ | omega) ?_)))
      refine Exists.intro _ (And.intro (by first | assumption | exact st_s | exact st_e (by decide) (by assumption) | exact st_e (by omega) (by assumption) | exact st_e (by decide) st_s | exact st_e (by omega) st_s | exact st_e (by decide) (st_e (by decide) (by assumption)) | exact st_e (by omega) (st_e (by omega) (by assumption))) ?_)
      refine Exists.intro _ (And.intro (by first | assumption | exact st_s | exact st_e (by decide) (by assumption) | exact st_e (by omega) (by assumption) | exact st_e (by decide) st_s | exact st_e (by omega) st_s | exact st_e (by decide) (st_e (by decide) (by assumption)) | exact st_e (by omega) (st_e (by omega) (by assumption))) (And.intro rfl (ab_inv_ev hJ (by first | decide | omega) (by first | exact Nat.le_refl _ | omega) (by first | exact Nat.le_refl _ | omega) ?_)))
      refine Exists.intro _ (And.intro (by first | assumption | exact st_s | exact st_e (by decide) (by assumption) | exact st_e (by omega) (by assumption) | exact st_e (by decide) st_s | exact st_e (by omega) st_s | exact st_e (by decide) (st_e (by decide) (by assumption)) | exact st_e (by omega) (st_e (by omega) (by assumption))) ?_)
      refine Exists.intro _ (And.intro (by first | assumption | exact st_s | exact st_e (by decide) (by assumption) | exact st_e (by omega) (by assumption) | exact st_e (by decide) st_s | exact st_e (by omega) st_s | exact st_e (by decide) (st_e (by decide) (by assumption)) | exact st_e (by omega) (st_e (by omega) (by assumption))) (And.intro rfl (ab_inv_ev hma (by first | decide | omega) (by first | exact Nat.le_refl _ | omega) (by first | exact Nat.le_refl _ | omega) ?_)))
      exact md_as (by unfold sp_differ; rw [if_pos hP1] <;> rfl) (rfl) jf hJI
    · exact absurd rfl q
  have gF1 : ¬ ((0 ≤ a ∧ a ≤ 6) ∧ 0 ≤ b ∧ b ≤ 6) → At 4 [some (rf 57), some (.inl a), some (.inl b)] [.inl 1, rf 57] σ0 0 0 := fun hP1 => by
    refine hA 4 _ rfl _ _ _ _ _ ?_
    refine Exists.intro _ (And.intro (by first | assumption | exact st_s | exact st_e (by decide) (by assumption) | exact st_e (by omega) (by assumption) | exact st_e (by decide) st_s | exact st_e (by omega) st_s | exact st_e (by decide) (st_e (by decide) (by assumption)) | exact st_e (by omega) (st_e (by omega) (by assumption))) (And.intro rfl (ab_inv_ev (m_bad1 p57 p0 p58 1 0 (by decide) (by decide) (by decide)) (by first | decide | omega) (by first | exact Nat.le_refl _ | omega) (by first | exact Nat.le_refl _ | omega) ?_)))
    refine And.intro (by first | assumption | exact b2i_R _ | exact rR (by omega) (by omega) | exact rR (by simp only [Int.toNat_natCast]; omega) (by simp only [Int.toNat_natCast]; omega)) (And.intro (fun q => ?_) (fun q => ?_))
    · exact absurd q (by decide)
    · refine hA 5 _ rfl _ _ _ _ _ ?_
      exact md_no (by unfold sp_differ; rw [if_neg hP1] <;> rfl) hf0 hI0 rfl
  have gO1 : ¬ ((0 ≤ a ∧ a ≤ 6) ∧ 0 ≤ b ∧ b ≤ 6) → At 2 [some (rf 57), some (.inl a), some (.inl b)] [rf 57] σ0 0 0 := fun h => by
    refine hA 2 _ rfl _ _ _ _ _ ?_
    exact gF1 h
  have gZ1 : ((0 ≤ a ∧ a ≤ 6) ∧ 0 ≤ b ∧ b ≤ 6) → At 3 [some (rf 57), some (.inl a), some (.inl b)] [rf 57] σ0 0 0 := fun h => by
    refine hA 3 _ rfl _ _ _ _ _ ?_
    exact gK1 h
  refine hA 0 _ rfl _ _ _ _ _ ?_
  refine Exists.intro _ (And.intro (q57) ?_)
  rw [m10_s0, ht0, hs0]
  refine Exists.intro _ (And.intro (by first | assumption | exact st_s | exact st_e (by decide) (by assumption) | exact st_e (by omega) (by assumption) | exact st_e (by decide) st_s | exact st_e (by omega) st_s | exact st_e (by decide) (st_e (by decide) (by assumption)) | exact st_e (by omega) (st_e (by omega) (by assumption))) (And.intro rfl (ab_inv_ev (m_isSet a ha) (by first | decide | omega) (by first | exact Nat.le_refl _ | omega) (by first | exact Nat.le_refl _ | omega) ?_)))
  refine And.intro (by first | assumption | exact b2i_R _ | exact rR (by omega) (by omega) | exact rR (by simp only [Int.toNat_natCast]; omega) (by simp only [Int.toNat_natCast]; omega)) (And.intro (fun q => ?_) (fun q => ?_))
  · exact gO1 (by have q1 := of_decide_eq_false (b2i_0 q); omega)
  · have q00 := of_decide_eq_true (b2i_1 q)
    refine hA 1 _ rfl _ _ _ _ _ ?_
    refine Exists.intro _ (And.intro (by first | assumption | exact st_s | exact st_e (by decide) (by assumption) | exact st_e (by omega) (by assumption) | exact st_e (by decide) st_s | exact st_e (by omega) st_s | exact st_e (by decide) (st_e (by decide) (by assumption)) | exact st_e (by omega) (st_e (by omega) (by assumption))) (And.intro rfl (ab_inv_ev (m_isSet b hb) (by first | decide | omega) (by first | exact Nat.le_refl _ | omega) (by first | exact Nat.le_refl _ | omega) ?_)))
    refine And.intro (by first | assumption | exact b2i_R _ | exact rR (by omega) (by omega) | exact rR (by simp only [Int.toNat_natCast]; omega) (by simp only [Int.toNat_natCast]; omega)) (And.intro (fun q => ?_) (fun q => ?_))
    · have q01 := of_decide_eq_true (b2i_1 q)
      exact gZ1 (by omega)
    · exact gO1 (by have q1 := of_decide_eq_false (b2i_0 q); omega)
set_option maxRecDepth 100000 in
set_option maxHeartbeats 1000000 in
theorem g_within (hI : MI σ cc rows K va R f n pl c t r th) (a b : Int) (ha : ab_R a) (hb : ab_R b) : ab_call 10 0 0 yX10_within [rf 57, .inl a, .inl b] σ (mdP σ (cc, rows, K, va, R, f, n, pl, c) r (fun i => (i : Int) + 1) (stq (cc, rows, K, va, R, f, n, pl, c) (sp_within R a b))) := by
  have q57 := hI.h57
  have hr := hI.hr
  have hcc := hI.hc
  have hgl := gu_le hr
  have hI0 := hI.uth 0
  have hf0 : fr mA σ (ab_st σ 57 (m10 (ab_up t 0 0))) := fr_st (by unfold mA; omega)
  generalize ht0 : ab_up t 0 0 = t0 at hI0 hf0
  generalize hs0 : ab_st σ 57 (m10 t0) = σ0 at hI0 hf0
  have p57 := hI0.h57
  have p58 := hI0.h58
  have p0 := hI0.t0
  have p2 := hI0.t2
  have p12 := hI0.t12
  have p13 := hI0.t13
  refine eX10_within rfl (fun At hA => ?_)
  have gK1 : ((0 ≤ a ∧ a ≤ 6) ∧ 0 ≤ b ∧ b ≤ 6) → At 4 [some (rf 57), some (.inl a), some (.inl b)] [.inl 0, rf 57] σ0 0 0 := fun hP1 => by
    refine hA 4 _ rfl _ _ _ _ _ ?_
    refine Exists.intro _ (And.intro (by first | assumption | exact st_s | exact st_e (by decide) (by assumption) | exact st_e (by omega) (by assumption) | exact st_e (by decide) st_s | exact st_e (by omega) st_s | exact st_e (by decide) (st_e (by decide) (by assumption)) | exact st_e (by omega) (st_e (by omega) (by assumption))) (And.intro rfl (ab_inv_ev (m_bad0 p57 p0 1 0) (by first | decide | omega) (by first | exact Nat.le_refl _ | omega) (by first | exact Nat.le_refl _ | omega) ?_)))
    refine And.intro (by first | assumption | exact b2i_R _ | exact rR (by omega) (by omega) | exact rR (by simp only [Int.toNat_natCast]; omega) (by simp only [Int.toNat_natCast]; omega)) (And.intro (fun q => ?_) (fun q => ?_))
    · obtain ⟨a', rfl⟩ : ∃ m : Nat, a = (m : Int) := ⟨a.toNat, by omega⟩
      obtain ⟨b', rfl⟩ : ∃ m : Nat, b = (m : Int) := ⟨b.toNat, by omega⟩
      have hA1 := hI0.bmS a'
      have hB := hA1.bmS b'
      have a57 := hA1.h57
      have b57 := hB.h57
      have b13 := hB.t13
      have ard := bS_rd2 hI0 (k := a') (l := b') (by omega)
      have brd := bS_rd hA1 (k := b') (by omega)
      have ahi := hI0.hR (i := a') (by omega)
      have bhi := hI0.hR (i := b') (by omega)
      have bf := fr_bS (R := R) (fr_bS (σ := σ0) (R := R) hf0 (by unfold mA; omega) a') (by unfold mA; omega) b'
      have hbm1 := m_bitmap hI0 a' (by omega)
      have hbm2 := m_bitmap hA1 b' (by omega)
      obtain ⟨o, ho⟩ := hB.sc.bm (a := 313) (by omega) (by omega)
      have hjh := hi0_jn (k := 3) ahi bhi
      have hJ := m_joins ho ard brd ahi.1 bhi.1 3 (by omega)
      have hJI := hB.st (a := 313) (x := bmc (jn 3 (R a') (R b'))) (by omega) (by omega) (shp_bm (by omega) (by omega))
      have j57 := hJI.h57
      have j13 := hJI.t13
      have jf : fr mA σ (ab_st (bS (bS σ0 R a') R b') 313 (bmc (jn 3 (R a') (R b')))) := bf.st (by unfold mA; omega)
      have hma := m_many2 (h := 313) j57 j13 hr st_s hjh
      have hle := cnt_le (bit (jn 3 (R a') (R b')))
      have h15 := fun (_ : True) => hle 1500
      have k9 : ∀ z : Int, z = b2i (cnt (bit (jn 3 (R a') (R b'))) 1500 == 0) → At 9 [some (rf 57), some (.inl (a' : Nat)), some (.inl (b' : Nat))] [.inl z] (ab_st (bS (bS σ0 R a') R b') 313 (bmc (jn 3 (R a') (R b')))) 0 0 := fun z hz => by
        subst hz
        refine hA 9 _ rfl _ _ _ _ _ ?_
        refine And.intro (by first | exact Or.inl rfl | exact Or.inr rfl | exact b2i_01 _) ?_
        exact md_as (by unfold sp_within; rw [if_pos hP1] <;> rfl) (rfl) jf hJI
      refine hA 6 _ rfl _ _ _ _ _ ?_
      refine Exists.intro _ (And.intro p57 (And.intro rfl (ab_inv_ev hbm1 (by first | decide | omega) (by first | exact Nat.le_refl _ | omega) (by first | exact Nat.le_refl _ | omega) ?_)))
      refine Exists.intro _ (And.intro a57 (And.intro rfl (ab_inv_ev hbm2 (by first | decide | omega) (by first | exact Nat.le_refl _ | omega) (by first | exact Nat.le_refl _ | omega) ?_)))
      refine Exists.intro _ (And.intro (b57) ?_)
      refine Exists.intro _ (And.intro b57 (And.intro rfl (ab_inv_ev hJ (by first | decide | omega) (by first | exact Nat.le_refl _ | omega) (by first | exact Nat.le_refl _ | omega) ?_)))
      refine Exists.intro _ (And.intro (j57) ?_)
      refine Exists.intro _ (And.intro j57 (And.intro rfl (ab_inv_ev hma (by first | decide | omega) (by first | exact Nat.le_refl _ | omega) (by first | exact Nat.le_refl _ | omega) ?_)))
      refine And.intro (by have := h15 trivial; exact rR (by omega) (by omega)) (And.intro (fun q => ?_) (fun q => ?_))
      · refine hA 8 _ rfl _ _ _ _ _ ?_
        exact k9 0 (by rw [beq_eq_false_iff_ne.mpr (by omega)] <;> rfl)
      · refine hA 7 _ rfl _ _ _ _ _ ?_
        exact k9 1 (by rw [beq_iff_eq.mpr (by omega)] <;> rfl)
    · exact absurd rfl q
  have gF1 : ¬ ((0 ≤ a ∧ a ≤ 6) ∧ 0 ≤ b ∧ b ≤ 6) → At 4 [some (rf 57), some (.inl a), some (.inl b)] [.inl 1, rf 57] σ0 0 0 := fun hP1 => by
    refine hA 4 _ rfl _ _ _ _ _ ?_
    refine Exists.intro _ (And.intro (by first | assumption | exact st_s | exact st_e (by decide) (by assumption) | exact st_e (by omega) (by assumption) | exact st_e (by decide) st_s | exact st_e (by omega) st_s | exact st_e (by decide) (st_e (by decide) (by assumption)) | exact st_e (by omega) (st_e (by omega) (by assumption))) (And.intro rfl (ab_inv_ev (m_bad1 p57 p0 p58 1 0 (by decide) (by decide) (by decide)) (by first | decide | omega) (by first | exact Nat.le_refl _ | omega) (by first | exact Nat.le_refl _ | omega) ?_)))
    refine And.intro (by first | assumption | exact b2i_R _ | exact rR (by omega) (by omega) | exact rR (by simp only [Int.toNat_natCast]; omega) (by simp only [Int.toNat_natCast]; omega)) (And.intro (fun q => ?_) (fun q => ?_))
    · exact absurd q (by decide)
    · refine hA 5 _ rfl _ _ _ _ _ ?_
      refine And.intro (by first | exact Or.inl rfl | exact Or.inr rfl | exact b2i_01 _) ?_
      exact md_no (by unfold sp_within; rw [if_neg hP1] <;> rfl) hf0 hI0 rfl
  have gO1 : ¬ ((0 ≤ a ∧ a ≤ 6) ∧ 0 ≤ b ∧ b ≤ 6) → At 2 [some (rf 57), some (.inl a), some (.inl b)] [rf 57] σ0 0 0 := fun h => by
    refine hA 2 _ rfl _ _ _ _ _ ?_
    exact gF1 h
  have gZ1 : ((0 ≤ a ∧ a ≤ 6) ∧ 0 ≤ b ∧ b ≤ 6) → At 3 [some (rf 57), some (.inl a), some (.inl b)] [rf 57] σ0 0 0 := fun h => by
    refine hA 3 _ rfl _ _ _ _ _ ?_
    exact gK1 h
  refine hA 0 _ rfl _ _ _ _ _ ?_
  refine Exists.intro _ (And.intro (q57) ?_)
  rw [m10_s0, ht0, hs0]
  refine Exists.intro _ (And.intro (by first | assumption | exact st_s | exact st_e (by decide) (by assumption) | exact st_e (by omega) (by assumption) | exact st_e (by decide) st_s | exact st_e (by omega) st_s | exact st_e (by decide) (st_e (by decide) (by assumption)) | exact st_e (by omega) (st_e (by omega) (by assumption))) (And.intro rfl (ab_inv_ev (m_isSet a ha) (by first | decide | omega) (by first | exact Nat.le_refl _ | omega) (by first | exact Nat.le_refl _ | omega) ?_)))
  refine And.intro (by first | assumption | exact b2i_R _ | exact rR (by omega) (by omega) | exact rR (by simp only [Int.toNat_natCast]; omega) (by simp only [Int.toNat_natCast]; omega)) (And.intro (fun q => ?_) (fun q => ?_))
  · exact gO1 (by have q1 := of_decide_eq_false (b2i_0 q); omega)
  · have q00 := of_decide_eq_true (b2i_1 q)
    refine hA 1 _ rfl _ _ _ _ _ ?_
    refine Exists.intro _ (And.intro (by first | assumption | exact st_s | exact st_e (by decide) (by assumption) | exact st_e (by omega) (by assumption) | exact st_e (by decide) st_s | exact st_e (by omega) st_s | exact st_e (by decide) (st_e (by decide) (by assumption)) | exact st_e (by omega) (st_e (by omega) (by assumption))) (And.intro rfl (ab_inv_ev (m_isSet b hb) (by first | decide | omega) (by first | exact Nat.le_refl _ | omega) (by first | exact Nat.le_refl _ | omega) ?_)))
    refine And.intro (by first | assumption | exact b2i_R _ | exact rR (by omega) (by omega) | exact rR (by simp only [Int.toNat_natCast]; omega) (by simp only [Int.toNat_natCast]; omega)) (And.intro (fun q => ?_) (fun q => ?_))
    · have q01 := of_decide_eq_true (b2i_1 q)
      exact gZ1 (by omega)
    · exact gO1 (by have q1 := of_decide_eq_false (b2i_0 q); omega)
set_option maxRecDepth 100000 in
set_option maxHeartbeats 1000000 in
theorem g_would (hI : MI σ cc rows K va R f n pl c t r th) (kind a b what : Int) (hkind : ab_R kind) (ha : ab_R a) (hb : ab_R b) (hwhat : ab_R what) : ab_call 10 0 0 yX10_would [rf 57, .inl kind, .inl a, .inl b, .inl what] σ (mdP σ (cc, rows, K, va, R, f, n, pl, c) r (fun i => (i : Int) + 1) (stq (cc, rows, K, va, R, f, n, pl, c) (sp_would rows R kind a b what))) := by
  have q57 := hI.h57
  have hr := hI.hr
  have hcc := hI.hc
  have hgl := gu_le hr
  have hI0 := hI.uth 0
  have hf0 : fr mA σ (ab_st σ 57 (m10 (ab_up t 0 0))) := fr_st (by unfold mA; omega)
  generalize ht0 : ab_up t 0 0 = t0 at hI0 hf0
  generalize hs0 : ab_st σ 57 (m10 t0) = σ0 at hI0 hf0
  have p57 := hI0.h57
  have p58 := hI0.h58
  have p0 := hI0.t0
  have p2 := hI0.t2
  have p12 := hI0.t12
  have p13 := hI0.t13
  refine eX10_would rfl (fun At hA => ?_)
  have gK1 : ((0 ≤ a ∧ a ≤ 6) ∧ 0 ≤ b ∧ b ≤ 6) → At 4 [some (rf 57), some (.inl kind), some (.inl a), some (.inl b), some (.inl what), none, none] [.inl 0, rf 57] σ0 0 0 := fun hP1 => by
    refine hA 4 _ rfl _ _ _ _ _ ?_
    refine Exists.intro _ (And.intro (by first | assumption | exact st_s | exact st_e (by decide) (by assumption) | exact st_e (by omega) (by assumption) | exact st_e (by decide) st_s | exact st_e (by omega) st_s | exact st_e (by decide) (st_e (by decide) (by assumption)) | exact st_e (by omega) (st_e (by omega) (by assumption))) (And.intro rfl (ab_inv_ev (m_bad0 p57 p0 1 0) (by first | decide | omega) (by first | exact Nat.le_refl _ | omega) (by first | exact Nat.le_refl _ | omega) ?_)))
    refine And.intro (by first | assumption | exact b2i_R _ | exact rR (by omega) (by omega) | exact rR (by simp only [Int.toNat_natCast]; omega) (by simp only [Int.toNat_natCast]; omega)) (And.intro (fun q => ?_) (fun q => ?_))
    · exact absurd rfl q
    · have gK2 : (0 ≤ kind ∧ kind ≤ 3 ∧ 0 ≤ what ∧ what ≤ 2) → At 9 [some (rf 57), some (.inl kind), some (.inl a), some (.inl b), some (.inl what), none, none] [.inl 0, rf 57] σ0 0 0 := fun hP2 => by
        refine hA 9 _ rfl _ _ _ _ _ ?_
        refine Exists.intro _ (And.intro (by first | assumption | exact st_s | exact st_e (by decide) (by assumption) | exact st_e (by omega) (by assumption) | exact st_e (by decide) st_s | exact st_e (by omega) st_s | exact st_e (by decide) (st_e (by decide) (by assumption)) | exact st_e (by omega) (st_e (by omega) (by assumption))) (And.intro rfl (ab_inv_ev (m_bad0 p57 p0 2 1) (by first | decide | omega) (by first | exact Nat.le_refl _ | omega) (by first | exact Nat.le_refl _ | omega) ?_)))
        refine And.intro (by first | assumption | exact b2i_R _ | exact rR (by omega) (by omega) | exact rR (by simp only [Int.toNat_natCast]; omega) (by simp only [Int.toNat_natCast]; omega)) (And.intro (fun q => ?_) (fun q => ?_))
        · obtain ⟨kind', rfl⟩ : ∃ m : Nat, kind = (m : Int) := ⟨kind.toNat, by omega⟩
          obtain ⟨what', rfl⟩ : ∃ m : Nat, what = (m : Int) := ⟨what.toNat, by omega⟩
          obtain ⟨a', rfl⟩ : ∃ m : Nat, a = (m : Int) := ⟨a.toNat, by omega⟩
          obtain ⟨b', rfl⟩ : ∃ m : Nat, b = (m : Int) := ⟨b.toNat, by omega⟩
          have hA1 := hI0.bmS a'
          have hB := hA1.bmS b'
          have a57 := hA1.h57
          have b57 := hB.h57
          have b13 := hB.t13
          have ard := bS_rd2 hI0 (k := a') (l := b') (by omega)
          have brd := bS_rd hA1 (k := b') (by omega)
          have ahi := hI0.hR (i := a') (by omega)
          have bhi := hI0.hR (i := b') (by omega)
          have bf := fr_bS (R := R) (fr_bS (σ := σ0) (R := R) hf0 (by unfold mA; omega) a') (by unfold mA; omega) b'
          have hbm1 := m_bitmap hI0 a' (by omega)
          have hbm2 := m_bitmap hA1 b' (by omega)
          obtain ⟨o, ho⟩ := hB.sc.bm (a := 313) (by omega) (by omega)
          have hjh := hi0_jn (k := kind') ahi bhi
          have hJ := m_joins ho ard brd ahi.1 bhi.1 kind' (by omega)
          have hJI := hB.st (a := 313) (x := bmc (jn kind' (R a') (R b'))) (by omega) (by omega) (shp_bm (by omega) (by omega))
          have j57 := hJI.h57
          have j13 := hJI.t13
          have jf : fr mA σ (ab_st (bS (bS σ0 R a') R b') 313 (bmc (jn kind' (R a') (R b')))) := bf.st (by unfold mA; omega)
          have hma := m_many2 (h := 313) j57 j13 hr st_s hjh
          have hwo := m_words (h := 313) j57 j13 hr st_s hjh.1 1 (by omega)
          rw [cnt_wc1] at hwo
          refine hA 11 _ rfl _ _ _ _ _ ?_
          refine Exists.intro _ (And.intro (by first | assumption | exact st_s | exact st_e (by decide) (by assumption) | exact st_e (by omega) (by assumption) | exact st_e (by decide) st_s | exact st_e (by omega) st_s | exact st_e (by decide) (st_e (by decide) (by assumption)) | exact st_e (by omega) (st_e (by omega) (by assumption))) (And.intro rfl (ab_inv_ev hbm1 (by first | decide | omega) (by first | exact Nat.le_refl _ | omega) (by first | exact Nat.le_refl _ | omega) ?_)))
          refine Exists.intro _ (And.intro (by first | assumption | exact st_s | exact st_e (by decide) (by assumption) | exact st_e (by omega) (by assumption) | exact st_e (by decide) st_s | exact st_e (by omega) st_s | exact st_e (by decide) (st_e (by decide) (by assumption)) | exact st_e (by omega) (st_e (by omega) (by assumption))) (And.intro rfl (ab_inv_ev hbm2 (by first | decide | omega) (by first | exact Nat.le_refl _ | omega) (by first | exact Nat.le_refl _ | omega) ?_)))
          refine And.intro (And.intro (by first | assumption | exact b2i_R _ | exact rR (by omega) (by omega) | exact rR (by simp only [Int.toNat_natCast]; omega) (by simp only [Int.toNat_natCast]; omega)) (by first | assumption | exact b2i_R _ | exact rR (by omega) (by omega) | exact rR (by simp only [Int.toNat_natCast]; omega) (by simp only [Int.toNat_natCast]; omega))) (And.intro (fun q => ?_) (fun q => ?_))
          · have k16 : ∀ z : Int, z = (if what' = 0 then (cnt (bit (jn kind' (R a') (R b'))) 1500 : Nat) else (cnt (sw (jn kind' (R a') (R b'))) (gu rows) : Nat)) → ∀ L, At 16 L [.inl z] (ab_st (bS (bS σ0 R a') R b') 313 (bmc (jn kind' (R a') (R b')))) 0 0 := fun z hz L => by
              refine hA 16 _ rfl _ _ _ _ _ ?_
              refine md_as (by unfold sp_would; rw [if_pos hP1, if_pos hP2, if_neg (by omega)]) ?_ jf hJI
              rw [hz]
              by_cases h : what' = 0
              · rw [if_pos h, if_pos (by omega)]; rfl
              · rw [if_neg h, if_neg (by omega)]; rfl
            refine hA 13 _ rfl _ _ _ _ _ ?_
            refine Exists.intro _ (And.intro (by first | assumption | exact st_s | exact st_e (by decide) (by assumption) | exact st_e (by omega) (by assumption) | exact st_e (by decide) st_s | exact st_e (by omega) st_s | exact st_e (by decide) (st_e (by decide) (by assumption)) | exact st_e (by omega) (st_e (by omega) (by assumption))) ?_)
            refine Exists.intro _ (And.intro (by first | assumption | exact st_s | exact st_e (by decide) (by assumption) | exact st_e (by omega) (by assumption) | exact st_e (by decide) st_s | exact st_e (by omega) st_s | exact st_e (by decide) (st_e (by decide) (by assumption)) | exact st_e (by omega) (st_e (by omega) (by assumption))) (And.intro rfl (ab_inv_ev hJ (by first | decide | omega) (by first | exact Nat.le_refl _ | omega) (by first | exact Nat.le_refl _ | omega) ?_)))
            refine And.intro (by first | assumption | exact b2i_R _ | exact rR (by omega) (by omega) | exact rR (by simp only [Int.toNat_natCast]; omega) (by simp only [Int.toNat_natCast]; omega)) (And.intro (fun q => ?_) (fun q => ?_))
            · refine hA 15 _ rfl _ _ _ _ _ ?_
              refine Exists.intro _ (And.intro (by first | assumption | exact st_s | exact st_e (by decide) (by assumption) | exact st_e (by omega) (by assumption) | exact st_e (by decide) st_s | exact st_e (by omega) st_s | exact st_e (by decide) (st_e (by decide) (by assumption)) | exact st_e (by omega) (st_e (by omega) (by assumption))) ?_)
              refine Exists.intro _ (And.intro (by first | assumption | exact st_s | exact st_e (by decide) (by assumption) | exact st_e (by omega) (by assumption) | exact st_e (by decide) st_s | exact st_e (by omega) st_s | exact st_e (by decide) (st_e (by decide) (by assumption)) | exact st_e (by omega) (st_e (by omega) (by assumption))) (And.intro rfl (ab_inv_ev hwo (by first | decide | omega) (by first | exact Nat.le_refl _ | omega) (by first | exact Nat.le_refl _ | omega) ?_)))
              exact k16 _ (by rw [if_neg (by omega)]) _
            · refine hA 14 _ rfl _ _ _ _ _ ?_
              refine Exists.intro _ (And.intro (by first | assumption | exact st_s | exact st_e (by decide) (by assumption) | exact st_e (by omega) (by assumption) | exact st_e (by decide) st_s | exact st_e (by omega) st_s | exact st_e (by decide) (st_e (by decide) (by assumption)) | exact st_e (by omega) (st_e (by omega) (by assumption))) ?_)
              refine Exists.intro _ (And.intro (by first | assumption | exact st_s | exact st_e (by decide) (by assumption) | exact st_e (by omega) (by assumption) | exact st_e (by decide) st_s | exact st_e (by omega) st_s | exact st_e (by decide) (st_e (by decide) (by assumption)) | exact st_e (by omega) (st_e (by omega) (by assumption))) (And.intro rfl (ab_inv_ev hma (by first | decide | omega) (by first | exact Nat.le_refl _ | omega) (by first | exact Nat.le_refl _ | omega) ?_)))
              exact k16 _ (by rw [if_pos (by omega)]) _
          · refine hA 12 _ rfl _ _ _ _ _ ?_
            refine Exists.intro _ (And.intro (by first | assumption | exact st_s | exact st_e (by decide) (by assumption) | exact st_e (by omega) (by assumption) | exact st_e (by decide) st_s | exact st_e (by omega) st_s | exact st_e (by decide) (st_e (by decide) (by assumption)) | exact st_e (by omega) (st_e (by omega) (by assumption))) (And.intro rfl (ab_inv_ev (m_stepsOf b57 b13 hr ard ahi.1 brd bhi.1) (by first | decide | omega) (by first | exact Nat.le_refl _ | omega) (by first | exact Nat.le_refl _ | omega) ?_)))
            exact md_as (by unfold sp_would; rw [if_pos hP1, if_pos hP2, if_pos (by omega)] <;> rfl) rfl bf hB
        · exact absurd rfl q
      have gF2 : ¬ (0 ≤ kind ∧ kind ≤ 3 ∧ 0 ≤ what ∧ what ≤ 2) → At 9 [some (rf 57), some (.inl kind), some (.inl a), some (.inl b), some (.inl what), none, none] [.inl 1, rf 57] σ0 0 0 := fun hP2 => by
        refine hA 9 _ rfl _ _ _ _ _ ?_
        refine Exists.intro _ (And.intro (by first | assumption | exact st_s | exact st_e (by decide) (by assumption) | exact st_e (by omega) (by assumption) | exact st_e (by decide) st_s | exact st_e (by omega) st_s | exact st_e (by decide) (st_e (by decide) (by assumption)) | exact st_e (by omega) (st_e (by omega) (by assumption))) (And.intro rfl (ab_inv_ev (m_bad1 p57 p0 p58 2 1 (by decide) (by decide) (by decide)) (by first | decide | omega) (by first | exact Nat.le_refl _ | omega) (by first | exact Nat.le_refl _ | omega) ?_)))
        refine And.intro (by first | assumption | exact b2i_R _ | exact rR (by omega) (by omega) | exact rR (by simp only [Int.toNat_natCast]; omega) (by simp only [Int.toNat_natCast]; omega)) (And.intro (fun q => ?_) (fun q => ?_))
        · exact absurd q (by decide)
        · refine hA 10 _ rfl _ _ _ _ _ ?_
          exact md_no (by unfold sp_would; rw [if_pos hP1, if_neg hP2] <;> rfl) hf0 hI0 rfl
      have gO2 : ¬ (0 ≤ kind ∧ kind ≤ 3 ∧ 0 ≤ what ∧ what ≤ 2) → At 7 [some (rf 57), some (.inl kind), some (.inl a), some (.inl b), some (.inl what), none, none] [rf 57] σ0 0 0 := fun h => by
        refine hA 7 _ rfl _ _ _ _ _ ?_
        exact gF2 h
      have gZ2 : (0 ≤ kind ∧ kind ≤ 3 ∧ 0 ≤ what ∧ what ≤ 2) → At 8 [some (rf 57), some (.inl kind), some (.inl a), some (.inl b), some (.inl what), none, none] [rf 57] σ0 0 0 := fun h => by
        refine hA 8 _ rfl _ _ _ _ _ ?_
        exact gK2 h
      refine hA 5 _ rfl _ _ _ _ _ ?_
      refine And.intro rfl (ab_inv_ev (m_in kind 0 3 hkind (rR (by omega) (by omega)) (rR (by omega) (by omega))) (by first | decide | omega) (by first | exact Nat.le_refl _ | omega) (by first | exact Nat.le_refl _ | omega) ?_)
      refine And.intro (by first | assumption | exact b2i_R _ | exact rR (by omega) (by omega) | exact rR (by simp only [Int.toNat_natCast]; omega) (by simp only [Int.toNat_natCast]; omega)) (And.intro (fun q => ?_) (fun q => ?_))
      · exact gO2 (by have q1 := of_decide_eq_false (b2i_0 q); omega)
      · have q10 := of_decide_eq_true (b2i_1 q)
        refine hA 6 _ rfl _ _ _ _ _ ?_
        refine And.intro rfl (ab_inv_ev (m_in what 0 2 hwhat (rR (by omega) (by omega)) (rR (by omega) (by omega))) (by first | decide | omega) (by first | exact Nat.le_refl _ | omega) (by first | exact Nat.le_refl _ | omega) ?_)
        refine And.intro (by first | assumption | exact b2i_R _ | exact rR (by omega) (by omega) | exact rR (by simp only [Int.toNat_natCast]; omega) (by simp only [Int.toNat_natCast]; omega)) (And.intro (fun q => ?_) (fun q => ?_))
        · have q11 := of_decide_eq_true (b2i_1 q)
          exact gZ2 (by omega)
        · exact gO2 (by have q1 := of_decide_eq_false (b2i_0 q); omega)
  have gF1 : ¬ ((0 ≤ a ∧ a ≤ 6) ∧ 0 ≤ b ∧ b ≤ 6) → At 4 [some (rf 57), some (.inl kind), some (.inl a), some (.inl b), some (.inl what), none, none] [.inl 1, rf 57] σ0 0 0 := fun hP1 => by
    refine hA 4 _ rfl _ _ _ _ _ ?_
    refine Exists.intro _ (And.intro (by first | assumption | exact st_s | exact st_e (by decide) (by assumption) | exact st_e (by omega) (by assumption) | exact st_e (by decide) st_s | exact st_e (by omega) st_s | exact st_e (by decide) (st_e (by decide) (by assumption)) | exact st_e (by omega) (st_e (by omega) (by assumption))) (And.intro rfl (ab_inv_ev (m_bad1 p57 p0 p58 1 0 (by decide) (by decide) (by decide)) (by first | decide | omega) (by first | exact Nat.le_refl _ | omega) (by first | exact Nat.le_refl _ | omega) ?_)))
    refine And.intro (by first | assumption | exact b2i_R _ | exact rR (by omega) (by omega) | exact rR (by simp only [Int.toNat_natCast]; omega) (by simp only [Int.toNat_natCast]; omega)) (And.intro (fun q => ?_) (fun q => ?_))
    · refine hA 10 _ rfl _ _ _ _ _ ?_
      exact md_no (by unfold sp_would; rw [if_neg hP1] <;> rfl) hf0 hI0 rfl
    · exact absurd q (by decide)
  have gO1 : ¬ ((0 ≤ a ∧ a ≤ 6) ∧ 0 ≤ b ∧ b ≤ 6) → At 2 [some (rf 57), some (.inl kind), some (.inl a), some (.inl b), some (.inl what), none, none] [rf 57] σ0 0 0 := fun h => by
    refine hA 2 _ rfl _ _ _ _ _ ?_
    exact gF1 h
  have gZ1 : ((0 ≤ a ∧ a ≤ 6) ∧ 0 ≤ b ∧ b ≤ 6) → At 3 [some (rf 57), some (.inl kind), some (.inl a), some (.inl b), some (.inl what), none, none] [rf 57] σ0 0 0 := fun h => by
    refine hA 3 _ rfl _ _ _ _ _ ?_
    exact gK1 h
  refine hA 0 _ rfl _ _ _ _ _ ?_
  refine Exists.intro _ (And.intro (q57) ?_)
  rw [m10_s0, ht0, hs0]
  refine Exists.intro _ (And.intro (by first | assumption | exact st_s | exact st_e (by decide) (by assumption) | exact st_e (by omega) (by assumption) | exact st_e (by decide) st_s | exact st_e (by omega) st_s | exact st_e (by decide) (st_e (by decide) (by assumption)) | exact st_e (by omega) (st_e (by omega) (by assumption))) (And.intro rfl (ab_inv_ev (m_isSet a ha) (by first | decide | omega) (by first | exact Nat.le_refl _ | omega) (by first | exact Nat.le_refl _ | omega) ?_)))
  refine And.intro (by first | assumption | exact b2i_R _ | exact rR (by omega) (by omega) | exact rR (by simp only [Int.toNat_natCast]; omega) (by simp only [Int.toNat_natCast]; omega)) (And.intro (fun q => ?_) (fun q => ?_))
  · exact gO1 (by have q1 := of_decide_eq_false (b2i_0 q); omega)
  · have q00 := of_decide_eq_true (b2i_1 q)
    refine hA 1 _ rfl _ _ _ _ _ ?_
    refine Exists.intro _ (And.intro (by first | assumption | exact st_s | exact st_e (by decide) (by assumption) | exact st_e (by omega) (by assumption) | exact st_e (by decide) st_s | exact st_e (by omega) st_s | exact st_e (by decide) (st_e (by decide) (by assumption)) | exact st_e (by omega) (st_e (by omega) (by assumption))) (And.intro rfl (ab_inv_ev (m_isSet b hb) (by first | decide | omega) (by first | exact Nat.le_refl _ | omega) (by first | exact Nat.le_refl _ | omega) ?_)))
    refine And.intro (by first | assumption | exact b2i_R _ | exact rR (by omega) (by omega) | exact rR (by simp only [Int.toNat_natCast]; omega) (by simp only [Int.toNat_natCast]; omega)) (And.intro (fun q => ?_) (fun q => ?_))
    · have q01 := of_decide_eq_true (b2i_1 q)
      exact gZ1 (by omega)
    · exact gO1 (by have q1 := of_decide_eq_false (b2i_0 q); omega)
end Mask
