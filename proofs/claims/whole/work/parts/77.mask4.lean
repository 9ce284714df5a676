-- ===== the model's calls that ask: sums and tallies =====
section Mask4
variable {σ : ab_H} {cc rows : Nat} {K : Nat → CT} {va : Nat → Nat → Nat} {R : Nat → V1} {f : Nat → Int} {n : Nat} {pl : Int} {c : C3} {t : Nat → Int} {r : Nat → Nat} {th : Int}
theorem sm_at (h : Nat → Nat) (x : Nat) : ∀ N, x < N → sm (fun v => if x = v then h v else 0) N = h x := by
  have hz : ∀ N, N ≤ x → sm (fun v => if x = v then h v else 0) N = 0 := by
    intro N
    induction N with
    | zero => intro _; rfl
    | succ N ih =>
      intro hN
      show sm _ N + (if x = N then h N else 0) = 0
      rw [ih (by omega), if_neg (by omega)]
  intro N
  induction N with
  | zero => intro h; omega
  | succ N ih =>
    intro hN
    show sm _ N + (if x = N then h N else 0) = h x
    by_cases e : x = N
    · rw [hz N (by omega), if_pos e, e]; omega
    · rw [ih (by omega), if_neg e]
      rfl
theorem sm_tly {g w : Nat → Nat} {h : Nat → Nat} (hw : ∀ x, w x < 200) : ∀ rows, sm (fun v => h v * tly g w rows v) 200 = sm (fun x => if bit g x = true then h (w x) else 0) rows := by
  intro rows
  induction rows with
  | zero =>
    show sm (fun v => h v * 0) 200 = 0
    have : ∀ N, sm (fun v => h v * 0) N = 0 := by
      intro N
      induction N with
      | zero => rfl
      | succ N ih => show sm _ N + h N * 0 = 0; rw [ih]; rfl
    exact this 200
  | succ rows ih =>
    show _ = sm _ rows + (if bit g rows = true then h (w rows) else 0)
    rw [← ih]
    have e : ∀ v, h v * tly g w (rows + 1) v = h v * tly g w rows v + (if bit g rows = true then (if w rows = v then h v else 0) else 0) := fun v => by
      show h v * (tly g w rows v + (bit g rows && w rows == v).toNat) = _
      rw [Nat.mul_add]
      congr 1
      cases hb : bit g rows
      · rw [if_neg Bool.false_ne_true]; rfl
      · rw [if_pos rfl, Bool.true_and]
        by_cases e : w rows = v
        · rw [if_pos e, beq_iff_eq.mpr e]; exact Nat.mul_one _
        · rw [if_neg e, beq_eq_false_iff_ne.mpr e]; rfl
    rw [sm_ext 200 (fun v _ => e v), sm_add]
    refine congrArg (sm (fun v => h v * tly g w rows v) 200 + ·) ?_
    cases hb : bit g rows
    · rw [if_neg Bool.false_ne_true]
      have : ∀ N, sm (fun v => if false = true then (if w rows = v then h v else 0) else 0) N = 0 := by
        intro N
        induction N with
        | zero => rfl
        | succ N ih => show sm _ N + (if false = true then (if w rows = N then h N else 0) else 0) = 0; rw [ih, if_neg Bool.false_ne_true]
      exact this 200
    · rw [if_pos rfl]
      have : sm (fun v => if true = true then (if w rows = v then h v else 0) else 0) 200 = sm (fun v => if w rows = v then h v else 0) 200 := sm_ext 200 (fun v _ => if_pos rfl)
      rw [this]
      exact sm_at h (w rows) 200 (hw rows)
theorem rsm_le (g : Nat → Nat) {w : Nat → Nat} (hw : ∀ x, w x < 200) : ∀ i, sm (fun x => if bit g x = true then w x else 0) i ≤ 200 * i := by
  intro i
  induction i with
  | zero => exact Nat.le_refl _
  | succ i ih =>
    show sm _ i + (if bit g i = true then w i else 0) ≤ _
    have := hw i
    split <;> omega
theorem sm_01 {f : Nat → Nat} (h : ∀ x, f x ≤ 1) : ∀ i, sm f i ≤ i := by
  intro i
  induction i with
  | zero => exact Nat.le_refl _
  | succ i ih =>
    show sm f i + f i ≤ _
    have := h i
    omega
theorem span_eq {lo hi : Int} {T : Nat → Nat} : sm (fun v => (fun v => if lo ≤ ((v : Nat) : Int) ∧ ((v : Nat) : Int) ≤ hi then 1 else 0) v * T v) 200 = sm (fun v => if lo ≤ ((v : Nat) : Int) ∧ ((v : Nat) : Int) ≤ hi then T v else 0) 200 := sm_ext 200 (fun v _ => by
  dsimp only
  split
  · exact Nat.one_mul _
  · exact Nat.zero_mul _)
theorem md_bd {t : Nat → Nat} {k : Nat} (h : ∀ v, t v ≤ k) : ∀ v, (mdF t v).2 ≤ k ∧ -1 ≤ (mdF t v).1 ∧ (mdF t v).1 < v := by
  intro v
  induction v with
  | zero => exact ⟨Nat.zero_le _, Int.le_refl _, by show (-1 : Int) < 0; decide⟩
  | succ v ih =>
    have e2 : mdF t (v + 1) = if (mdF t v).2 < t v then (((v : Nat) : Int), t v) else mdF t v := rfl
    rw [e2]
    have := h v
    split
    · exact ⟨this, by show (-1 : Int) ≤ (v : Nat); omega, by show ((v : Nat) : Int) < _; omega⟩
    · exact ⟨ih.1, ih.2.1, by omega⟩
theorem hvF_bd {t : Nat → Nat} {k : Nat} (h : ∀ v, t v ≤ k) : ∀ v, -1 ≤ (hvF t v).2 ∧ (hvF t v).2 ≤ k ∧ -1 ≤ (hvF t v).1 ∧ (hvF t v).1 ≤ v := by
  intro v
  induction v with
  | zero => exact ⟨Int.le_refl _, by show (-1 : Int) ≤ k; omega, Int.le_refl _, by show (-1 : Int) ≤ 0; decide⟩
  | succ v ih =>
    have e2 : hvF t (v + 1) = if (hvF t v).2 < t v then (((v + 1 : Nat) : Int), ((t v : Nat) : Int)) else hvF t v := rfl
    rw [e2]
    have := h v
    split
    · exact ⟨by show (-1 : Int) ≤ (t v : Nat); omega, by show ((t v : Nat) : Int) ≤ k; omega, by show (-1 : Int) ≤ (v + 1 : Nat); omega, by show ((v + 1 : Nat) : Int) ≤ _; omega⟩
    · exact ⟨ih.1, ih.2.1, ih.2.2.1, by omega⟩
set_option maxRecDepth 100000 in
set_option maxHeartbeats 1000000 in
theorem g_sum (hI : MI σ cc rows K va R f n pl c t r th) (k res : Int) (hk : ab_R k) (hres : ab_R res) : ab_call 10 0 0 yX10_sum [rf 57, .inl k, .inl res] σ (mdP σ (cc, rows, K, va, R, f, n, pl, c) r (fun i => (i : Int) + 1) (stq (cc, rows, K, va, R, f, n, pl, c) (sp_sum cc rows va R k res))) := by
  have q57 := hI.h57
  have hr := hI.hr
  have hcc := hI.hc
  have hgl := gu_le hr
  have hI0 := hI.uth 0
  have hf0 : fr mA σ (ab_st σ 57 (m10 (ab_up t 0 0))) := fr_st (by unfold mA; omega)
  generalize ht0 : ab_up t 0 0 = t0 at hI0 hf0
  generalize hs0 : ab_st σ 57 (m10 t0) = σ0 at hI0 hf0
  have p57 := hI0.h57
  have p58 := hI0.h58
  have p0 := hI0.t0
  have p2 := hI0.t2
  have p12 := hI0.t12
  have p13 := hI0.t13
  refine eX10_sum rfl (fun At hA => ?_)
  have gK1 : ((0 ≤ k ∧ k < cc) ∧ 0 ≤ res ∧ res ≤ 6) → At 4 [some (rf 57), some (.inl k), some (.inl res), none, none, none] [.inl 0, rf 57] σ0 0 0 := fun hP1 => by
    refine hA 4 _ rfl _ _ _ _ _ ?_
    refine Exists.intro _ (And.intro (by first | assumption | exact st_s | exact st_e (by decide) (by assumption) | exact st_e (by omega) (by assumption) | exact st_e (by decide) st_s | exact st_e (by omega) st_s | exact st_e (by decide) (st_e (by decide) (by assumption)) | exact st_e (by omega) (st_e (by omega) (by assumption))) (And.intro rfl (ab_inv_ev (m_bad0 p57 p0 1 0) (by first | decide | omega) (by first | exact Nat.le_refl _ | omega) (by first | exact Nat.le_refl _ | omega) ?_)))
    refine And.intro (by first | assumption | exact b2i_R _ | exact rR (by omega) (by omega) | exact rR (by simp only [Int.toNat_natCast]; omega) (by simp only [Int.toNat_natCast]; omega)) (And.intro (fun q => ?_) (fun q => ?_))
    · obtain ⟨k', rfl⟩ : ∃ m : Nat, k = (m : Int) := ⟨k.toNat, by omega⟩
      obtain ⟨res', rfl⟩ : ∃ m : Nat, res = (m : Int) := ⟨res.toNat, by omega⟩
      have hB := hI0.bmS res'
      have b57 := hB.h57
      have b13 := hB.t13
      have brd := bS_rd hI0 (k := res') (by omega)
      have bhi := hI0.hR (i := res') (by omega)
      have bf := fr_bS (σ := σ0) (R := R) hf0 (by unfold mA; omega) res'
      have hbm := m_bitmap hI0 res' (by omega)
      obtain ⟨v66, w, v67, hw, hva⟩ := hB.v (k := k') (by omega)
      have hrs := rsm_le (R res') hva
      have loop : ∀ m i : Nat, i + m = rows → At 7 [some (rf 57), some (.inl (k' : Nat)), some (.inl (res' : Nat)), some (rf (bA res')), some (.inl (sm (fun x => if bit (R res') x = true then va k' x else 0) i : Nat)), some (.inl i)] [] (bS σ0 R res') 0 0 := by
        intro m
        induction m with
        | zero =>
          intro i hi
          have hi : i = rows := by omega
          refine hA 7 _ rfl _ _ _ _ _ ?_
          refine Exists.intro _ (And.intro (by first | assumption | exact st_s | exact st_e (by decide) (by assumption) | exact st_e (by omega) (by assumption) | exact st_e (by decide) st_s | exact st_e (by omega) st_s | exact st_e (by decide) (st_e (by decide) (by assumption)) | exact st_e (by omega) (st_e (by omega) (by assumption))) ?_)
          refine And.intro (And.intro (by first | assumption | exact b2i_R _ | exact rR (by omega) (by omega) | exact rR (by simp only [Int.toNat_natCast]; omega) (by simp only [Int.toNat_natCast]; omega)) (by first | assumption | exact b2i_R _ | exact rR (by omega) (by omega) | exact rR (by simp only [Int.toNat_natCast]; omega) (by simp only [Int.toNat_natCast]; omega))) (And.intro (fun q => ?_) (fun q => ?_))
          · refine hA 12 _ rfl _ _ _ _ _ ?_
            exact md_as (by unfold sp_sum; rw [if_pos hP1] <;> rfl) (by rw [hi, ← sm_tly (h := fun v => v) hva]; rfl) bf hB
          · omega
        | succ m ih =>
          intro i hi
          have ihi := ih (i + 1) (by omega)
          rw [show sm (fun x => if bit (R res') x = true then va k' x else 0) (i + 1) = sm (fun x => if bit (R res') x = true then va k' x else 0) i + (if bit (R res') i = true then va k' i else 0) from rfl, Int.natCast_add] at ihi
          have hwi := hw i (by omega)
          have k11 : ∀ z : Int, z = ((if bit (R res') i = true then va k' i else 0 : Nat) : Int) → At 11 [some (rf 57), some (.inl (k' : Nat)), some (.inl (res' : Nat)), some (rf (bA res')), some (.inl (sm (fun x => if bit (R res') x = true then va k' x else 0) i : Nat)), some (.inl i)] [.inl z, .inl (sm (fun x => if bit (R res') x = true then va k' x else 0) i : Nat)] (bS σ0 R res') 0 0 := fun z hz => by
            subst hz
            refine hA 11 _ rfl _ _ _ _ _ ?_
            exact ihi
          refine hA 7 _ rfl _ _ _ _ _ ?_
          refine Exists.intro _ (And.intro (by first | assumption | exact st_s | exact st_e (by decide) (by assumption) | exact st_e (by omega) (by assumption) | exact st_e (by decide) st_s | exact st_e (by omega) st_s | exact st_e (by decide) (st_e (by decide) (by assumption)) | exact st_e (by omega) (st_e (by omega) (by assumption))) ?_)
          refine And.intro (And.intro (by first | assumption | exact b2i_R _ | exact rR (by omega) (by omega) | exact rR (by simp only [Int.toNat_natCast]; omega) (by simp only [Int.toNat_natCast]; omega)) (by first | assumption | exact b2i_R _ | exact rR (by omega) (by omega) | exact rR (by simp only [Int.toNat_natCast]; omega) (by simp only [Int.toNat_natCast]; omega))) (And.intro (fun q => ?_) (fun q => ?_))
          · omega
          · refine hA 8 _ rfl _ _ _ _ _ ?_
            refine And.intro rfl (ab_inv_ev (m_has brd bhi.1 i (by omega)) (by first | decide | omega) (by first | exact Nat.le_refl _ | omega) (by first | exact Nat.le_refl _ | omega) ?_)
            refine And.intro (by first | assumption | exact b2i_R _ | exact rR (by omega) (by omega) | exact rR (by simp only [Int.toNat_natCast]; omega) (by simp only [Int.toNat_natCast]; omega)) (And.intro (fun q => ?_) (fun q => ?_))
            · refine hA 10 _ rfl _ _ _ _ _ ?_
              exact k11 0 (by rw [if_neg (by rw [b2i_0 q]; exact Bool.false_ne_true)]; rfl)
            · refine hA 9 _ rfl _ _ _ _ _ ?_
              refine Exists.intro _ (And.intro (b57) ?_)
              refine Exists.intro _ (Exists.intro _ (And.intro (v66) (And.intro (by omega) ?_)))
              refine Exists.intro _ (Exists.intro _ (And.intro (v67) (And.intro (by omega) ?_)))
              exact k11 _ (by rw [if_pos (b2i_1 q)]; exact hwi)
      refine hA 6 _ rfl _ _ _ _ _ ?_
      refine Exists.intro _ (And.intro (by first | assumption | exact st_s | exact st_e (by decide) (by assumption) | exact st_e (by omega) (by assumption) | exact st_e (by decide) st_s | exact st_e (by omega) st_s | exact st_e (by decide) (st_e (by decide) (by assumption)) | exact st_e (by omega) (st_e (by omega) (by assumption))) (And.intro rfl (ab_inv_ev hbm (by first | decide | omega) (by first | exact Nat.le_refl _ | omega) (by first | exact Nat.le_refl _ | omega) ?_)))
      exact loop rows 0 (by omega)
    · exact absurd rfl q
  have gF1 : ¬ ((0 ≤ k ∧ k < cc) ∧ 0 ≤ res ∧ res ≤ 6) → At 4 [some (rf 57), some (.inl k), some (.inl res), none, none, none] [.inl 1, rf 57] σ0 0 0 := fun hP1 => by
    refine hA 4 _ rfl _ _ _ _ _ ?_
    refine Exists.intro _ (And.intro (by first | assumption | exact st_s | exact st_e (by decide) (by assumption) | exact st_e (by omega) (by assumption) | exact st_e (by decide) st_s | exact st_e (by omega) st_s | exact st_e (by decide) (st_e (by decide) (by assumption)) | exact st_e (by omega) (st_e (by omega) (by assumption))) (And.intro rfl (ab_inv_ev (m_bad1 p57 p0 p58 1 0 (by decide) (by decide) (by decide)) (by first | decide | omega) (by first | exact Nat.le_refl _ | omega) (by first | exact Nat.le_refl _ | omega) ?_)))
    refine And.intro (by first | assumption | exact b2i_R _ | exact rR (by omega) (by omega) | exact rR (by simp only [Int.toNat_natCast]; omega) (by simp only [Int.toNat_natCast]; omega)) (And.intro (fun q => ?_) (fun q => ?_))
    · exact absurd q (by decide)
    · refine hA 5 _ rfl _ _ _ _ _ ?_
      exact md_no (by unfold sp_sum; rw [if_neg hP1] <;> rfl) hf0 hI0 rfl
  have gO1 : ¬ ((0 ≤ k ∧ k < cc) ∧ 0 ≤ res ∧ res ≤ 6) → At 2 [some (rf 57), some (.inl k), some (.inl res), none, none, none] [rf 57] σ0 0 0 := fun h => by
    refine hA 2 _ rfl _ _ _ _ _ ?_
    exact gF1 h
  have gZ1 : ((0 ≤ k ∧ k < cc) ∧ 0 ≤ res ∧ res ≤ 6) → At 3 [some (rf 57), some (.inl k), some (.inl res), none, none, none] [rf 57] σ0 0 0 := fun h => by
    refine hA 3 _ rfl _ _ _ _ _ ?_
    exact gK1 h
  refine hA 0 _ rfl _ _ _ _ _ ?_
  refine Exists.intro _ (And.intro (q57) ?_)
  rw [m10_s0, ht0, hs0]
  refine Exists.intro _ (And.intro (by first | assumption | exact st_s | exact st_e (by decide) (by assumption) | exact st_e (by omega) (by assumption) | exact st_e (by decide) st_s | exact st_e (by omega) st_s | exact st_e (by decide) (st_e (by decide) (by assumption)) | exact st_e (by omega) (st_e (by omega) (by assumption))) (And.intro rfl (ab_inv_ev (m_isColumn p57 p12 hcc k hk) (by first | decide | omega) (by first | exact Nat.le_refl _ | omega) (by first | exact Nat.le_refl _ | omega) ?_)))
  refine And.intro (by first | assumption | exact b2i_R _ | exact rR (by omega) (by omega) | exact rR (by simp only [Int.toNat_natCast]; omega) (by simp only [Int.toNat_natCast]; omega)) (And.intro (fun q => ?_) (fun q => ?_))
  · exact gO1 (by have q1 := of_decide_eq_false (b2i_0 q); omega)
  · have q00 := of_decide_eq_true (b2i_1 q)
    refine hA 1 _ rfl _ _ _ _ _ ?_
    refine Exists.intro _ (And.intro (by first | assumption | exact st_s | exact st_e (by decide) (by assumption) | exact st_e (by omega) (by assumption) | exact st_e (by decide) st_s | exact st_e (by omega) st_s | exact st_e (by decide) (st_e (by decide) (by assumption)) | exact st_e (by omega) (st_e (by omega) (by assumption))) (And.intro rfl (ab_inv_ev (m_isSet res hres) (by first | decide | omega) (by first | exact Nat.le_refl _ | omega) (by first | exact Nat.le_refl _ | omega) ?_)))
    refine And.intro (by first | assumption | exact b2i_R _ | exact rR (by omega) (by omega) | exact rR (by simp only [Int.toNat_natCast]; omega) (by simp only [Int.toNat_natCast]; omega)) (And.intro (fun q => ?_) (fun q => ?_))
    · have q01 := of_decide_eq_true (b2i_1 q)
      exact gZ1 (by omega)
    · exact gO1 (by have q1 := of_decide_eq_false (b2i_0 q); omega)
set_option maxRecDepth 100000 in
set_option maxHeartbeats 1000000 in
theorem g_span (hI : MI σ cc rows K va R f n pl c t r th) (k res lo hi : Int) (hk : ab_R k) (hres : ab_R res) (hlo : ab_R lo) (hhi : ab_R hi) : ab_call 10 0 0 yX10_span [rf 57, .inl k, .inl res, .inl lo, .inl hi] σ (mdP σ (cc, rows, K, va, R, f, n, pl, c) r (fun i => (i : Int) + 1) (stq (cc, rows, K, va, R, f, n, pl, c) (sp_span cc rows va R k res lo hi))) := by
  have q57 := hI.h57
  have hr := hI.hr
  have hcc := hI.hc
  have hgl := gu_le hr
  have hI0 := hI.uth 0
  have hf0 : fr mA σ (ab_st σ 57 (m10 (ab_up t 0 0))) := fr_st (by unfold mA; omega)
  generalize ht0 : ab_up t 0 0 = t0 at hI0 hf0
  generalize hs0 : ab_st σ 57 (m10 t0) = σ0 at hI0 hf0
  have p57 := hI0.h57
  have p58 := hI0.h58
  have p0 := hI0.t0
  have p2 := hI0.t2
  have p12 := hI0.t12
  have p13 := hI0.t13
  refine eX10_span rfl (fun At hA => ?_)
  have gK1 : ((0 ≤ k ∧ k < cc) ∧ 0 ≤ res ∧ res ≤ 6) → At 4 [some (rf 57), some (.inl k), some (.inl res), some (.inl lo), some (.inl hi), none, none, none] [.inl 0, rf 57] σ0 0 0 := fun hP1 => by
    refine hA 4 _ rfl _ _ _ _ _ ?_
    refine Exists.intro _ (And.intro (by first | assumption | exact st_s | exact st_e (by decide) (by assumption) | exact st_e (by omega) (by assumption) | exact st_e (by decide) st_s | exact st_e (by omega) st_s | exact st_e (by decide) (st_e (by decide) (by assumption)) | exact st_e (by omega) (st_e (by omega) (by assumption))) (And.intro rfl (ab_inv_ev (m_bad0 p57 p0 1 0) (by first | decide | omega) (by first | exact Nat.le_refl _ | omega) (by first | exact Nat.le_refl _ | omega) ?_)))
    refine And.intro (by first | assumption | exact b2i_R _ | exact rR (by omega) (by omega) | exact rR (by simp only [Int.toNat_natCast]; omega) (by simp only [Int.toNat_natCast]; omega)) (And.intro (fun q => ?_) (fun q => ?_))
    · exact absurd rfl q
    · have gK2 : (0 ≤ lo ∧ lo ≤ 999 ∧ 0 ≤ hi ∧ hi ≤ 999) → At 9 [some (rf 57), some (.inl k), some (.inl res), some (.inl lo), some (.inl hi), none, none, none] [.inl 0, rf 57] σ0 0 0 := fun hP2 => by
        refine hA 9 _ rfl _ _ _ _ _ ?_
        refine Exists.intro _ (And.intro (by first | assumption | exact st_s | exact st_e (by decide) (by assumption) | exact st_e (by omega) (by assumption) | exact st_e (by decide) st_s | exact st_e (by omega) st_s | exact st_e (by decide) (st_e (by decide) (by assumption)) | exact st_e (by omega) (st_e (by omega) (by assumption))) (And.intro rfl (ab_inv_ev (m_bad0 p57 p0 2 1) (by first | decide | omega) (by first | exact Nat.le_refl _ | omega) (by first | exact Nat.le_refl _ | omega) ?_)))
        refine And.intro (by first | assumption | exact b2i_R _ | exact rR (by omega) (by omega) | exact rR (by simp only [Int.toNat_natCast]; omega) (by simp only [Int.toNat_natCast]; omega)) (And.intro (fun q => ?_) (fun q => ?_))
        · obtain ⟨k', rfl⟩ : ∃ m : Nat, k = (m : Int) := ⟨k.toNat, by omega⟩
          obtain ⟨res', rfl⟩ : ∃ m : Nat, res = (m : Int) := ⟨res.toNat, by omega⟩
          have hB := hI0.bmS res'
          have b57 := hB.h57
          have b13 := hB.t13
          have brd := bS_rd hI0 (k := res') (by omega)
          have bhi := hI0.hR (i := res') (by omega)
          have bf := fr_bS (σ := σ0) (R := R) hf0 (by unfold mA; omega) res'
          have hbm := m_bitmap hI0 res' (by omega)
          obtain ⟨v66, w, v67, hw, hva⟩ := hB.v (k := k') (by omega)
          have hrs := fun i => sm_01 (f := fun x => if bit (R res') x = true then (fun v => if lo ≤ ((v : Nat) : Int) ∧ ((v : Nat) : Int) ≤ hi then 1 else 0) (va k' x) else 0) (fun x => by dsimp only; split <;> (try split) <;> omega) i
          have loop : ∀ m i : Nat, i + m = rows → At 12 [some (rf 57), some (.inl (k' : Nat)), some (.inl (res' : Nat)), some (.inl lo), some (.inl hi), some (rf (bA res')), some (.inl (sm (fun x => if bit (R res') x = true then (fun v => if lo ≤ ((v : Nat) : Int) ∧ ((v : Nat) : Int) ≤ hi then 1 else 0) (va k' x) else 0) i : Nat)), some (.inl i)] [] (bS σ0 R res') 0 0 := by
            intro m
            induction m with
            | zero =>
              intro i hi9
              have hi9 : i = rows := by omega
              refine hA 12 _ rfl _ _ _ _ _ ?_
              refine Exists.intro _ (And.intro (by first | assumption | exact st_s | exact st_e (by decide) (by assumption) | exact st_e (by omega) (by assumption) | exact st_e (by decide) st_s | exact st_e (by omega) st_s | exact st_e (by decide) (st_e (by decide) (by assumption)) | exact st_e (by omega) (st_e (by omega) (by assumption))) ?_)
              refine And.intro (And.intro (by first | assumption | exact b2i_R _ | exact rR (by omega) (by omega) | exact rR (by simp only [Int.toNat_natCast]; omega) (by simp only [Int.toNat_natCast]; omega)) (by first | assumption | exact b2i_R _ | exact rR (by omega) (by omega) | exact rR (by simp only [Int.toNat_natCast]; omega) (by simp only [Int.toNat_natCast]; omega))) (And.intro (fun q => ?_) (fun q => ?_))
              · refine hA 18 _ rfl _ _ _ _ _ ?_
                exact md_as (by unfold sp_span; rw [if_pos hP1, if_pos hP2] <;> rfl) (by rw [hi9, ← sm_tly (h := (fun v => if lo ≤ ((v : Nat) : Int) ∧ ((v : Nat) : Int) ≤ hi then 1 else 0)) hva, span_eq]; rfl) bf hB
              · omega
            | succ m ih =>
              intro i hi9
              have ihi := ih (i + 1) (by omega)
              rw [show sm (fun x => if bit (R res') x = true then (fun v => if lo ≤ ((v : Nat) : Int) ∧ ((v : Nat) : Int) ≤ hi then 1 else 0) (va k' x) else 0) (i + 1) = sm (fun x => if bit (R res') x = true then (fun v => if lo ≤ ((v : Nat) : Int) ∧ ((v : Nat) : Int) ≤ hi then 1 else 0) (va k' x) else 0) i + (if bit (R res') i = true then (fun v => if lo ≤ ((v : Nat) : Int) ∧ ((v : Nat) : Int) ≤ hi then 1 else 0) (va k' i) else 0) from rfl, Int.natCast_add] at ihi
              have hwi := hw i (by omega)
              have hvi := hva i
              have k17 : ∀ z : Int, z = ((if bit (R res') i = true then (fun v => if lo ≤ ((v : Nat) : Int) ∧ ((v : Nat) : Int) ≤ hi then 1 else 0) (va k' i) else 0 : Nat) : Int) → At 17 [some (rf 57), some (.inl (k' : Nat)), some (.inl (res' : Nat)), some (.inl lo), some (.inl hi), some (rf (bA res')), some (.inl (sm (fun x => if bit (R res') x = true then (fun v => if lo ≤ ((v : Nat) : Int) ∧ ((v : Nat) : Int) ≤ hi then 1 else 0) (va k' x) else 0) i : Nat)), some (.inl i)] [.inl z, .inl (sm (fun x => if bit (R res') x = true then (fun v => if lo ≤ ((v : Nat) : Int) ∧ ((v : Nat) : Int) ≤ hi then 1 else 0) (va k' x) else 0) i : Nat)] (bS σ0 R res') 0 0 := fun z hz => by
                subst hz
                refine hA 17 _ rfl _ _ _ _ _ ?_
                exact ihi
              have k16 : ¬ (bit (R res') i = true ∧ lo ≤ ((va k' i : Nat) : Int) ∧ ((va k' i : Nat) : Int) ≤ hi) → At 16 [some (rf 57), some (.inl (k' : Nat)), some (.inl (res' : Nat)), some (.inl lo), some (.inl hi), some (rf (bA res')), some (.inl (sm (fun x => if bit (R res') x = true then (fun v => if lo ≤ ((v : Nat) : Int) ∧ ((v : Nat) : Int) ≤ hi then 1 else 0) (va k' x) else 0) i : Nat)), some (.inl i)] [.inl (sm (fun x => if bit (R res') x = true then (fun v => if lo ≤ ((v : Nat) : Int) ∧ ((v : Nat) : Int) ≤ hi then 1 else 0) (va k' x) else 0) i : Nat)] (bS σ0 R res') 0 0 := fun hn => by
                refine hA 16 _ rfl _ _ _ _ _ ?_
                refine k17 0 ?_
                by_cases h1 : bit (R res') i = true
                · rw [if_pos h1]
                  dsimp only
                  rw [if_neg (fun h2 => hn ⟨h1, h2⟩)]
                  rfl
                · rw [if_neg h1]
                  rfl
              have hin := m_in (σ := (bS σ0 R res')) (va k' i : Nat) lo hi (rR (by omega) (by omega)) hlo hhi
              rw [← hwi] at hin
              refine hA 12 _ rfl _ _ _ _ _ ?_
              refine Exists.intro _ (And.intro (by first | assumption | exact st_s | exact st_e (by decide) (by assumption) | exact st_e (by omega) (by assumption) | exact st_e (by decide) st_s | exact st_e (by omega) st_s | exact st_e (by decide) (st_e (by decide) (by assumption)) | exact st_e (by omega) (st_e (by omega) (by assumption))) ?_)
              refine And.intro (And.intro (by first | assumption | exact b2i_R _ | exact rR (by omega) (by omega) | exact rR (by simp only [Int.toNat_natCast]; omega) (by simp only [Int.toNat_natCast]; omega)) (by first | assumption | exact b2i_R _ | exact rR (by omega) (by omega) | exact rR (by simp only [Int.toNat_natCast]; omega) (by simp only [Int.toNat_natCast]; omega))) (And.intro (fun q => ?_) (fun q => ?_))
              · omega
              · refine hA 13 _ rfl _ _ _ _ _ ?_
                refine And.intro rfl (ab_inv_ev (m_has brd bhi.1 i (by omega)) (by first | decide | omega) (by first | exact Nat.le_refl _ | omega) (by first | exact Nat.le_refl _ | omega) ?_)
                refine And.intro (by first | assumption | exact b2i_R _ | exact rR (by omega) (by omega) | exact rR (by simp only [Int.toNat_natCast]; omega) (by simp only [Int.toNat_natCast]; omega)) (And.intro (fun q => ?_) (fun q => ?_))
                · exact k16 (fun h => by rw [b2i_0 q] at h; exact Bool.false_ne_true h.1)
                · have hbt := b2i_1 q
                  refine hA 14 _ rfl _ _ _ _ _ ?_
                  refine Exists.intro _ (And.intro (b57) ?_)
                  refine Exists.intro _ (Exists.intro _ (And.intro (v66) (And.intro (by omega) ?_)))
                  refine Exists.intro _ (Exists.intro _ (And.intro (v67) (And.intro (by omega) ?_)))
                  refine And.intro rfl (ab_inv_ev hin (by first | decide | omega) (by first | exact Nat.le_refl _ | omega) (by first | exact Nat.le_refl _ | omega) ?_)
                  refine And.intro (b2i_R _) (And.intro (fun q => ?_) (fun q => ?_))
                  · have q2 := of_decide_eq_false (b2i_0 q)
                    exact k16 (fun h => q2 (by rw [hwi]; exact h.2))
                  · have q2 := of_decide_eq_true (b2i_1 q)
                    rw [hwi] at q2
                    refine hA 15 _ rfl _ _ _ _ _ ?_
                    refine k17 1 ?_
                    rw [if_pos hbt]
                    dsimp only
                    rw [if_pos q2]
                    rfl
          refine hA 11 _ rfl _ _ _ _ _ ?_
          refine Exists.intro _ (And.intro (by first | assumption | exact st_s | exact st_e (by decide) (by assumption) | exact st_e (by omega) (by assumption) | exact st_e (by decide) st_s | exact st_e (by omega) st_s | exact st_e (by decide) (st_e (by decide) (by assumption)) | exact st_e (by omega) (st_e (by omega) (by assumption))) (And.intro rfl (ab_inv_ev hbm (by first | decide | omega) (by first | exact Nat.le_refl _ | omega) (by first | exact Nat.le_refl _ | omega) ?_)))
          exact loop rows 0 (by omega)
        · exact absurd rfl q
      have gF2 : ¬ (0 ≤ lo ∧ lo ≤ 999 ∧ 0 ≤ hi ∧ hi ≤ 999) → At 9 [some (rf 57), some (.inl k), some (.inl res), some (.inl lo), some (.inl hi), none, none, none] [.inl 1, rf 57] σ0 0 0 := fun hP2 => by
        refine hA 9 _ rfl _ _ _ _ _ ?_
        refine Exists.intro _ (And.intro (by first | assumption | exact st_s | exact st_e (by decide) (by assumption) | exact st_e (by omega) (by assumption) | exact st_e (by decide) st_s | exact st_e (by omega) st_s | exact st_e (by decide) (st_e (by decide) (by assumption)) | exact st_e (by omega) (st_e (by omega) (by assumption))) (And.intro rfl (ab_inv_ev (m_bad1 p57 p0 p58 2 1 (by decide) (by decide) (by decide)) (by first | decide | omega) (by first | exact Nat.le_refl _ | omega) (by first | exact Nat.le_refl _ | omega) ?_)))
        refine And.intro (by first | assumption | exact b2i_R _ | exact rR (by omega) (by omega) | exact rR (by simp only [Int.toNat_natCast]; omega) (by simp only [Int.toNat_natCast]; omega)) (And.intro (fun q => ?_) (fun q => ?_))
        · exact absurd q (by decide)
        · refine hA 10 _ rfl _ _ _ _ _ ?_
          exact md_no (by unfold sp_span; rw [if_pos hP1, if_neg hP2] <;> rfl) hf0 hI0 rfl
      have gO2 : ¬ (0 ≤ lo ∧ lo ≤ 999 ∧ 0 ≤ hi ∧ hi ≤ 999) → At 7 [some (rf 57), some (.inl k), some (.inl res), some (.inl lo), some (.inl hi), none, none, none] [rf 57] σ0 0 0 := fun h => by
        refine hA 7 _ rfl _ _ _ _ _ ?_
        exact gF2 h
      have gZ2 : (0 ≤ lo ∧ lo ≤ 999 ∧ 0 ≤ hi ∧ hi ≤ 999) → At 8 [some (rf 57), some (.inl k), some (.inl res), some (.inl lo), some (.inl hi), none, none, none] [rf 57] σ0 0 0 := fun h => by
        refine hA 8 _ rfl _ _ _ _ _ ?_
        exact gK2 h
      refine hA 5 _ rfl _ _ _ _ _ ?_
      refine And.intro rfl (ab_inv_ev (m_in lo 0 999 hlo (rR (by omega) (by omega)) (rR (by omega) (by omega))) (by first | decide | omega) (by first | exact Nat.le_refl _ | omega) (by first | exact Nat.le_refl _ | omega) ?_)
      refine And.intro (by first | assumption | exact b2i_R _ | exact rR (by omega) (by omega) | exact rR (by simp only [Int.toNat_natCast]; omega) (by simp only [Int.toNat_natCast]; omega)) (And.intro (fun q => ?_) (fun q => ?_))
      · exact gO2 (by have q1 := of_decide_eq_false (b2i_0 q); omega)
      · have q10 := of_decide_eq_true (b2i_1 q)
        refine hA 6 _ rfl _ _ _ _ _ ?_
        refine And.intro rfl (ab_inv_ev (m_in hi 0 999 hhi (rR (by omega) (by omega)) (rR (by omega) (by omega))) (by first | decide | omega) (by first | exact Nat.le_refl _ | omega) (by first | exact Nat.le_refl _ | omega) ?_)
        refine And.intro (by first | assumption | exact b2i_R _ | exact rR (by omega) (by omega) | exact rR (by simp only [Int.toNat_natCast]; omega) (by simp only [Int.toNat_natCast]; omega)) (And.intro (fun q => ?_) (fun q => ?_))
        · have q11 := of_decide_eq_true (b2i_1 q)
          exact gZ2 (by omega)
        · exact gO2 (by have q1 := of_decide_eq_false (b2i_0 q); omega)
  have gF1 : ¬ ((0 ≤ k ∧ k < cc) ∧ 0 ≤ res ∧ res ≤ 6) → At 4 [some (rf 57), some (.inl k), some (.inl res), some (.inl lo), some (.inl hi), none, none, none] [.inl 1, rf 57] σ0 0 0 := fun hP1 => by
    refine hA 4 _ rfl _ _ _ _ _ ?_
    refine Exists.intro _ (And.intro (by first | assumption | exact st_s | exact st_e (by decide) (by assumption) | exact st_e (by omega) (by assumption) | exact st_e (by decide) st_s | exact st_e (by omega) st_s | exact st_e (by decide) (st_e (by decide) (by assumption)) | exact st_e (by omega) (st_e (by omega) (by assumption))) (And.intro rfl (ab_inv_ev (m_bad1 p57 p0 p58 1 0 (by decide) (by decide) (by decide)) (by first | decide | omega) (by first | exact Nat.le_refl _ | omega) (by first | exact Nat.le_refl _ | omega) ?_)))
    refine And.intro (by first | assumption | exact b2i_R _ | exact rR (by omega) (by omega) | exact rR (by simp only [Int.toNat_natCast]; omega) (by simp only [Int.toNat_natCast]; omega)) (And.intro (fun q => ?_) (fun q => ?_))
    · refine hA 10 _ rfl _ _ _ _ _ ?_
      exact md_no (by unfold sp_span; rw [if_neg hP1] <;> rfl) hf0 hI0 rfl
    · exact absurd q (by decide)
  have gO1 : ¬ ((0 ≤ k ∧ k < cc) ∧ 0 ≤ res ∧ res ≤ 6) → At 2 [some (rf 57), some (.inl k), some (.inl res), some (.inl lo), some (.inl hi), none, none, none] [rf 57] σ0 0 0 := fun h => by
    refine hA 2 _ rfl _ _ _ _ _ ?_
    exact gF1 h
  have gZ1 : ((0 ≤ k ∧ k < cc) ∧ 0 ≤ res ∧ res ≤ 6) → At 3 [some (rf 57), some (.inl k), some (.inl res), some (.inl lo), some (.inl hi), none, none, none] [rf 57] σ0 0 0 := fun h => by
    refine hA 3 _ rfl _ _ _ _ _ ?_
    exact gK1 h
  refine hA 0 _ rfl _ _ _ _ _ ?_
  refine Exists.intro _ (And.intro (q57) ?_)
  rw [m10_s0, ht0, hs0]
  refine Exists.intro _ (And.intro (by first | assumption | exact st_s | exact st_e (by decide) (by assumption) | exact st_e (by omega) (by assumption) | exact st_e (by decide) st_s | exact st_e (by omega) st_s | exact st_e (by decide) (st_e (by decide) (by assumption)) | exact st_e (by omega) (st_e (by omega) (by assumption))) (And.intro rfl (ab_inv_ev (m_isColumn p57 p12 hcc k hk) (by first | decide | omega) (by first | exact Nat.le_refl _ | omega) (by first | exact Nat.le_refl _ | omega) ?_)))
  refine And.intro (by first | assumption | exact b2i_R _ | exact rR (by omega) (by omega) | exact rR (by simp only [Int.toNat_natCast]; omega) (by simp only [Int.toNat_natCast]; omega)) (And.intro (fun q => ?_) (fun q => ?_))
  · exact gO1 (by have q1 := of_decide_eq_false (b2i_0 q); omega)
  · have q00 := of_decide_eq_true (b2i_1 q)
    refine hA 1 _ rfl _ _ _ _ _ ?_
    refine Exists.intro _ (And.intro (by first | assumption | exact st_s | exact st_e (by decide) (by assumption) | exact st_e (by omega) (by assumption) | exact st_e (by decide) st_s | exact st_e (by omega) st_s | exact st_e (by decide) (st_e (by decide) (by assumption)) | exact st_e (by omega) (st_e (by omega) (by assumption))) (And.intro rfl (ab_inv_ev (m_isSet res hres) (by first | decide | omega) (by first | exact Nat.le_refl _ | omega) (by first | exact Nat.le_refl _ | omega) ?_)))
    refine And.intro (by first | assumption | exact b2i_R _ | exact rR (by omega) (by omega) | exact rR (by simp only [Int.toNat_natCast]; omega) (by simp only [Int.toNat_natCast]; omega)) (And.intro (fun q => ?_) (fun q => ?_))
    · have q01 := of_decide_eq_true (b2i_1 q)
      exact gZ1 (by omega)
    · exact gO1 (by have q1 := of_decide_eq_false (b2i_0 q); omega)
set_option maxRecDepth 100000 in
set_option maxHeartbeats 1000000 in
theorem g_kth (hI : MI σ cc rows K va R f n pl c t r th) (k res x : Int) (hk : ab_R k) (hres : ab_R res) (hx : ab_R x) : ab_call 10 0 0 yX10_kth [rf 57, .inl k, .inl res, .inl x] σ (mdP σ (cc, rows, K, va, R, f, n, pl, c) r (fun i => (i : Int) + 1) (stq (cc, rows, K, va, R, f, n, pl, c) (sp_kth cc rows va R k res x))) := by
  have q57 := hI.h57
  have hr := hI.hr
  have hcc := hI.hc
  have hgl := gu_le hr
  have hI0 := hI.uth 0
  have hf0 : fr mA σ (ab_st σ 57 (m10 (ab_up t 0 0))) := fr_st (by unfold mA; omega)
  generalize ht0 : ab_up t 0 0 = t0 at hI0 hf0
  generalize hs0 : ab_st σ 57 (m10 t0) = σ0 at hI0 hf0
  have p57 := hI0.h57
  have p58 := hI0.h58
  have p0 := hI0.t0
  have p2 := hI0.t2
  have p12 := hI0.t12
  have p13 := hI0.t13
  refine eX10_kth rfl (fun At hA => ?_)
  have gK1 : ((0 ≤ k ∧ k < cc) ∧ 0 ≤ res ∧ res ≤ 6) → At 4 [some (rf 57), some (.inl k), some (.inl res), some (.inl x), none, none] [.inl 0, rf 57] σ0 0 0 := fun hP1 => by
    refine hA 4 _ rfl _ _ _ _ _ ?_
    refine Exists.intro _ (And.intro (by first | assumption | exact st_s | exact st_e (by decide) (by assumption) | exact st_e (by omega) (by assumption) | exact st_e (by decide) st_s | exact st_e (by omega) st_s | exact st_e (by decide) (st_e (by decide) (by assumption)) | exact st_e (by omega) (st_e (by omega) (by assumption))) (And.intro rfl (ab_inv_ev (m_bad0 p57 p0 1 0) (by first | decide | omega) (by first | exact Nat.le_refl _ | omega) (by first | exact Nat.le_refl _ | omega) ?_)))
    refine And.intro (by first | assumption | exact b2i_R _ | exact rR (by omega) (by omega) | exact rR (by simp only [Int.toNat_natCast]; omega) (by simp only [Int.toNat_natCast]; omega)) (And.intro (fun q => ?_) (fun q => ?_))
    · obtain ⟨k', rfl⟩ : ∃ m : Nat, k = (m : Int) := ⟨k.toNat, by omega⟩
      obtain ⟨res', rfl⟩ : ∃ m : Nat, res = (m : Int) := ⟨res.toNat, by omega⟩
      have hB := hI0.bmS res'
      have b57 := hB.h57
      have b13 := hB.t13
      have brd := bS_rd hI0 (k := res') (by omega)
      have bhi := hI0.hR (i := res') (by omega)
      have bf := fr_bS (σ := σ0) (R := R) hf0 (by unfold mA; omega) res'
      have hbm := m_bitmap hI0 res' (by omega)
      have hV := hB.v (k := k') (by omega)
      obtain ⟨o, ho⟩ := hB.sc.of
      have hct := m_counts b57 b13 hr (show k' < 4 by omega) hV (h := bA res') brd (bA_ne _ _ (by omega) (by omega)) bhi.1 ho
      have hJI := hB.st (a := 315) (x := ints 200 (tly (R res') (va k') rows)) (by omega) (by omega) shp_of
      have j57 := hJI.h57
      have j315 : (ab_st (bS σ0 R res') 315 (ints 200 (tly (R res') (va k') rows))).2 315 = some (ints 200 (tly (R res') (va k') rows)) := st_s
      have jf : fr mA σ (ab_st (bS σ0 R res') 315 (ints 200 (tly (R res') (va k') rows))) := bf.st (by unfold mA; omega)
      have htl : ∀ v, (tly (R res') (va k') rows) v ≤ rows := fun v => cnt_le _ rows
      have loop : ∀ (m v : Nat) (left : Int), v + m = 200 → left ≤ x → (0 ≤ x → 0 ≤ left) → (x < 0 → left < 0) → (0 ≤ x → kfF (tly (R res') (va k') rows) 200 0 x = kfF (tly (R res') (va k') rows) m v left) → At 7 [some (rf 57), some (.inl (k' : Nat)), some (.inl (res' : Nat)), some (.inl x), some (.inl left), some (.inl v)] [] (ab_st (bS σ0 R res') 315 (ints 200 (tly (R res') (va k') rows))) 0 0 := by
        intro m
        have k12 : ∀ (left : Int) (v : Nat), (if x < 0 then -1 else kfF (tly (R res') (va k') rows) 200 0 x) = -1 → At 12 [some (rf 57), some (.inl (k' : Nat)), some (.inl (res' : Nat)), some (.inl x), some (.inl left), some (.inl v)] [] (ab_st (bS σ0 R res') 315 (ints 200 (tly (R res') (va k') rows))) 0 0 := fun left v h => by
          refine hA 12 _ rfl _ _ _ _ _ ?_
          exact md_as (by unfold sp_kth; rw [if_pos hP1] <;> rfl) h.symm jf hJI
        have hx2 := hx.1
        have hx3 := hx.2
        induction m with
        | zero =>
          intro v left hv h1 h2 h3 he
          have hk := k12 left v (by
            by_cases h : x < 0
            · rw [if_pos h]
            · rw [if_neg h, he (by omega)]; rfl)
          refine hA 7 _ rfl _ _ _ _ _ ?_
          refine And.intro (And.intro (by first | assumption | exact b2i_R _ | exact rR (by omega) (by omega) | exact rR (by simp only [Int.toNat_natCast]; omega) (by simp only [Int.toNat_natCast]; omega)) (by first | assumption | exact b2i_R _ | exact rR (by omega) (by omega) | exact rR (by simp only [Int.toNat_natCast]; omega) (by simp only [Int.toNat_natCast]; omega))) (And.intro (fun q => ?_) (fun q => ?_))
          · exact hk
          · omega
        | succ m ih =>
          intro v left hv h1 h2 h3 he
          have htv := htl v
          have e2 : kfF (tly (R res') (va k') rows) (m + 1) v left = if left < (tly (R res') (va k') rows) v then (v : Int) else kfF (tly (R res') (va k') rows) m (v + 1) (left - (tly (R res') (va k') rows) v) := rfl
          refine hA 7 _ rfl _ _ _ _ _ ?_
          refine And.intro (And.intro (by first | assumption | exact b2i_R _ | exact rR (by omega) (by omega) | exact rR (by simp only [Int.toNat_natCast]; omega) (by simp only [Int.toNat_natCast]; omega)) (by first | assumption | exact b2i_R _ | exact rR (by omega) (by omega) | exact rR (by simp only [Int.toNat_natCast]; omega) (by simp only [Int.toNat_natCast]; omega))) (And.intro (fun q => ?_) (fun q => ?_))
          · omega
          · refine hA 8 _ rfl _ _ _ _ _ ?_
            refine And.intro (by first | assumption | exact b2i_R _ | exact rR (by omega) (by omega) | exact rR (by simp only [Int.toNat_natCast]; omega) (by simp only [Int.toNat_natCast]; omega)) (And.intro (fun q => ?_) (fun q => ?_))
            · exact k12 _ _ (by rw [if_pos (by assumption)])
            · have hl0 := h2 (by omega)
              refine hA 9 _ rfl _ _ _ _ _ ?_
              refine Exists.intro _ (And.intro (j57) ?_)
              refine Exists.intro _ (Exists.intro _ (And.intro (j315) (And.intro (by omega) ?_)))
              refine And.intro (And.intro (rR (by omega) (by omega)) (show ab_R (((tly (R res') (va k') rows) v : Nat) : Int) from rR (by omega) (by omega))) (And.intro (fun q => ?_) (fun q => ?_))
              · have q : (((tly (R res') (va k') rows) v : Nat) : Int) ≤ left := q
                rw [if_neg (by omega)] at e2
                have ihv := ih (v + 1) (left - (tly (R res') (va k') rows) v) (by omega) (by omega) (fun _ => by omega) (fun h => by omega) (fun h => by rw [he h, e2])
                refine hA 11 _ rfl _ _ _ _ _ ?_
                refine Exists.intro _ (And.intro (by first | assumption | exact st_s | exact st_e (by decide) (by assumption) | exact st_e (by omega) (by assumption) | exact st_e (by decide) st_s | exact st_e (by omega) st_s | exact st_e (by decide) (st_e (by decide) (by assumption)) | exact st_e (by omega) (st_e (by omega) (by assumption))) ?_)
                refine Exists.intro _ (Exists.intro _ (And.intro (by first | assumption | exact st_s | exact st_e (by decide) (by assumption) | exact st_e (by omega) (by assumption) | exact st_e (by decide) st_s | exact st_e (by omega) st_s | exact st_e (by decide) (st_e (by decide) (by assumption)) | exact st_e (by omega) (st_e (by omega) (by assumption))) (And.intro (by first | omega | (simp only [Int.toNat_natCast]; omega)) ?_)))
                exact ihv
              · have q : left < (((tly (R res') (va k') rows) v : Nat) : Int) := q
                rw [if_pos q] at e2
                refine hA 10 _ rfl _ _ _ _ _ ?_
                exact md_as (by unfold sp_kth; rw [if_pos hP1, if_neg (by omega)] <;> rfl) (by show _ = kfF (tly (R res') (va k') rows) 200 0 x; rw [he (by omega), e2]) jf hJI
      refine hA 6 _ rfl _ _ _ _ _ ?_
      refine Exists.intro _ (And.intro (by first | assumption | exact st_s | exact st_e (by decide) (by assumption) | exact st_e (by omega) (by assumption) | exact st_e (by decide) st_s | exact st_e (by omega) st_s | exact st_e (by decide) (st_e (by decide) (by assumption)) | exact st_e (by omega) (st_e (by omega) (by assumption))) (And.intro rfl (ab_inv_ev hbm (by first | decide | omega) (by first | exact Nat.le_refl _ | omega) (by first | exact Nat.le_refl _ | omega) ?_)))
      refine Exists.intro _ (And.intro (by first | assumption | exact st_s | exact st_e (by decide) (by assumption) | exact st_e (by omega) (by assumption) | exact st_e (by decide) st_s | exact st_e (by omega) st_s | exact st_e (by decide) (st_e (by decide) (by assumption)) | exact st_e (by omega) (st_e (by omega) (by assumption))) (And.intro rfl (ab_inv_ev hct (by first | decide | omega) (by first | exact Nat.le_refl _ | omega) (by first | exact Nat.le_refl _ | omega) ?_)))
      exact loop 200 0 x (by omega) (Int.le_refl _) (fun h => h) (fun h => h) (fun _ => rfl)
    · exact absurd rfl q
  have gF1 : ¬ ((0 ≤ k ∧ k < cc) ∧ 0 ≤ res ∧ res ≤ 6) → At 4 [some (rf 57), some (.inl k), some (.inl res), some (.inl x), none, none] [.inl 1, rf 57] σ0 0 0 := fun hP1 => by
    refine hA 4 _ rfl _ _ _ _ _ ?_
    refine Exists.intro _ (And.intro (by first | assumption | exact st_s | exact st_e (by decide) (by assumption) | exact st_e (by omega) (by assumption) | exact st_e (by decide) st_s | exact st_e (by omega) st_s | exact st_e (by decide) (st_e (by decide) (by assumption)) | exact st_e (by omega) (st_e (by omega) (by assumption))) (And.intro rfl (ab_inv_ev (m_bad1 p57 p0 p58 1 0 (by decide) (by decide) (by decide)) (by first | decide | omega) (by first | exact Nat.le_refl _ | omega) (by first | exact Nat.le_refl _ | omega) ?_)))
    refine And.intro (by first | assumption | exact b2i_R _ | exact rR (by omega) (by omega) | exact rR (by simp only [Int.toNat_natCast]; omega) (by simp only [Int.toNat_natCast]; omega)) (And.intro (fun q => ?_) (fun q => ?_))
    · exact absurd q (by decide)
    · refine hA 5 _ rfl _ _ _ _ _ ?_
      exact md_no (by unfold sp_kth; rw [if_neg hP1] <;> rfl) hf0 hI0 rfl
  have gO1 : ¬ ((0 ≤ k ∧ k < cc) ∧ 0 ≤ res ∧ res ≤ 6) → At 2 [some (rf 57), some (.inl k), some (.inl res), some (.inl x), none, none] [rf 57] σ0 0 0 := fun h => by
    refine hA 2 _ rfl _ _ _ _ _ ?_
    exact gF1 h
  have gZ1 : ((0 ≤ k ∧ k < cc) ∧ 0 ≤ res ∧ res ≤ 6) → At 3 [some (rf 57), some (.inl k), some (.inl res), some (.inl x), none, none] [rf 57] σ0 0 0 := fun h => by
    refine hA 3 _ rfl _ _ _ _ _ ?_
    exact gK1 h
  refine hA 0 _ rfl _ _ _ _ _ ?_
  refine Exists.intro _ (And.intro (q57) ?_)
  rw [m10_s0, ht0, hs0]
  refine Exists.intro _ (And.intro (by first | assumption | exact st_s | exact st_e (by decide) (by assumption) | exact st_e (by omega) (by assumption) | exact st_e (by decide) st_s | exact st_e (by omega) st_s | exact st_e (by decide) (st_e (by decide) (by assumption)) | exact st_e (by omega) (st_e (by omega) (by assumption))) (And.intro rfl (ab_inv_ev (m_isColumn p57 p12 hcc k hk) (by first | decide | omega) (by first | exact Nat.le_refl _ | omega) (by first | exact Nat.le_refl _ | omega) ?_)))
  refine And.intro (by first | assumption | exact b2i_R _ | exact rR (by omega) (by omega) | exact rR (by simp only [Int.toNat_natCast]; omega) (by simp only [Int.toNat_natCast]; omega)) (And.intro (fun q => ?_) (fun q => ?_))
  · exact gO1 (by have q1 := of_decide_eq_false (b2i_0 q); omega)
  · have q00 := of_decide_eq_true (b2i_1 q)
    refine hA 1 _ rfl _ _ _ _ _ ?_
    refine Exists.intro _ (And.intro (by first | assumption | exact st_s | exact st_e (by decide) (by assumption) | exact st_e (by omega) (by assumption) | exact st_e (by decide) st_s | exact st_e (by omega) st_s | exact st_e (by decide) (st_e (by decide) (by assumption)) | exact st_e (by omega) (st_e (by omega) (by assumption))) (And.intro rfl (ab_inv_ev (m_isSet res hres) (by first | decide | omega) (by first | exact Nat.le_refl _ | omega) (by first | exact Nat.le_refl _ | omega) ?_)))
    refine And.intro (by first | assumption | exact b2i_R _ | exact rR (by omega) (by omega) | exact rR (by simp only [Int.toNat_natCast]; omega) (by simp only [Int.toNat_natCast]; omega)) (And.intro (fun q => ?_) (fun q => ?_))
    · have q01 := of_decide_eq_true (b2i_1 q)
      exact gZ1 (by omega)
    · exact gO1 (by have q1 := of_decide_eq_false (b2i_0 q); omega)
set_option maxRecDepth 100000 in
set_option maxHeartbeats 1000000 in
theorem g_mode (hI : MI σ cc rows K va R f n pl c t r th) (k res what : Int) (hk : ab_R k) (hres : ab_R res) (hwhat : ab_R what) : ab_call 10 0 0 yX10_mode [rf 57, .inl k, .inl res, .inl what] σ (mdP σ (cc, rows, K, va, R, f, n, pl, c) r (fun i => (i : Int) + 1) (stq (cc, rows, K, va, R, f, n, pl, c) (sp_mode cc rows va R k res what))) := by
  have q57 := hI.h57
  have hr := hI.hr
  have hcc := hI.hc
  have hgl := gu_le hr
  have hI0 := hI.uth 0
  have hf0 : fr mA σ (ab_st σ 57 (m10 (ab_up t 0 0))) := fr_st (by unfold mA; omega)
  generalize ht0 : ab_up t 0 0 = t0 at hI0 hf0
  generalize hs0 : ab_st σ 57 (m10 t0) = σ0 at hI0 hf0
  have p57 := hI0.h57
  have p58 := hI0.h58
  have p0 := hI0.t0
  have p2 := hI0.t2
  have p12 := hI0.t12
  have p13 := hI0.t13
  refine eX10_mode rfl (fun At hA => ?_)
  have gK1 : ((0 ≤ k ∧ k < cc) ∧ 0 ≤ res ∧ res ≤ 6) → At 4 [some (rf 57), some (.inl k), some (.inl res), some (.inl what), none, none, none] [.inl 0, rf 57] σ0 0 0 := fun hP1 => by
    refine hA 4 _ rfl _ _ _ _ _ ?_
    refine Exists.intro _ (And.intro (by first | assumption | exact st_s | exact st_e (by decide) (by assumption) | exact st_e (by omega) (by assumption) | exact st_e (by decide) st_s | exact st_e (by omega) st_s | exact st_e (by decide) (st_e (by decide) (by assumption)) | exact st_e (by omega) (st_e (by omega) (by assumption))) (And.intro rfl (ab_inv_ev (m_bad0 p57 p0 1 0) (by first | decide | omega) (by first | exact Nat.le_refl _ | omega) (by first | exact Nat.le_refl _ | omega) ?_)))
    refine And.intro (by first | assumption | exact b2i_R _ | exact rR (by omega) (by omega) | exact rR (by simp only [Int.toNat_natCast]; omega) (by simp only [Int.toNat_natCast]; omega)) (And.intro (fun q => ?_) (fun q => ?_))
    · exact absurd rfl q
    · have gK2 : (0 ≤ what ∧ what ≤ 1) → At 8 [some (rf 57), some (.inl k), some (.inl res), some (.inl what), none, none, none] [.inl 0, rf 57] σ0 0 0 := fun hP2 => by
        refine hA 8 _ rfl _ _ _ _ _ ?_
        refine Exists.intro _ (And.intro (by first | assumption | exact st_s | exact st_e (by decide) (by assumption) | exact st_e (by omega) (by assumption) | exact st_e (by decide) st_s | exact st_e (by omega) st_s | exact st_e (by decide) (st_e (by decide) (by assumption)) | exact st_e (by omega) (st_e (by omega) (by assumption))) (And.intro rfl (ab_inv_ev (m_bad0 p57 p0 2 1) (by first | decide | omega) (by first | exact Nat.le_refl _ | omega) (by first | exact Nat.le_refl _ | omega) ?_)))
        refine And.intro (by first | assumption | exact b2i_R _ | exact rR (by omega) (by omega) | exact rR (by simp only [Int.toNat_natCast]; omega) (by simp only [Int.toNat_natCast]; omega)) (And.intro (fun q => ?_) (fun q => ?_))
        · obtain ⟨k', rfl⟩ : ∃ m : Nat, k = (m : Int) := ⟨k.toNat, by omega⟩
          obtain ⟨res', rfl⟩ : ∃ m : Nat, res = (m : Int) := ⟨res.toNat, by omega⟩
          have hB := hI0.bmS res'
          have b57 := hB.h57
          have b13 := hB.t13
          have brd := bS_rd hI0 (k := res') (by omega)
          have bhi := hI0.hR (i := res') (by omega)
          have bf := fr_bS (σ := σ0) (R := R) hf0 (by unfold mA; omega) res'
          have hbm := m_bitmap hI0 res' (by omega)
          have hV := hB.v (k := k') (by omega)
          obtain ⟨o, ho⟩ := hB.sc.of
          have hct := m_counts b57 b13 hr (show k' < 4 by omega) hV (h := bA res') brd (bA_ne _ _ (by omega) (by omega)) bhi.1 ho
          have hJI := hB.st (a := 315) (x := ints 200 (tly (R res') (va k') rows)) (by omega) (by omega) shp_of
          have j57 := hJI.h57
          have j315 : (ab_st (bS σ0 R res') 315 (ints 200 (tly (R res') (va k') rows))).2 315 = some (ints 200 (tly (R res') (va k') rows)) := st_s
          have jf : fr mA σ (ab_st (bS σ0 R res') 315 (ints 200 (tly (R res') (va k') rows))) := bf.st (by unfold mA; omega)
          have htl : ∀ v, (tly (R res') (va k') rows) v ≤ rows := fun v => cnt_le _ rows
          have hmd := md_bd htl
          have fin : ∀ v : Nat, v = 200 → At 16 [some (rf 57), some (.inl (k' : Nat)), some (.inl (res' : Nat)), some (.inl what), some (.inl (mdF (tly (R res') (va k') rows) v).1), some (.inl ((mdF (tly (R res') (va k') rows) v).2 : Nat)), some (.inl v)] [] (ab_st (bS σ0 R res') 315 (ints 200 (tly (R res') (va k') rows))) 0 0 := fun v hv => by
            subst hv
            have k19 : ∀ z : Int, sp_mode cc rows va R (k' : Nat) (res' : Nat) what = .inl z → ∀ L, At 19 L [.inl z] (ab_st (bS σ0 R res') 315 (ints 200 (tly (R res') (va k') rows))) 0 0 := fun z hz L => by
              refine hA 19 _ rfl _ _ _ _ _ ?_
              exact md_as hz rfl jf hJI
            refine hA 16 _ rfl _ _ _ _ _ ?_
            refine And.intro (by first | assumption | exact b2i_R _ | exact rR (by omega) (by omega) | exact rR (by simp only [Int.toNat_natCast]; omega) (by simp only [Int.toNat_natCast]; omega)) (And.intro (fun q => ?_) (fun q => ?_))
            · refine hA 18 _ rfl _ _ _ _ _ ?_
              refine k19 _ ?_ _
              unfold sp_mode
              rw [if_pos hP1, if_pos hP2, if_neg (by omega)] <;> rfl
            · refine hA 17 _ rfl _ _ _ _ _ ?_
              refine k19 _ ?_ _
              unfold sp_mode
              rw [if_pos hP1, if_pos hP2, if_pos (by omega)] <;> rfl
          have loop : ∀ m v : Nat, v + m = 200 → At 11 [some (rf 57), some (.inl (k' : Nat)), some (.inl (res' : Nat)), some (.inl what), some (.inl (mdF (tly (R res') (va k') rows) v).1), some (.inl ((mdF (tly (R res') (va k') rows) v).2 : Nat)), some (.inl v)] [] (ab_st (bS σ0 R res') 315 (ints 200 (tly (R res') (va k') rows))) 0 0 := by
            intro m
            induction m with
            | zero =>
              intro v hv
              have hf := fin v (by omega)
              refine hA 11 _ rfl _ _ _ _ _ ?_
              refine And.intro (And.intro (by first | assumption | exact b2i_R _ | exact rR (by omega) (by omega) | exact rR (by simp only [Int.toNat_natCast]; omega) (by simp only [Int.toNat_natCast]; omega)) (by first | assumption | exact b2i_R _ | exact rR (by omega) (by omega) | exact rR (by simp only [Int.toNat_natCast]; omega) (by simp only [Int.toNat_natCast]; omega))) (And.intro (fun q => ?_) (fun q => ?_))
              · exact hf
              · omega
            | succ m ih =>
              intro v hv
              have htv := htl v
              have hb := hmd v
              have e2 : mdF (tly (R res') (va k') rows) (v + 1) = if (mdF (tly (R res') (va k') rows) v).2 < (tly (R res') (va k') rows) v then (((v : Nat) : Int), (tly (R res') (va k') rows) v) else mdF (tly (R res') (va k') rows) v := rfl
              have ihv := ih (v + 1) (by omega)
              refine hA 11 _ rfl _ _ _ _ _ ?_
              refine And.intro (And.intro (by first | assumption | exact b2i_R _ | exact rR (by omega) (by omega) | exact rR (by simp only [Int.toNat_natCast]; omega) (by simp only [Int.toNat_natCast]; omega)) (by first | assumption | exact b2i_R _ | exact rR (by omega) (by omega) | exact rR (by simp only [Int.toNat_natCast]; omega) (by simp only [Int.toNat_natCast]; omega))) (And.intro (fun q => ?_) (fun q => ?_))
              · omega
              · refine hA 12 _ rfl _ _ _ _ _ ?_
                refine Exists.intro _ (And.intro (j57) ?_)
                refine Exists.intro _ (Exists.intro _ (And.intro (j315) (And.intro (by omega) ?_)))
                refine And.intro (And.intro (show ab_R (((tly (R res') (va k') rows) v : Nat) : Int) from rR (by omega) (by omega)) (rR (by omega) (by omega))) (And.intro (fun q => ?_) (fun q => ?_))
                · have q : (((mdF (tly (R res') (va k') rows) v).2 : Nat) : Int) < (((tly (R res') (va k') rows) v : Nat) : Int) := q
                  rw [e2, if_pos (by omega)] at ihv
                  refine hA 14 _ rfl _ _ _ _ _ ?_
                  refine Exists.intro _ (And.intro (j57) ?_)
                  refine Exists.intro _ (Exists.intro _ (And.intro (j315) (And.intro (by omega) ?_)))
                  refine hA 15 _ rfl _ _ _ _ _ ?_
                  exact ihv
                · have q : (((tly (R res') (va k') rows) v : Nat) : Int) ≤ (((mdF (tly (R res') (va k') rows) v).2 : Nat) : Int) := q
                  rw [e2, if_neg (by omega)] at ihv
                  refine hA 13 _ rfl _ _ _ _ _ ?_
                  refine hA 15 _ rfl _ _ _ _ _ ?_
                  exact ihv
          refine hA 10 _ rfl _ _ _ _ _ ?_
          refine Exists.intro _ (And.intro (by first | assumption | exact st_s | exact st_e (by decide) (by assumption) | exact st_e (by omega) (by assumption) | exact st_e (by decide) st_s | exact st_e (by omega) st_s | exact st_e (by decide) (st_e (by decide) (by assumption)) | exact st_e (by omega) (st_e (by omega) (by assumption))) (And.intro rfl (ab_inv_ev hbm (by first | decide | omega) (by first | exact Nat.le_refl _ | omega) (by first | exact Nat.le_refl _ | omega) ?_)))
          refine Exists.intro _ (And.intro (by first | assumption | exact st_s | exact st_e (by decide) (by assumption) | exact st_e (by omega) (by assumption) | exact st_e (by decide) st_s | exact st_e (by omega) st_s | exact st_e (by decide) (st_e (by decide) (by assumption)) | exact st_e (by omega) (st_e (by omega) (by assumption))) (And.intro rfl (ab_inv_ev hct (by first | decide | omega) (by first | exact Nat.le_refl _ | omega) (by first | exact Nat.le_refl _ | omega) ?_)))
          exact loop 200 0 (by omega)
        · exact absurd rfl q
      have gF2 : ¬ (0 ≤ what ∧ what ≤ 1) → At 8 [some (rf 57), some (.inl k), some (.inl res), some (.inl what), none, none, none] [.inl 1, rf 57] σ0 0 0 := fun hP2 => by
        refine hA 8 _ rfl _ _ _ _ _ ?_
        refine Exists.intro _ (And.intro (by first | assumption | exact st_s | exact st_e (by decide) (by assumption) | exact st_e (by omega) (by assumption) | exact st_e (by decide) st_s | exact st_e (by omega) st_s | exact st_e (by decide) (st_e (by decide) (by assumption)) | exact st_e (by omega) (st_e (by omega) (by assumption))) (And.intro rfl (ab_inv_ev (m_bad1 p57 p0 p58 2 1 (by decide) (by decide) (by decide)) (by first | decide | omega) (by first | exact Nat.le_refl _ | omega) (by first | exact Nat.le_refl _ | omega) ?_)))
        refine And.intro (by first | assumption | exact b2i_R _ | exact rR (by omega) (by omega) | exact rR (by simp only [Int.toNat_natCast]; omega) (by simp only [Int.toNat_natCast]; omega)) (And.intro (fun q => ?_) (fun q => ?_))
        · exact absurd q (by decide)
        · refine hA 9 _ rfl _ _ _ _ _ ?_
          exact md_no (by unfold sp_mode; rw [if_pos hP1, if_neg hP2] <;> rfl) hf0 hI0 rfl
      have gO2 : ¬ (0 ≤ what ∧ what ≤ 1) → At 6 [some (rf 57), some (.inl k), some (.inl res), some (.inl what), none, none, none] [rf 57] σ0 0 0 := fun h => by
        refine hA 6 _ rfl _ _ _ _ _ ?_
        exact gF2 h
      have gZ2 : (0 ≤ what ∧ what ≤ 1) → At 7 [some (rf 57), some (.inl k), some (.inl res), some (.inl what), none, none, none] [rf 57] σ0 0 0 := fun h => by
        refine hA 7 _ rfl _ _ _ _ _ ?_
        exact gK2 h
      refine hA 5 _ rfl _ _ _ _ _ ?_
      refine And.intro rfl (ab_inv_ev (m_in what 0 1 hwhat (rR (by omega) (by omega)) (rR (by omega) (by omega))) (by first | decide | omega) (by first | exact Nat.le_refl _ | omega) (by first | exact Nat.le_refl _ | omega) ?_)
      refine And.intro (by first | assumption | exact b2i_R _ | exact rR (by omega) (by omega) | exact rR (by simp only [Int.toNat_natCast]; omega) (by simp only [Int.toNat_natCast]; omega)) (And.intro (fun q => ?_) (fun q => ?_))
      · have q10 := of_decide_eq_true (b2i_1 q)
        exact gZ2 (by omega)
      · exact gO2 (by have q1 := of_decide_eq_false (b2i_0 q); omega)
  have gF1 : ¬ ((0 ≤ k ∧ k < cc) ∧ 0 ≤ res ∧ res ≤ 6) → At 4 [some (rf 57), some (.inl k), some (.inl res), some (.inl what), none, none, none] [.inl 1, rf 57] σ0 0 0 := fun hP1 => by
    refine hA 4 _ rfl _ _ _ _ _ ?_
    refine Exists.intro _ (And.intro (by first | assumption | exact st_s | exact st_e (by decide) (by assumption) | exact st_e (by omega) (by assumption) | exact st_e (by decide) st_s | exact st_e (by omega) st_s | exact st_e (by decide) (st_e (by decide) (by assumption)) | exact st_e (by omega) (st_e (by omega) (by assumption))) (And.intro rfl (ab_inv_ev (m_bad1 p57 p0 p58 1 0 (by decide) (by decide) (by decide)) (by first | decide | omega) (by first | exact Nat.le_refl _ | omega) (by first | exact Nat.le_refl _ | omega) ?_)))
    refine And.intro (by first | assumption | exact b2i_R _ | exact rR (by omega) (by omega) | exact rR (by simp only [Int.toNat_natCast]; omega) (by simp only [Int.toNat_natCast]; omega)) (And.intro (fun q => ?_) (fun q => ?_))
    · refine hA 9 _ rfl _ _ _ _ _ ?_
      exact md_no (by unfold sp_mode; rw [if_neg hP1] <;> rfl) hf0 hI0 rfl
    · exact absurd q (by decide)
  have gO1 : ¬ ((0 ≤ k ∧ k < cc) ∧ 0 ≤ res ∧ res ≤ 6) → At 2 [some (rf 57), some (.inl k), some (.inl res), some (.inl what), none, none, none] [rf 57] σ0 0 0 := fun h => by
    refine hA 2 _ rfl _ _ _ _ _ ?_
    exact gF1 h
  have gZ1 : ((0 ≤ k ∧ k < cc) ∧ 0 ≤ res ∧ res ≤ 6) → At 3 [some (rf 57), some (.inl k), some (.inl res), some (.inl what), none, none, none] [rf 57] σ0 0 0 := fun h => by
    refine hA 3 _ rfl _ _ _ _ _ ?_
    exact gK1 h
  refine hA 0 _ rfl _ _ _ _ _ ?_
  refine Exists.intro _ (And.intro (q57) ?_)
  rw [m10_s0, ht0, hs0]
  refine Exists.intro _ (And.intro (by first | assumption | exact st_s | exact st_e (by decide) (by assumption) | exact st_e (by omega) (by assumption) | exact st_e (by decide) st_s | exact st_e (by omega) st_s | exact st_e (by decide) (st_e (by decide) (by assumption)) | exact st_e (by omega) (st_e (by omega) (by assumption))) (And.intro rfl (ab_inv_ev (m_isColumn p57 p12 hcc k hk) (by first | decide | omega) (by first | exact Nat.le_refl _ | omega) (by first | exact Nat.le_refl _ | omega) ?_)))
  refine And.intro (by first | assumption | exact b2i_R _ | exact rR (by omega) (by omega) | exact rR (by simp only [Int.toNat_natCast]; omega) (by simp only [Int.toNat_natCast]; omega)) (And.intro (fun q => ?_) (fun q => ?_))
  · exact gO1 (by have q1 := of_decide_eq_false (b2i_0 q); omega)
  · have q00 := of_decide_eq_true (b2i_1 q)
    refine hA 1 _ rfl _ _ _ _ _ ?_
    refine Exists.intro _ (And.intro (by first | assumption | exact st_s | exact st_e (by decide) (by assumption) | exact st_e (by omega) (by assumption) | exact st_e (by decide) st_s | exact st_e (by omega) st_s | exact st_e (by decide) (st_e (by decide) (by assumption)) | exact st_e (by omega) (st_e (by omega) (by assumption))) (And.intro rfl (ab_inv_ev (m_isSet res hres) (by first | decide | omega) (by first | exact Nat.le_refl _ | omega) (by first | exact Nat.le_refl _ | omega) ?_)))
    refine And.intro (by first | assumption | exact b2i_R _ | exact rR (by omega) (by omega) | exact rR (by simp only [Int.toNat_natCast]; omega) (by simp only [Int.toNat_natCast]; omega)) (And.intro (fun q => ?_) (fun q => ?_))
    · have q01 := of_decide_eq_true (b2i_1 q)
      exact gZ1 (by omega)
    · exact gO1 (by have q1 := of_decide_eq_false (b2i_0 q); omega)
set_option maxRecDepth 100000 in
set_option maxHeartbeats 1000000 in
theorem g_unlike (hI : MI σ cc rows K va R f n pl c t r th) (k res : Int) (hk : ab_R k) (hres : ab_R res) : ab_call 10 0 0 yX10_unlike [rf 57, .inl k, .inl res] σ (mdP σ (cc, rows, K, va, R, f, n, pl, c) r (fun i => (i : Int) + 1) (stq (cc, rows, K, va, R, f, n, pl, c) (sp_unlike cc rows va R k res))) := by
  have q57 := hI.h57
  have hr := hI.hr
  have hcc := hI.hc
  have hgl := gu_le hr
  have hI0 := hI.uth 0
  have hf0 : fr mA σ (ab_st σ 57 (m10 (ab_up t 0 0))) := fr_st (by unfold mA; omega)
  generalize ht0 : ab_up t 0 0 = t0 at hI0 hf0
  generalize hs0 : ab_st σ 57 (m10 t0) = σ0 at hI0 hf0
  have p57 := hI0.h57
  have p58 := hI0.h58
  have p0 := hI0.t0
  have p2 := hI0.t2
  have p12 := hI0.t12
  have p13 := hI0.t13
  refine eX10_unlike rfl (fun At hA => ?_)
  have gK1 : ((0 ≤ k ∧ k < cc) ∧ 0 ≤ res ∧ res ≤ 6) → At 4 [some (rf 57), some (.inl k), some (.inl res), none, none] [.inl 0, rf 57] σ0 0 0 := fun hP1 => by
    refine hA 4 _ rfl _ _ _ _ _ ?_
    refine Exists.intro _ (And.intro (by first | assumption | exact st_s | exact st_e (by decide) (by assumption) | exact st_e (by omega) (by assumption) | exact st_e (by decide) st_s | exact st_e (by omega) st_s | exact st_e (by decide) (st_e (by decide) (by assumption)) | exact st_e (by omega) (st_e (by omega) (by assumption))) (And.intro rfl (ab_inv_ev (m_bad0 p57 p0 1 0) (by first | decide | omega) (by first | exact Nat.le_refl _ | omega) (by first | exact Nat.le_refl _ | omega) ?_)))
    refine And.intro (by first | assumption | exact b2i_R _ | exact rR (by omega) (by omega) | exact rR (by simp only [Int.toNat_natCast]; omega) (by simp only [Int.toNat_natCast]; omega)) (And.intro (fun q => ?_) (fun q => ?_))
    · obtain ⟨k', rfl⟩ : ∃ m : Nat, k = (m : Int) := ⟨k.toNat, by omega⟩
      obtain ⟨res', rfl⟩ : ∃ m : Nat, res = (m : Int) := ⟨res.toNat, by omega⟩
      have hB := hI0.bmS res'
      have b57 := hB.h57
      have b13 := hB.t13
      have brd := bS_rd hI0 (k := res') (by omega)
      have bhi := hI0.hR (i := res') (by omega)
      have bf := fr_bS (σ := σ0) (R := R) hf0 (by unfold mA; omega) res'
      have hbm := m_bitmap hI0 res' (by omega)
      have hV := hB.v (k := k') (by omega)
      obtain ⟨o, ho⟩ := hB.sc.of
      have hct := m_counts b57 b13 hr (show k' < 4 by omega) hV (h := bA res') brd (bA_ne _ _ (by omega) (by omega)) bhi.1 ho
      have hJI := hB.st (a := 315) (x := ints 200 (tly (R res') (va k') rows)) (by omega) (by omega) shp_of
      have j57 := hJI.h57
      have j315 : (ab_st (bS σ0 R res') 315 (ints 200 (tly (R res') (va k') rows))).2 315 = some (ints 200 (tly (R res') (va k') rows)) := st_s
      have jf : fr mA σ (ab_st (bS σ0 R res') 315 (ints 200 (tly (R res') (va k') rows))) := bf.st (by unfold mA; omega)
      have htl : ∀ v, (tly (R res') (va k') rows) v ≤ rows := fun v => cnt_le _ rows
      have hcl := cnt_le (fun v => decide (0 < (tly (R res') (va k') rows) v))
      have loop : ∀ m v : Nat, v + m = 200 → At 7 [some (rf 57), some (.inl (k' : Nat)), some (.inl (res' : Nat)), some (.inl (cnt (fun v => decide (0 < (tly (R res') (va k') rows) v)) v : Nat)), some (.inl v)] [] (ab_st (bS σ0 R res') 315 (ints 200 (tly (R res') (va k') rows))) 0 0 := by
        intro m
        induction m with
        | zero =>
          intro v hv
          have hv : v = 200 := by omega
          refine hA 7 _ rfl _ _ _ _ _ ?_
          refine And.intro (And.intro (by first | assumption | exact b2i_R _ | exact rR (by omega) (by omega) | exact rR (by simp only [Int.toNat_natCast]; omega) (by simp only [Int.toNat_natCast]; omega)) (by first | assumption | exact b2i_R _ | exact rR (by omega) (by omega) | exact rR (by simp only [Int.toNat_natCast]; omega) (by simp only [Int.toNat_natCast]; omega))) (And.intro (fun q => ?_) (fun q => ?_))
          · refine hA 12 _ rfl _ _ _ _ _ ?_
            exact md_as (by unfold sp_unlike; rw [if_pos hP1] <;> rfl) (by rw [hv]; rfl) jf hJI
          · omega
        | succ m ih =>
          intro v hv
          have htv := htl v
          have hb := hcl v
          have ihv := ih (v + 1) (by omega)
          have k11 : ∀ z : Int, z = ((decide (0 < (tly (R res') (va k') rows) v)).toNat : Nat) → At 11 [some (rf 57), some (.inl (k' : Nat)), some (.inl (res' : Nat)), some (.inl (cnt (fun v => decide (0 < (tly (R res') (va k') rows) v)) v : Nat)), some (.inl v)] [.inl z, .inl (cnt (fun v => decide (0 < (tly (R res') (va k') rows) v)) v : Nat)] (ab_st (bS σ0 R res') 315 (ints 200 (tly (R res') (va k') rows))) 0 0 := fun z hz => by
            subst hz
            rw [show cnt (fun v => decide (0 < (tly (R res') (va k') rows) v)) (v + 1) = cnt (fun v => decide (0 < (tly (R res') (va k') rows) v)) v + (decide (0 < (tly (R res') (va k') rows) v)).toNat from rfl, Int.natCast_add] at ihv
            refine hA 11 _ rfl _ _ _ _ _ ?_
            exact ihv
          refine hA 7 _ rfl _ _ _ _ _ ?_
          refine And.intro (And.intro (by first | assumption | exact b2i_R _ | exact rR (by omega) (by omega) | exact rR (by simp only [Int.toNat_natCast]; omega) (by simp only [Int.toNat_natCast]; omega)) (by first | assumption | exact b2i_R _ | exact rR (by omega) (by omega) | exact rR (by simp only [Int.toNat_natCast]; omega) (by simp only [Int.toNat_natCast]; omega))) (And.intro (fun q => ?_) (fun q => ?_))
          · omega
          · refine hA 8 _ rfl _ _ _ _ _ ?_
            refine Exists.intro _ (And.intro (j57) ?_)
            refine Exists.intro _ (Exists.intro _ (And.intro (j315) (And.intro (by omega) ?_)))
            refine And.intro (show ab_R (((tly (R res') (va k') rows) v : Nat) : Int) from rR (by omega) (by omega)) (And.intro (fun q => ?_) (fun q => ?_))
            · have q : (((tly (R res') (va k') rows) v : Nat) : Int) ≤ 0 := q
              refine hA 10 _ rfl _ _ _ _ _ ?_
              exact k11 0 (by rw [decide_eq_false (by omega)]; rfl)
            · have q : 0 < (((tly (R res') (va k') rows) v : Nat) : Int) := q
              refine hA 9 _ rfl _ _ _ _ _ ?_
              exact k11 1 (by rw [decide_eq_true (by omega)]; rfl)
      refine hA 6 _ rfl _ _ _ _ _ ?_
      refine Exists.intro _ (And.intro (by first | assumption | exact st_s | exact st_e (by decide) (by assumption) | exact st_e (by omega) (by assumption) | exact st_e (by decide) st_s | exact st_e (by omega) st_s | exact st_e (by decide) (st_e (by decide) (by assumption)) | exact st_e (by omega) (st_e (by omega) (by assumption))) (And.intro rfl (ab_inv_ev hbm (by first | decide | omega) (by first | exact Nat.le_refl _ | omega) (by first | exact Nat.le_refl _ | omega) ?_)))
      refine Exists.intro _ (And.intro (by first | assumption | exact st_s | exact st_e (by decide) (by assumption) | exact st_e (by omega) (by assumption) | exact st_e (by decide) st_s | exact st_e (by omega) st_s | exact st_e (by decide) (st_e (by decide) (by assumption)) | exact st_e (by omega) (st_e (by omega) (by assumption))) (And.intro rfl (ab_inv_ev hct (by first | decide | omega) (by first | exact Nat.le_refl _ | omega) (by first | exact Nat.le_refl _ | omega) ?_)))
      exact loop 200 0 (by omega)
    · exact absurd rfl q
  have gF1 : ¬ ((0 ≤ k ∧ k < cc) ∧ 0 ≤ res ∧ res ≤ 6) → At 4 [some (rf 57), some (.inl k), some (.inl res), none, none] [.inl 1, rf 57] σ0 0 0 := fun hP1 => by
    refine hA 4 _ rfl _ _ _ _ _ ?_
    refine Exists.intro _ (And.intro (by first | assumption | exact st_s | exact st_e (by decide) (by assumption) | exact st_e (by omega) (by assumption) | exact st_e (by decide) st_s | exact st_e (by omega) st_s | exact st_e (by decide) (st_e (by decide) (by assumption)) | exact st_e (by omega) (st_e (by omega) (by assumption))) (And.intro rfl (ab_inv_ev (m_bad1 p57 p0 p58 1 0 (by decide) (by decide) (by decide)) (by first | decide | omega) (by first | exact Nat.le_refl _ | omega) (by first | exact Nat.le_refl _ | omega) ?_)))
    refine And.intro (by first | assumption | exact b2i_R _ | exact rR (by omega) (by omega) | exact rR (by simp only [Int.toNat_natCast]; omega) (by simp only [Int.toNat_natCast]; omega)) (And.intro (fun q => ?_) (fun q => ?_))
    · exact absurd q (by decide)
    · refine hA 5 _ rfl _ _ _ _ _ ?_
      exact md_no (by unfold sp_unlike; rw [if_neg hP1] <;> rfl) hf0 hI0 rfl
  have gO1 : ¬ ((0 ≤ k ∧ k < cc) ∧ 0 ≤ res ∧ res ≤ 6) → At 2 [some (rf 57), some (.inl k), some (.inl res), none, none] [rf 57] σ0 0 0 := fun h => by
    refine hA 2 _ rfl _ _ _ _ _ ?_
    exact gF1 h
  have gZ1 : ((0 ≤ k ∧ k < cc) ∧ 0 ≤ res ∧ res ≤ 6) → At 3 [some (rf 57), some (.inl k), some (.inl res), none, none] [rf 57] σ0 0 0 := fun h => by
    refine hA 3 _ rfl _ _ _ _ _ ?_
    exact gK1 h
  refine hA 0 _ rfl _ _ _ _ _ ?_
  refine Exists.intro _ (And.intro (q57) ?_)
  rw [m10_s0, ht0, hs0]
  refine Exists.intro _ (And.intro (by first | assumption | exact st_s | exact st_e (by decide) (by assumption) | exact st_e (by omega) (by assumption) | exact st_e (by decide) st_s | exact st_e (by omega) st_s | exact st_e (by decide) (st_e (by decide) (by assumption)) | exact st_e (by omega) (st_e (by omega) (by assumption))) (And.intro rfl (ab_inv_ev (m_isColumn p57 p12 hcc k hk) (by first | decide | omega) (by first | exact Nat.le_refl _ | omega) (by first | exact Nat.le_refl _ | omega) ?_)))
  refine And.intro (by first | assumption | exact b2i_R _ | exact rR (by omega) (by omega) | exact rR (by simp only [Int.toNat_natCast]; omega) (by simp only [Int.toNat_natCast]; omega)) (And.intro (fun q => ?_) (fun q => ?_))
  · exact gO1 (by have q1 := of_decide_eq_false (b2i_0 q); omega)
  · have q00 := of_decide_eq_true (b2i_1 q)
    refine hA 1 _ rfl _ _ _ _ _ ?_
    refine Exists.intro _ (And.intro (by first | assumption | exact st_s | exact st_e (by decide) (by assumption) | exact st_e (by omega) (by assumption) | exact st_e (by decide) st_s | exact st_e (by omega) st_s | exact st_e (by decide) (st_e (by decide) (by assumption)) | exact st_e (by omega) (st_e (by omega) (by assumption))) (And.intro rfl (ab_inv_ev (m_isSet res hres) (by first | decide | omega) (by first | exact Nat.le_refl _ | omega) (by first | exact Nat.le_refl _ | omega) ?_)))
    refine And.intro (by first | assumption | exact b2i_R _ | exact rR (by omega) (by omega) | exact rR (by simp only [Int.toNat_natCast]; omega) (by simp only [Int.toNat_natCast]; omega)) (And.intro (fun q => ?_) (fun q => ?_))
    · have q01 := of_decide_eq_true (b2i_1 q)
      exact gZ1 (by omega)
    · exact gO1 (by have q1 := of_decide_eq_false (b2i_0 q); omega)
set_option maxRecDepth 100000 in
set_option maxHeartbeats 1000000 in
theorem g_heaviest (hI : MI σ cc rows K va R f n pl c t r th) (k what : Int) (hk : ab_R k) (hwhat : ab_R what) : ab_call 10 0 0 yX10_heaviest [rf 57, .inl k, .inl what] σ (mdP σ (cc, rows, K, va, R, f, n, pl, c) r (fun i => (i : Int) + 1) (stq (cc, rows, K, va, R, f, n, pl, c) (sp_heaviest cc rows K va k what))) := by
  have q57 := hI.h57
  have hr := hI.hr
  have hcc := hI.hc
  have hgl := gu_le hr
  have hI0 := hI.uth 0
  have hf0 : fr mA σ (ab_st σ 57 (m10 (ab_up t 0 0))) := fr_st (by unfold mA; omega)
  generalize ht0 : ab_up t 0 0 = t0 at hI0 hf0
  generalize hs0 : ab_st σ 57 (m10 t0) = σ0 at hI0 hf0
  have p57 := hI0.h57
  have p58 := hI0.h58
  have p0 := hI0.t0
  have p2 := hI0.t2
  have p12 := hI0.t12
  have p13 := hI0.t13
  refine eX10_heaviest rfl (fun At hA => ?_)
  have gK1 : (0 ≤ k ∧ k < cc) → At 3 [some (rf 57), some (.inl k), some (.inl what), none, none, none, none, none] [.inl 0, rf 57] σ0 0 0 := fun hP1 => by
    refine hA 3 _ rfl _ _ _ _ _ ?_
    refine Exists.intro _ (And.intro (by first | assumption | exact st_s | exact st_e (by decide) (by assumption) | exact st_e (by omega) (by assumption) | exact st_e (by decide) st_s | exact st_e (by omega) st_s | exact st_e (by decide) (st_e (by decide) (by assumption)) | exact st_e (by omega) (st_e (by omega) (by assumption))) (And.intro rfl (ab_inv_ev (m_bad0 p57 p0 1 0) (by first | decide | omega) (by first | exact Nat.le_refl _ | omega) (by first | exact Nat.le_refl _ | omega) ?_)))
    refine And.intro (by first | assumption | exact b2i_R _ | exact rR (by omega) (by omega) | exact rR (by simp only [Int.toNat_natCast]; omega) (by simp only [Int.toNat_natCast]; omega)) (And.intro (fun q => ?_) (fun q => ?_))
    · exact absurd rfl q
    · have gK2 : (0 ≤ what ∧ what ≤ 1) → At 7 [some (rf 57), some (.inl k), some (.inl what), none, none, none, none, none] [.inl 0, rf 57] σ0 0 0 := fun hP2 => by
        refine hA 7 _ rfl _ _ _ _ _ ?_
        refine Exists.intro _ (And.intro (by first | assumption | exact st_s | exact st_e (by decide) (by assumption) | exact st_e (by omega) (by assumption) | exact st_e (by decide) st_s | exact st_e (by omega) st_s | exact st_e (by decide) (st_e (by decide) (by assumption)) | exact st_e (by omega) (st_e (by omega) (by assumption))) (And.intro rfl (ab_inv_ev (m_bad0 p57 p0 2 1) (by first | decide | omega) (by first | exact Nat.le_refl _ | omega) (by first | exact Nat.le_refl _ | omega) ?_)))
        refine And.intro (by first | assumption | exact b2i_R _ | exact rR (by omega) (by omega) | exact rR (by simp only [Int.toNat_natCast]; omega) (by simp only [Int.toNat_natCast]; omega)) (And.intro (fun q => ?_) (fun q => ?_))
        · obtain ⟨k', rfl⟩ : ∃ m : Nat, k = (m : Int) := ⟨k.toNat, by omega⟩
          have hK := hI0.k (k := k') (by omega)
          have hV := hI0.v (k := k') (by omega)
          have hk4 : k' < 4 := hK.1
          obtain ⟨o1, o2, o3, -⟩ := hK.2.1
          obtain ⟨o, ho⟩ := hI0.sc.bm (a := 313) (by omega) (by omega)
          have hwp := wordsP_le (ρ := (K k').1) (G := cbm (K k').1 (K k').2.2.2 (va k') rows) (u := gu rows) hgl o3
          have hhv := hvF_bd hwp
          have fin : ∀ (p : Nat) (g : Nat → Nat) (y6 y7 : Option ab_V), p = (K k').2.2.1 → At 18 [some (rf 57), some (.inl (k' : Nat)), some (.inl what), some (.inl (hvF (wordsP (K k').1 (K k').2.2.2 (cbm (K k').1 (K k').2.2.2 (va k') rows) (gu rows)) p).1), some (.inl (hvF (wordsP (K k').1 (K k').2.2.2 (cbm (K k').1 (K k').2.2.2 (va k') rows) (gu rows)) p).2), some (.inl ((p + 1 : Nat) : Int)), y6, y7] [] (ab_st σ0 313 (bmc g)) 0 0 := fun p g y6 y7 hp => by
            subst hp
            have hJ : MI (ab_st σ0 313 (bmc g)) cc rows K va R f n pl c t0 r 0 := hI0.st (by omega) (by omega) (shp_bm (by omega) (by omega))
            have k21 : ∀ z : Int, sp_heaviest cc rows K va (k' : Nat) what = .inl z → ∀ L, At 21 L [.inl z] (ab_st σ0 313 (bmc g)) 0 0 := fun z hz L => by
              refine hA 21 _ rfl _ _ _ _ _ ?_
              exact md_as hz rfl (hf0.st (by unfold mA; omega)) hJ
            refine hA 18 _ rfl _ _ _ _ _ ?_
            refine And.intro (by first | assumption | exact b2i_R _ | exact rR (by omega) (by omega) | exact rR (by simp only [Int.toNat_natCast]; omega) (by simp only [Int.toNat_natCast]; omega)) (And.intro (fun q => ?_) (fun q => ?_))
            · refine hA 20 _ rfl _ _ _ _ _ ?_
              refine k21 _ ?_ _
              unfold sp_heaviest
              rw [if_pos hP1, if_pos hP2, if_neg (by omega)] <;> rfl
            · refine hA 19 _ rfl _ _ _ _ _ ?_
              refine k21 _ ?_ _
              unfold sp_heaviest
              rw [if_pos hP1, if_pos hP2, if_pos (by omega)] <;> rfl
          have loop : ∀ (m i : Nat) (g : Nat → Nat) (y6 y7 : Option ab_V), i + m = (K k').2.2.1 → At 10 [some (rf 57), some (.inl (k' : Nat)), some (.inl what), some (.inl (hvF (wordsP (K k').1 (K k').2.2.2 (cbm (K k').1 (K k').2.2.2 (va k') rows) (gu rows)) i).1), some (.inl (hvF (wordsP (K k').1 (K k').2.2.2 (cbm (K k').1 (K k').2.2.2 (va k') rows) (gu rows)) i).2), some (.inl ((i + 1 : Nat) : Int)), y6, y7] [] (ab_st σ0 313 (bmc g)) 0 0 := by
            intro m
            induction m with
            | zero =>
              intro i g y6 y7 hi
              have hf := fin i g y6 y7 (by omega)
              have q57 : (ab_st σ0 313 (bmc g)).2 57 = some (m10 t0) := st_e (by omega) p57
              have qK : MK (ab_st σ0 313 (bmc g)) k' (K k') := hK.st (by omega)
              obtain ⟨a1, a2, a3, gg, a4, a5, a6, a7, a8⟩ := qK
              refine hA 10 _ rfl _ _ _ _ _ ?_
              refine Exists.intro _ (And.intro (q57) ?_)
              refine Exists.intro _ (Exists.intro _ (And.intro (a3) (And.intro (by omega) ?_)))
              refine Exists.intro _ (Exists.intro _ (And.intro (a4) (And.intro (by omega) ?_)))
              refine And.intro (And.intro (rR (by omega) (by omega)) (show ab_R (gg 1) from rR (by omega) (by omega))) (And.intro (fun q => ?_) (fun q => ?_))
              · exact hf
              · have q : ((i + 1 : Nat) : Int) ≤ gg 1 := q
                omega
            | succ m ih =>
              intro i g y6 y7 hi
              have hn := nbm_le (rg := (K k').1) o3 i
              have hn2 := o3 i
              have hb1 := hhv i
              have hb2 := hwp i
              have e2 : hvF (wordsP (K k').1 (K k').2.2.2 (cbm (K k').1 (K k').2.2.2 (va k') rows) (gu rows)) (i + 1) = if (hvF (wordsP (K k').1 (K k').2.2.2 (cbm (K k').1 (K k').2.2.2 (va k') rows) (gu rows)) i).2 < (wordsP (K k').1 (K k').2.2.2 (cbm (K k').1 (K k').2.2.2 (va k') rows) (gu rows)) i then (((i + 1 : Nat) : Int), (((wordsP (K k').1 (K k').2.2.2 (cbm (K k').1 (K k').2.2.2 (va k') rows) (gu rows)) i : Nat) : Int)) else hvF (wordsP (K k').1 (K k').2.2.2 (cbm (K k').1 (K k').2.2.2 (va k') rows) (gu rows)) i := rfl
              have inner : ∀ (m2 j : Nat) (g : Nat → Nat), j + m2 = nbm (K k').1 (K k').2.2.2 i → At 12 [some (rf 57), some (.inl (k' : Nat)), some (.inl what), some (.inl (hvF (wordsP (K k').1 (K k').2.2.2 (cbm (K k').1 (K k').2.2.2 (va k') rows) (gu rows)) i).1), some (.inl (hvF (wordsP (K k').1 (K k').2.2.2 (cbm (K k').1 (K k').2.2.2 (va k') rows) (gu rows)) i).2), some (.inl ((i + 1 : Nat) : Int)), some (.inl (sm (fun j => cnt (sw (cbm (K k').1 (K k').2.2.2 (va k') rows (fsp (K k').1 (K k').2.2.2 i + j))) (gu rows)) j : Nat)), some (.inl j)] [] (ab_st σ0 313 (bmc g)) 0 0 := by
                intro m2
                induction m2 with
                | zero =>
                  intro j g hj
                  have q57 : (ab_st σ0 313 (bmc g)).2 57 = some (m10 t0) := st_e (by omega) p57
                  have qK : MK (ab_st σ0 313 (bmc g)) k' (K k') := hK.st (by omega)
                  have hj : j = nbm (K k').1 (K k').2.2.2 i := by omega
                  have es : sm (fun j => cnt (sw (cbm (K k').1 (K k').2.2.2 (va k') rows (fsp (K k').1 (K k').2.2.2 i + j))) (gu rows)) j = (wordsP (K k').1 (K k').2.2.2 (cbm (K k').1 (K k').2.2.2 (va k') rows) (gu rows)) i := by rw [hj]; rfl
                  rw [es]
                  have ihi := fun y6 y7 => ih (i + 1) g y6 y7 (by omega)
                  rw [e2] at ihi
                  refine hA 12 _ rfl _ _ _ _ _ ?_
                  refine Exists.intro _ (And.intro (by first | assumption | exact st_s | exact st_e (by decide) (by assumption) | exact st_e (by omega) (by assumption) | exact st_e (by decide) st_s | exact st_e (by omega) st_s | exact st_e (by decide) (st_e (by decide) (by assumption)) | exact st_e (by omega) (st_e (by omega) (by assumption))) (And.intro rfl (ab_inv_ev (m_bitmapsOf q57 qK i (by omega)) (by first | decide | omega) (by first | exact Nat.le_refl _ | omega) (by first | exact Nat.le_refl _ | omega) ?_)))
                  refine And.intro (And.intro (by first | assumption | exact b2i_R _ | exact rR (by omega) (by omega) | exact rR (by simp only [Int.toNat_natCast]; omega) (by simp only [Int.toNat_natCast]; omega)) (by first | assumption | exact b2i_R _ | exact rR (by omega) (by omega) | exact rR (by simp only [Int.toNat_natCast]; omega) (by simp only [Int.toNat_natCast]; omega))) (And.intro (fun q => ?_) (fun q => ?_))
                  · refine hA 14 _ rfl _ _ _ _ _ ?_
                    refine And.intro (And.intro (by first | assumption | exact b2i_R _ | exact rR (by omega) (by omega) | exact rR (by simp only [Int.toNat_natCast]; omega) (by simp only [Int.toNat_natCast]; omega)) (by first | assumption | exact b2i_R _ | exact rR (by omega) (by omega) | exact rR (by simp only [Int.toNat_natCast]; omega) (by simp only [Int.toNat_natCast]; omega))) (And.intro (fun q => ?_) (fun q => ?_))
                    · rw [if_pos (by omega)] at ihi
                      refine hA 16 _ rfl _ _ _ _ _ ?_
                      refine hA 17 _ rfl _ _ _ _ _ ?_
                      exact ihi _ _
                    · rw [if_neg (by omega)] at ihi
                      refine hA 15 _ rfl _ _ _ _ _ ?_
                      refine hA 17 _ rfl _ _ _ _ _ ?_
                      exact ihi _ _
                  · omega
                | succ m2 ih2 =>
                  intro j g hj
                  have q57 : (ab_st σ0 313 (bmc g)).2 57 = some (m10 t0) := st_e (by omega) p57
                  have qK : MK (ab_st σ0 313 (bmc g)) k' (K k') := hK.st (by omega)
                  have qV : MV (ab_st σ0 313 (bmc g)) k' rows (va k') := hV.st hk4 (by omega)
                  have hL := m_laysBitmap q57 p13 hr qK qV i (by omega) j (by omega) (h := 313) (by omega) (o := g) st_s
                  rw [st_st] at hL
                  have hcb := cbm_eq (rg := (K k').1) (b := (K k').2.2.2) (va := va k') (rows := rows) (p := i) (j := j) (by omega) (by omega)
                  rw [← hcb] at hL
                  have s57 : (ab_st σ0 313 (bmc (cbm (K k').1 (K k').2.2.2 (va k') rows (fsp (K k').1 (K k').2.2.2 i + j)))).2 57 = some (m10 t0) := st_e (by omega) p57
                  have hwo := m_words s57 p13 hr (h := 313) st_s cbm_lt 1 (by omega)
                  rw [cnt_wc1] at hwo
                  have ihj := ih2 (j + 1) (cbm (K k').1 (K k').2.2.2 (va k') rows (fsp (K k').1 (K k').2.2.2 i + j)) (by omega)
                  rw [show sm (fun j => cnt (sw (cbm (K k').1 (K k').2.2.2 (va k') rows (fsp (K k').1 (K k').2.2.2 i + j))) (gu rows)) (j + 1) = sm (fun j => cnt (sw (cbm (K k').1 (K k').2.2.2 (va k') rows (fsp (K k').1 (K k').2.2.2 i + j))) (gu rows)) j + cnt (sw (cbm (K k').1 (K k').2.2.2 (va k') rows (fsp (K k').1 (K k').2.2.2 i + j))) (gu rows) from rfl, Int.natCast_add] at ihj
                  refine hA 12 _ rfl _ _ _ _ _ ?_
                  refine Exists.intro _ (And.intro (by first | assumption | exact st_s | exact st_e (by decide) (by assumption) | exact st_e (by omega) (by assumption) | exact st_e (by decide) st_s | exact st_e (by omega) st_s | exact st_e (by decide) (st_e (by decide) (by assumption)) | exact st_e (by omega) (st_e (by omega) (by assumption))) (And.intro rfl (ab_inv_ev (m_bitmapsOf q57 qK i (by omega)) (by first | decide | omega) (by first | exact Nat.le_refl _ | omega) (by first | exact Nat.le_refl _ | omega) ?_)))
                  refine And.intro (And.intro (by first | assumption | exact b2i_R _ | exact rR (by omega) (by omega) | exact rR (by simp only [Int.toNat_natCast]; omega) (by simp only [Int.toNat_natCast]; omega)) (by first | assumption | exact b2i_R _ | exact rR (by omega) (by omega) | exact rR (by simp only [Int.toNat_natCast]; omega) (by simp only [Int.toNat_natCast]; omega))) (And.intro (fun q => ?_) (fun q => ?_))
                  · omega
                  · refine hA 13 _ rfl _ _ _ _ _ ?_
                    refine Exists.intro _ (And.intro (by first | assumption | exact st_s | exact st_e (by decide) (by assumption) | exact st_e (by omega) (by assumption) | exact st_e (by decide) st_s | exact st_e (by omega) st_s | exact st_e (by decide) (st_e (by decide) (by assumption)) | exact st_e (by omega) (st_e (by omega) (by assumption))) ?_)
                    refine Exists.intro _ (And.intro (by first | assumption | exact st_s | exact st_e (by decide) (by assumption) | exact st_e (by omega) (by assumption) | exact st_e (by decide) st_s | exact st_e (by omega) st_s | exact st_e (by decide) (st_e (by decide) (by assumption)) | exact st_e (by omega) (st_e (by omega) (by assumption))) (And.intro rfl (ab_inv_ev hL (by first | decide | omega) (by first | exact Nat.le_refl _ | omega) (by first | exact Nat.le_refl _ | omega) ?_)))
                    refine Exists.intro _ (And.intro (by first | assumption | exact st_s | exact st_e (by decide) (by assumption) | exact st_e (by omega) (by assumption) | exact st_e (by decide) st_s | exact st_e (by omega) st_s | exact st_e (by decide) (st_e (by decide) (by assumption)) | exact st_e (by omega) (st_e (by omega) (by assumption))) ?_)
                    refine Exists.intro _ (And.intro (by first | assumption | exact st_s | exact st_e (by decide) (by assumption) | exact st_e (by omega) (by assumption) | exact st_e (by decide) st_s | exact st_e (by omega) st_s | exact st_e (by decide) (st_e (by decide) (by assumption)) | exact st_e (by omega) (st_e (by omega) (by assumption))) (And.intro rfl (ab_inv_ev hwo (by first | decide | omega) (by first | exact Nat.le_refl _ | omega) (by first | exact Nat.le_refl _ | omega) ?_)))
                    exact ihj
              have q57 : (ab_st σ0 313 (bmc g)).2 57 = some (m10 t0) := st_e (by omega) p57
              have qK : MK (ab_st σ0 313 (bmc g)) k' (K k') := hK.st (by omega)
              obtain ⟨a1, a2, a3, gg, a4, a5, a6, a7, a8⟩ := qK
              have i0 := inner (nbm (K k').1 (K k').2.2.2 i) 0 g (by omega)
              refine hA 10 _ rfl _ _ _ _ _ ?_
              refine Exists.intro _ (And.intro (q57) ?_)
              refine Exists.intro _ (Exists.intro _ (And.intro (a3) (And.intro (by omega) ?_)))
              refine Exists.intro _ (Exists.intro _ (And.intro (a4) (And.intro (by omega) ?_)))
              refine And.intro (And.intro (rR (by omega) (by omega)) (show ab_R (gg 1) from rR (by omega) (by omega))) (And.intro (fun q => ?_) (fun q => ?_))
              · have q : gg 1 < ((i + 1 : Nat) : Int) := q
                omega
              · refine hA 11 _ rfl _ _ _ _ _ ?_
                exact i0
          have l0 := loop (K k').2.2.1 0 o none none (by omega)
          rw [st_id ho] at l0
          refine hA 9 _ rfl _ _ _ _ _ ?_
          exact l0
        · exact absurd rfl q
      have gF2 : ¬ (0 ≤ what ∧ what ≤ 1) → At 7 [some (rf 57), some (.inl k), some (.inl what), none, none, none, none, none] [.inl 1, rf 57] σ0 0 0 := fun hP2 => by
        refine hA 7 _ rfl _ _ _ _ _ ?_
        refine Exists.intro _ (And.intro (by first | assumption | exact st_s | exact st_e (by decide) (by assumption) | exact st_e (by omega) (by assumption) | exact st_e (by decide) st_s | exact st_e (by omega) st_s | exact st_e (by decide) (st_e (by decide) (by assumption)) | exact st_e (by omega) (st_e (by omega) (by assumption))) (And.intro rfl (ab_inv_ev (m_bad1 p57 p0 p58 2 1 (by decide) (by decide) (by decide)) (by first | decide | omega) (by first | exact Nat.le_refl _ | omega) (by first | exact Nat.le_refl _ | omega) ?_)))
        refine And.intro (by first | assumption | exact b2i_R _ | exact rR (by omega) (by omega) | exact rR (by simp only [Int.toNat_natCast]; omega) (by simp only [Int.toNat_natCast]; omega)) (And.intro (fun q => ?_) (fun q => ?_))
        · exact absurd q (by decide)
        · refine hA 8 _ rfl _ _ _ _ _ ?_
          exact md_no (by unfold sp_heaviest; rw [if_pos hP1, if_neg hP2] <;> rfl) hf0 hI0 rfl
      have gO2 : ¬ (0 ≤ what ∧ what ≤ 1) → At 5 [some (rf 57), some (.inl k), some (.inl what), none, none, none, none, none] [rf 57] σ0 0 0 := fun h => by
        refine hA 5 _ rfl _ _ _ _ _ ?_
        exact gF2 h
      have gZ2 : (0 ≤ what ∧ what ≤ 1) → At 6 [some (rf 57), some (.inl k), some (.inl what), none, none, none, none, none] [rf 57] σ0 0 0 := fun h => by
        refine hA 6 _ rfl _ _ _ _ _ ?_
        exact gK2 h
      refine hA 4 _ rfl _ _ _ _ _ ?_
      refine And.intro rfl (ab_inv_ev (m_in what 0 1 hwhat (rR (by omega) (by omega)) (rR (by omega) (by omega))) (by first | decide | omega) (by first | exact Nat.le_refl _ | omega) (by first | exact Nat.le_refl _ | omega) ?_)
      refine And.intro (by first | assumption | exact b2i_R _ | exact rR (by omega) (by omega) | exact rR (by simp only [Int.toNat_natCast]; omega) (by simp only [Int.toNat_natCast]; omega)) (And.intro (fun q => ?_) (fun q => ?_))
      · have q10 := of_decide_eq_true (b2i_1 q)
        exact gZ2 (by omega)
      · exact gO2 (by have q1 := of_decide_eq_false (b2i_0 q); omega)
  have gF1 : ¬ (0 ≤ k ∧ k < cc) → At 3 [some (rf 57), some (.inl k), some (.inl what), none, none, none, none, none] [.inl 1, rf 57] σ0 0 0 := fun hP1 => by
    refine hA 3 _ rfl _ _ _ _ _ ?_
    refine Exists.intro _ (And.intro (by first | assumption | exact st_s | exact st_e (by decide) (by assumption) | exact st_e (by omega) (by assumption) | exact st_e (by decide) st_s | exact st_e (by omega) st_s | exact st_e (by decide) (st_e (by decide) (by assumption)) | exact st_e (by omega) (st_e (by omega) (by assumption))) (And.intro rfl (ab_inv_ev (m_bad1 p57 p0 p58 1 0 (by decide) (by decide) (by decide)) (by first | decide | omega) (by first | exact Nat.le_refl _ | omega) (by first | exact Nat.le_refl _ | omega) ?_)))
    refine And.intro (by first | assumption | exact b2i_R _ | exact rR (by omega) (by omega) | exact rR (by simp only [Int.toNat_natCast]; omega) (by simp only [Int.toNat_natCast]; omega)) (And.intro (fun q => ?_) (fun q => ?_))
    · refine hA 8 _ rfl _ _ _ _ _ ?_
      exact md_no (by unfold sp_heaviest; rw [if_neg hP1] <;> rfl) hf0 hI0 rfl
    · exact absurd q (by decide)
  have gO1 : ¬ (0 ≤ k ∧ k < cc) → At 1 [some (rf 57), some (.inl k), some (.inl what), none, none, none, none, none] [rf 57] σ0 0 0 := fun h => by
    refine hA 1 _ rfl _ _ _ _ _ ?_
    exact gF1 h
  have gZ1 : (0 ≤ k ∧ k < cc) → At 2 [some (rf 57), some (.inl k), some (.inl what), none, none, none, none, none] [rf 57] σ0 0 0 := fun h => by
    refine hA 2 _ rfl _ _ _ _ _ ?_
    exact gK1 h
  refine hA 0 _ rfl _ _ _ _ _ ?_
  refine Exists.intro _ (And.intro (q57) ?_)
  rw [m10_s0, ht0, hs0]
  refine Exists.intro _ (And.intro (by first | assumption | exact st_s | exact st_e (by decide) (by assumption) | exact st_e (by omega) (by assumption) | exact st_e (by decide) st_s | exact st_e (by omega) st_s | exact st_e (by decide) (st_e (by decide) (by assumption)) | exact st_e (by omega) (st_e (by omega) (by assumption))) (And.intro rfl (ab_inv_ev (m_isColumn p57 p12 hcc k hk) (by first | decide | omega) (by first | exact Nat.le_refl _ | omega) (by first | exact Nat.le_refl _ | omega) ?_)))
  refine And.intro (by first | assumption | exact b2i_R _ | exact rR (by omega) (by omega) | exact rR (by simp only [Int.toNat_natCast]; omega) (by simp only [Int.toNat_natCast]; omega)) (And.intro (fun q => ?_) (fun q => ?_))
  · have q00 := of_decide_eq_true (b2i_1 q)
    exact gZ1 (by omega)
  · exact gO1 (by have q1 := of_decide_eq_false (b2i_0 q); omega)
end Mask4
