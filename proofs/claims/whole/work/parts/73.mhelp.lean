-- ===== the model: helpers of its calls =====
section Mhelp
variable {σ : ab_H} {cc rows : Nat} {K : Nat → CT} {va : Nat → Nat → Nat} {R : Nat → V1} {f : Nat → Int} {n : Nat} {pl : Int} {c : C3} {t : Nat → Int} {r : Nat → Nat} {th : Int}
def bA (k : Nat) : Nat := if k < 6 then 73 + k else 314
def bS (σ : ab_H) (R : Nat → V1) (k : Nat) : ab_H := if k < 6 then σ else ab_st σ 314 (bmc (R 6))
theorem bS_rd (hI : MI σ cc rows K va R f n pl c t r th) {k : Nat} (hk : k < 7) : (bS σ R k).2 (bA k) = some (bmc (R k)) := by
  unfold bS bA
  by_cases h : k < 6
  · rw [if_pos h, if_pos h]; exact hI.rs h
  · rw [if_neg h, if_neg h, show k = 6 by omega]; exact st_s
theorem MI.bmS (hI : MI σ cc rows K va R f n pl c t r th) (k : Nat) : MI (bS σ R k) cc rows K va R f n pl c t r th := by
  unfold bS
  by_cases h : k < 6
  · rw [if_pos h]; exact hI
  · rw [if_neg h]; exact hI.st (by omega) (by omega) (shp_bm (by omega) (by omega))
theorem fr_bS {A : Nat → Prop} {τ : ab_H} (hf : fr A τ σ) (hA : A 314) (k : Nat) : fr A τ (bS σ R k) := by
  unfold bS
  split
  · exact hf
  · exact hf.st hA
theorem bS_ne {k a : Nat} {x : ab_C} (h : σ.2 a = some x) (ha : a ≠ 314) : (bS σ R k).2 a = some x := by
  unfold bS
  split
  · exact h
  · exact st_e ha h
theorem bA_ne (k a : Nat) (h : a < 73 ∨ 78 < a) (h2 : a ≠ 314) : bA k ≠ a := by
  unfold bA
  split <;> omega
/-- the first one, when the second one has been laid too -/
theorem bS_rd2 (hI : MI σ cc rows K va R f n pl c t r th) {k l : Nat} (hk : k < 7) : (bS (bS σ R k) R l).2 (bA k) = some (bmc (R k)) := by
  by_cases h : bA k = 314
  · have hk6 : k = 6 := by
      unfold bA at h
      split at h <;> omega
    subst hk6
    unfold bS
    by_cases hl : l < 6
    · rw [if_pos hl]; exact st_s
    · rw [if_neg hl]; exact st_s
  · exact bS_ne (bS_rd hI hk) h
set_option maxRecDepth 100000 in
set_option maxHeartbeats 1000000 in
theorem m_bitmap (hI : MI σ cc rows K va R f n pl c t r th) (k : Nat) (hk : k < 7) : ab_ev 4 yX10_bitmap [rf 57, .inl k] σ (some (rf (bA k))) (bS σ R k) := by
  have q57 := hI.h57
  have q72 := hI.h72
  obtain ⟨o, ho⟩ := hI.sc.bm (a := 314) (by omega) (by omega)
  refine eX10_bitmap rfl (fun At hA => ?_)
  refine hA 0 _ rfl _ _ _ _ _ ?_
  refine And.intro (And.intro (by first | assumption | exact b2i_R _ | exact rR (by omega) (by omega) | exact rR (by simp only [Int.toNat_natCast]; omega) (by simp only [Int.toNat_natCast]; omega)) (by first | assumption | exact b2i_R _ | exact rR (by omega) (by omega) | exact rR (by simp only [Int.toNat_natCast]; omega) (by simp only [Int.toNat_natCast]; omega))) (And.intro (fun q => ?_) (fun q => ?_))
  · have h6 : ¬ k < 6 := by omega
    have s57 : (ab_st σ 314 (bmc (R 6))).2 57 = some (m10 t) := st_e (by omega) q57
    refine hA 2 _ rfl _ _ _ _ _ ?_
    refine Exists.intro _ (And.intro (by first | assumption | exact st_s | exact st_e (by decide) (by assumption) | exact st_e (by omega) (by assumption) | exact st_e (by decide) st_s | exact st_e (by omega) st_s | exact st_e (by decide) (st_e (by decide) (by assumption)) | exact st_e (by omega) (st_e (by omega) (by assumption))) ?_)
    refine Exists.intro _ (And.intro (by first | assumption | exact st_s | exact st_e (by decide) (by assumption) | exact st_e (by omega) (by assumption) | exact st_e (by decide) st_s | exact st_e (by omega) st_s | exact st_e (by decide) (st_e (by decide) (by assumption)) | exact st_e (by omega) (st_e (by omega) (by assumption))) (And.intro rfl (ab_inv_ev (m_laysLive q57 hI.t13 hI.hr (hI.hR (by omega)) hI.g (h := 314) (by omega) ho) (by first | decide | omega) (by first | exact Nat.le_refl _ | omega) (by first | exact Nat.le_refl _ | omega) ?_)))
    refine Exists.intro _ (And.intro (by first | assumption | exact st_s | exact st_e (by decide) (by assumption) | exact st_e (by omega) (by assumption) | exact st_e (by decide) st_s | exact st_e (by omega) st_s | exact st_e (by decide) (st_e (by decide) (by assumption)) | exact st_e (by omega) (st_e (by omega) (by assumption))) ?_)
    unfold bA bS
    rw [if_neg h6, if_neg h6]
    exact ⟨rfl, rfl⟩
  · have h6 : k < 6 := by omega
    refine hA 1 _ rfl _ _ _ _ _ ?_
    refine Exists.intro _ (And.intro (q57) ?_)
    refine Exists.intro _ (Exists.intro _ (And.intro (q72) (And.intro (by omega) ?_)))
    unfold bA bS
    rw [if_pos h6, if_pos h6]
    exact ⟨rfl, rfl⟩
set_option maxRecDepth 100000 in
set_option maxHeartbeats 1000000 in
theorem m_isResult (k : Int) (hk : ab_R k) : ab_ev 2 yX10_isResult [rf 57, .inl k] σ (some (.inl (b2i (decide (0 ≤ k ∧ k ≤ 5))))) σ := by
  refine eX10_isResult rfl (fun At hA => ?_)
  refine hA 0 _ rfl _ _ _ _ _ ?_
  refine And.intro rfl (ab_inv_ev (m_in k 0 5 hk (rR (by omega) (by omega)) (rR (by omega) (by omega))) (by first | decide | omega) (by first | exact Nat.le_refl _ | omega) (by first | exact Nat.le_refl _ | omega) ?_)
  refine And.intro (by first | exact Or.inl rfl | exact Or.inr rfl | exact b2i_01 _) ?_
  exact ⟨rfl, rfl⟩
set_option maxRecDepth 100000 in
set_option maxHeartbeats 1000000 in
theorem m_isSet (k : Int) (hk : ab_R k) : ab_ev 2 yX10_isSet [rf 57, .inl k] σ (some (.inl (b2i (decide (0 ≤ k ∧ k ≤ 6))))) σ := by
  refine eX10_isSet rfl (fun At hA => ?_)
  refine hA 0 _ rfl _ _ _ _ _ ?_
  refine And.intro rfl (ab_inv_ev (m_in k 0 6 hk (rR (by omega) (by omega)) (rR (by omega) (by omega))) (by first | decide | omega) (by first | exact Nat.le_refl _ | omega) (by first | exact Nat.le_refl _ | omega) ?_)
  refine And.intro (by first | exact Or.inl rfl | exact Or.inr rfl | exact b2i_01 _) ?_
  exact ⟨rfl, rfl⟩
theorem dec_le {k : Int} {m : Nat} : decide (0 ≤ k ∧ k ≤ (m : Int) - 1) = decide (0 ≤ k ∧ k < (m : Int)) := decide_eq_decide.mpr (by omega)
set_option maxRecDepth 100000 in
set_option maxHeartbeats 1000000 in
theorem m_isColumn (h57 : σ.2 57 = some (m10 t)) (h12 : t 12 = cc) (hc : cc ≤ 4) (k : Int) (hk : ab_R k) : ab_ev 2 yX10_isColumn [rf 57, .inl k] σ (some (.inl (b2i (decide (0 ≤ k ∧ k < cc))))) σ := by
  have hm := m_in (σ := σ) k 0 (t 12 - 1) hk (rR (by omega) (by omega)) (rR (by omega) (by omega))
  refine eX10_isColumn rfl (fun At hA => ?_)
  refine hA 0 _ rfl _ _ _ _ _ ?_
  refine Exists.intro _ (And.intro (by first | assumption | exact st_s | exact st_e (by decide) (by assumption) | exact st_e (by omega) (by assumption) | exact st_e (by decide) st_s | exact st_e (by omega) st_s | exact st_e (by decide) (st_e (by decide) (by assumption)) | exact st_e (by omega) (st_e (by omega) (by assumption))) ?_)
  refine And.intro rfl (ab_inv_ev hm (by first | decide | omega) (by first | exact Nat.le_refl _ | omega) (by first | exact Nat.le_refl _ | omega) ?_)
  refine And.intro (by first | exact Or.inl rfl | exact Or.inr rfl | exact b2i_01 _) ?_
  rw [h12, dec_le]
  exact ⟨rfl, rfl⟩
set_option maxRecDepth 100000 in
set_option maxHeartbeats 1000000 in
theorem m_isPart (hI : MI σ cc rows K va R f n pl c t r th) (k p : Int) (hk : ab_R k) (hp : ab_R p) : ab_ev 3 yX10_isPart [rf 57, .inl k, .inl p] σ (some (.inl (b2i (decide ((0 ≤ k ∧ k < cc) ∧ 1 ≤ p ∧ p ≤ (K k.toNat).2.2.1))))) σ := by
  have q57 := hI.h57
  have hcc := hI.hc
  have hi := m_isColumn q57 hI.t12 hcc k hk
  refine eX10_isPart rfl (fun At hA => ?_)
  have k3 : ¬ ((0 ≤ k ∧ k < cc) ∧ 1 ≤ p ∧ p ≤ (K k.toNat).2.2.1) → At 3 [some (rf 57), some (.inl k), some (.inl p)] [] σ 0 0 := fun h => by
    refine hA 3 _ rfl _ _ _ _ _ ?_
    refine hA 4 _ rfl _ _ _ _ _ ?_
    refine And.intro (by first | exact Or.inl rfl | exact Or.inr rfl | exact b2i_01 _) ?_
    rw [decide_eq_false h]
    exact ⟨rfl, rfl⟩
  refine hA 0 _ rfl _ _ _ _ _ ?_
  refine Exists.intro _ (And.intro (by first | assumption | exact st_s | exact st_e (by decide) (by assumption) | exact st_e (by omega) (by assumption) | exact st_e (by decide) st_s | exact st_e (by omega) st_s | exact st_e (by decide) (st_e (by decide) (by assumption)) | exact st_e (by omega) (st_e (by omega) (by assumption))) (And.intro rfl (ab_inv_ev hi (by first | decide | omega) (by first | exact Nat.le_refl _ | omega) (by first | exact Nat.le_refl _ | omega) ?_)))
  refine And.intro (by first | assumption | exact b2i_R _ | exact rR (by omega) (by omega) | exact rR (by simp only [Int.toNat_natCast]; omega) (by simp only [Int.toNat_natCast]; omega)) (And.intro (fun q => ?_) (fun q => ?_))
  · have hq := of_decide_eq_false (b2i_0 q)
    exact k3 (fun h => hq h.1)
  · have hq := of_decide_eq_true (b2i_1 q)
    obtain ⟨a1, a2, a3, g, a4, a5, a6, a7, a8⟩ := hI.k (k := k.toNat) (by omega)
    have o2 := a2.2.1
    have hm := m_in (σ := σ) p 1 (g 1) hp (rR (by omega) (by omega)) (rR (by omega) (by omega))
    refine hA 1 _ rfl _ _ _ _ _ ?_
    refine Exists.intro _ (And.intro (q57) ?_)
    refine Exists.intro _ (Exists.intro _ (And.intro (a3) (And.intro (by omega) ?_)))
    refine Exists.intro _ (Exists.intro _ (And.intro (a4) (And.intro (by omega) ?_)))
    refine And.intro rfl (ab_inv_ev hm (by first | decide | omega) (by first | exact Nat.le_refl _ | omega) (by first | exact Nat.le_refl _ | omega) ?_)
    refine And.intro (b2i_R _) (And.intro (fun q => ?_) (fun q => ?_))
    · have hq2 := of_decide_eq_false (b2i_0 q)
      exact k3 (fun h => hq2 (by rw [a6]; exact h.2))
    · have hq2 := of_decide_eq_true (b2i_1 q)
      rw [a6] at hq2
      refine hA 2 _ rfl _ _ _ _ _ ?_
      refine hA 4 _ rfl _ _ _ _ _ ?_
      refine And.intro (by first | exact Or.inl rfl | exact Or.inr rfl | exact b2i_01 _) ?_
      rw [decide_eq_true ⟨hq, hq2⟩]
      exact ⟨rfl, rfl⟩
set_option maxRecDepth 100000 in
set_option maxHeartbeats 1000000 in
theorem m_isBitmap (hI : MI σ cc rows K va R f n pl c t r th) (k p j : Int) (hk : ab_R k) (hp : ab_R p) (hj : ab_R j) : ab_ev 4 yX10_isBitmap [rf 57, .inl k, .inl p, .inl j] σ (some (.inl (b2i (isBmB cc K k p j)))) σ := by
  have q57 := hI.h57
  have hi := m_isPart hI k p hk hp
  unfold isBmB
  refine eX10_isBitmap rfl (fun At hA => ?_)
  have k3 : (decide (0 ≤ k ∧ k < cc) && decide (1 ≤ p ∧ p ≤ (K k.toNat).2.2.1) && decide (0 ≤ j ∧ j < nbm (K k.toNat).1 (K k.toNat).2.2.2 (p - 1).toNat)) = false → At 3 [some (rf 57), some (.inl k), some (.inl p), some (.inl j)] [] σ 0 0 := fun h => by
    refine hA 3 _ rfl _ _ _ _ _ ?_
    refine hA 4 _ rfl _ _ _ _ _ ?_
    refine And.intro (by first | exact Or.inl rfl | exact Or.inr rfl | exact b2i_01 _) ?_
    rw [h]
    exact ⟨rfl, rfl⟩
  refine hA 0 _ rfl _ _ _ _ _ ?_
  refine Exists.intro _ (And.intro (by first | assumption | exact st_s | exact st_e (by decide) (by assumption) | exact st_e (by omega) (by assumption) | exact st_e (by decide) st_s | exact st_e (by omega) st_s | exact st_e (by decide) (st_e (by decide) (by assumption)) | exact st_e (by omega) (st_e (by omega) (by assumption))) (And.intro rfl (ab_inv_ev hi (by first | decide | omega) (by first | exact Nat.le_refl _ | omega) (by first | exact Nat.le_refl _ | omega) ?_)))
  refine And.intro (by first | assumption | exact b2i_R _ | exact rR (by omega) (by omega) | exact rR (by simp only [Int.toNat_natCast]; omega) (by simp only [Int.toNat_natCast]; omega)) (And.intro (fun q => ?_) (fun q => ?_))
  · have hq := of_decide_eq_false (b2i_0 q)
    refine k3 ?_
    rw [Bool.and_eq_false_iff, Bool.and_eq_false_iff, decide_eq_false_iff_not, decide_eq_false_iff_not]
    by_cases h1 : 0 ≤ k ∧ k < cc
    · exact Or.inl (Or.inr (fun h2 => hq ⟨h1, h2⟩))
    · exact Or.inl (Or.inl h1)
  · have hq := of_decide_eq_true (b2i_1 q)
    have hk1 := hI.k (k := k.toNat) (by omega)
    have ob := hk1.2.1
    have hb := m_bitmapsOf q57 hk1 (p - 1).toNat (by omega)
    rw [show (((p - 1).toNat + 1 : Nat) : Int) = p by omega, show ((k.toNat : Nat) : Int) = k by omega] at hb
    have hn := nbm_le (rg := (K k.toNat).1) ob.2.2.1 (p - 1).toNat
    have hn2 := ob.2.2.1 (p - 1).toNat
    have hm := m_in (σ := σ) j 0 ((nbm (K k.toNat).1 (K k.toNat).2.2.2 (p - 1).toNat : Nat) - 1) hj (rR (by omega) (by omega)) (rR (by omega) (by omega))
    rw [dec_le] at hm
    rw [decide_eq_true hq.1, decide_eq_true hq.2] at k3
    refine hA 1 _ rfl _ _ _ _ _ ?_
    refine Exists.intro _ (And.intro (by first | assumption | exact st_s | exact st_e (by decide) (by assumption) | exact st_e (by omega) (by assumption) | exact st_e (by decide) st_s | exact st_e (by omega) st_s | exact st_e (by decide) (st_e (by decide) (by assumption)) | exact st_e (by omega) (st_e (by omega) (by assumption))) (And.intro rfl (ab_inv_ev hb (by first | decide | omega) (by first | exact Nat.le_refl _ | omega) (by first | exact Nat.le_refl _ | omega) ?_)))
    refine And.intro rfl (ab_inv_ev hm (by first | decide | omega) (by first | exact Nat.le_refl _ | omega) (by first | exact Nat.le_refl _ | omega) ?_)
    refine And.intro (by first | assumption | exact b2i_R _ | exact rR (by omega) (by omega) | exact rR (by simp only [Int.toNat_natCast]; omega) (by simp only [Int.toNat_natCast]; omega)) (And.intro (fun q => ?_) (fun q => ?_))
    · exact k3 (b2i_0 q)
    · refine hA 2 _ rfl _ _ _ _ _ ?_
      refine hA 4 _ rfl _ _ _ _ _ ?_
      refine And.intro (by first | exact Or.inl rfl | exact Or.inr rfl | exact b2i_01 _) ?_
      refine ⟨?_, rfl⟩
      rw [decide_eq_true hq.1, decide_eq_true hq.2, b2i_1 q]
      rfl
set_option maxRecDepth 100000 in
set_option maxHeartbeats 1000000 in
theorem m_alive (hI : MI σ cc rows K va R f n pl c t r th) : ab_ev 1 yX10_alive [rf 57] σ (some (.inl (cnt (bit (R 6)) 1500))) σ := by
  have q57 := hI.h57
  have h13 := hI.t13
  have hr := hI.hr
  have hl := hI.hR (i := 6) (by omega)
  obtain ⟨gn, q71, hgn⟩ := hI.g
  have hcl := cnt_le (bit (R 6))
  have ec := cnt_sk (p := bit (R 6)) (i := rows) (1500 - rows) (fun j h1 _ => hl.2 j h1)
  rw [show rows + (1500 - rows) = 1500 by omega] at ec
  rw [ec]
  clear ec
  refine eX10_alive rfl (fun At hA => ?_)
  have loop : ∀ m i : Nat, i + m = rows → At 1 [some (rf 57), some (.inl (cnt (bit (R 6)) i)), some (.inl i)] [] σ 0 0 := by
    intro m
    induction m with
    | zero =>
      intro i hi
      have hi : i = rows := by omega
      subst hi
      refine hA 1 _ rfl _ _ _ _ _ ?_
      refine Exists.intro _ (And.intro (by first | assumption | exact st_s | exact st_e (by decide) (by assumption) | exact st_e (by omega) (by assumption) | exact st_e (by decide) st_s | exact st_e (by omega) st_s | exact st_e (by decide) (st_e (by decide) (by assumption)) | exact st_e (by omega) (st_e (by omega) (by assumption))) ?_)
      refine And.intro (And.intro (by first | assumption | exact b2i_R _ | exact rR (by omega) (by omega) | exact rR (by simp only [Int.toNat_natCast]; omega) (by simp only [Int.toNat_natCast]; omega)) (by first | assumption | exact b2i_R _ | exact rR (by omega) (by omega) | exact rR (by simp only [Int.toNat_natCast]; omega) (by simp only [Int.toNat_natCast]; omega))) (And.intro (fun q => ?_) (fun q => ?_))
      · refine hA 6 _ rfl _ _ _ _ _ ?_
        exact ⟨rfl, rfl⟩
      · omega
    | succ m ih =>
      intro i hi
      have hgr := hgn i (by omega)
      have hgR : ab_R (gn i) := by rw [hgr]; exact b2i_R _
      have ihi := ih (i + 1) (by omega)
      have k5 : ∀ z : Int, z = ((bit (R 6) i).toNat : Nat) → At 5 [some (rf 57), some (.inl (cnt (bit (R 6)) i)), some (.inl i)] [.inl z, .inl (cnt (bit (R 6)) i)] σ 0 0 := fun z hz => by
        subst hz
        rw [show cnt (bit (R 6)) (i + 1) = cnt (bit (R 6)) i + (bit (R 6) i).toNat from rfl, Int.natCast_add] at ihi
        refine hA 5 _ rfl _ _ _ _ _ ?_
        exact ihi
      refine hA 1 _ rfl _ _ _ _ _ ?_
      refine Exists.intro _ (And.intro (by first | assumption | exact st_s | exact st_e (by decide) (by assumption) | exact st_e (by omega) (by assumption) | exact st_e (by decide) st_s | exact st_e (by omega) st_s | exact st_e (by decide) (st_e (by decide) (by assumption)) | exact st_e (by omega) (st_e (by omega) (by assumption))) ?_)
      refine And.intro (And.intro (by first | assumption | exact b2i_R _ | exact rR (by omega) (by omega) | exact rR (by simp only [Int.toNat_natCast]; omega) (by simp only [Int.toNat_natCast]; omega)) (by first | assumption | exact b2i_R _ | exact rR (by omega) (by omega) | exact rR (by simp only [Int.toNat_natCast]; omega) (by simp only [Int.toNat_natCast]; omega))) (And.intro (fun q => ?_) (fun q => ?_))
      · omega
      · refine hA 2 _ rfl _ _ _ _ _ ?_
        refine Exists.intro _ (And.intro (q57) ?_)
        refine Exists.intro _ (Exists.intro _ (And.intro (q71) (And.intro (by omega) ?_)))
        refine And.intro hgR (And.intro (fun q => ?_) (fun q => ?_))
        · have q : gn i = 0 := q
          rw [hgr] at q
          have hb := b2i_0 q
          refine hA 4 _ rfl _ _ _ _ _ ?_
          refine k5 1 ?_
          cases h : bit (R 6) i
          · rw [h] at hb; cases hb
          · rfl
        · have q : gn i ≠ 0 := q
          rw [hgr] at q
          have hb := b2i_1 q
          refine hA 3 _ rfl _ _ _ _ _ ?_
          refine k5 0 ?_
          cases h : bit (R 6) i
          · rfl
          · rw [h] at hb; cases hb
  refine hA 0 _ rfl _ _ _ _ _ ?_
  exact loop rows 0 (by omega)
set_option maxRecDepth 100000 in
set_option maxHeartbeats 1000000 in
theorem m_bitmapsOfColumn (h57 : σ.2 57 = some (m10 t)) {k : Nat} {ct : CT} (hK : MK σ k ct) : ab_ev 3 yX10_bitmapsOfColumn [rf 57, .inl k] σ (some (.inl (fsp ct.1 ct.2.2.2 ct.2.2.1))) σ := by
  have hb := fun p hp => m_bitmapsOf h57 hK p hp
  obtain ⟨a1, a2, a3, g, a4, a5, a6, a7, a8⟩ := hK
  obtain ⟨o1, o2, o3, -⟩ := id a2
  have hfl := fsp_le (rg := ct.1) o3
  refine eX10_bitmapsOfColumn rfl (fun At hA => ?_)
  have loop : ∀ m i : Nat, i + m = ct.2.2.1 → At 1 [some (rf 57), some (.inl k), some (.inl (fsp ct.1 ct.2.2.2 i)), some (.inl ((i + 1 : Nat) : Int))] [] σ 0 0 := by
    intro m
    induction m with
    | zero =>
      intro i hi
      have hi : i = ct.2.2.1 := by omega
      refine hA 1 _ rfl _ _ _ _ _ ?_
      refine Exists.intro _ (And.intro (h57) ?_)
      refine Exists.intro _ (Exists.intro _ (And.intro (a3) (And.intro (by omega) ?_)))
      refine Exists.intro _ (Exists.intro _ (And.intro (a4) (And.intro (by omega) ?_)))
      refine And.intro (And.intro (rR (by omega) (by omega)) (show ab_R (g 1) from rR (by omega) (by omega))) (And.intro (fun q => ?_) (fun q => ?_))
      · refine hA 3 _ rfl _ _ _ _ _ ?_
        rw [hi]
        exact ⟨rfl, rfl⟩
      · have q : ((i + 1 : Nat) : Int) ≤ g 1 := q
        omega
    | succ m ih =>
      intro i hi
      have ihi := ih (i + 1) (by omega)
      rw [show fsp ct.1 ct.2.2.2 (i + 1) = fsp ct.1 ct.2.2.2 i + nbm ct.1 ct.2.2.2 i from rfl, Int.natCast_add] at ihi
      refine hA 1 _ rfl _ _ _ _ _ ?_
      refine Exists.intro _ (And.intro (h57) ?_)
      refine Exists.intro _ (Exists.intro _ (And.intro (a3) (And.intro (by omega) ?_)))
      refine Exists.intro _ (Exists.intro _ (And.intro (a4) (And.intro (by omega) ?_)))
      refine And.intro (And.intro (rR (by omega) (by omega)) (show ab_R (g 1) from rR (by omega) (by omega))) (And.intro (fun q => ?_) (fun q => ?_))
      · have q : g 1 < ((i + 1 : Nat) : Int) := q
        omega
      · refine hA 2 _ rfl _ _ _ _ _ ?_
        refine Exists.intro _ (And.intro (by first | assumption | exact st_s | exact st_e (by decide) (by assumption) | exact st_e (by omega) (by assumption) | exact st_e (by decide) st_s | exact st_e (by omega) st_s | exact st_e (by decide) (st_e (by decide) (by assumption)) | exact st_e (by omega) (st_e (by omega) (by assumption))) (And.intro rfl (ab_inv_ev (hb i (by omega)) (by first | decide | omega) (by first | exact Nat.le_refl _ | omega) (by first | exact Nat.le_refl _ | omega) ?_)))
        exact ihi
  refine hA 0 _ rfl _ _ _ _ _ ?_
  exact loop ct.2.2.1 0 (by omega)
set_option maxRecDepth 100000 in
set_option maxHeartbeats 1000000 in
theorem m_wordsOfColumn (h57 : σ.2 57 = some (m10 t)) (h13 : t 13 = rows) (hr : rows ≤ 1500) {k : Nat} {ct : CT} (hK : MK σ k ct) {vs : Nat → Nat} (hV : MV σ k rows vs) {o : Nat → Nat} (ho : σ.2 313 = some (bmc o)) : ab_call 5 0 0 yX10_wordsOfColumn [rf 57, .inl k] σ (fun z σ' => z = .inl (some (.inl (sm (wordsP ct.1 ct.2.2.2 (cbm ct.1 ct.2.2.2 vs rows) (gu rows)) ct.2.2.1 : Nat))) ∧ ∃ g : Nat → Nat, σ' = ab_st σ 313 (bmc g)) := by
  have hk4 := hK.1
  obtain ⟨o1, o2, o3, -⟩ := hK.2.1
  have hgl := gu_le hr
  refine eX10_wordsOfColumn rfl (fun At hA => ?_)
  have loop : ∀ (m i : Nat) (g : Nat → Nat) (y : Option ab_V), i + m = ct.2.2.1 → At 1 [some (rf 57), some (.inl k), some (.inl (sm (wordsP ct.1 ct.2.2.2 (cbm ct.1 ct.2.2.2 vs rows) (gu rows)) i : Nat)), some (.inl ((i + 1 : Nat) : Int)), y] [] (ab_st σ 313 (bmc g)) 0 0 := by
    intro m
    induction m with
    | zero =>
      intro i g y hi
      have hi : i = ct.2.2.1 := by omega
      have q57 : (ab_st σ 313 (bmc g)).2 57 = some (m10 t) := st_e (by omega) h57
      have qK : MK (ab_st σ 313 (bmc g)) k ct := hK.st (by omega)
      obtain ⟨a1, a2, a3, gg, a4, a5, a6, a7, a8⟩ := qK
      refine hA 1 _ rfl _ _ _ _ _ ?_
      refine Exists.intro _ (And.intro (q57) ?_)
      refine Exists.intro _ (Exists.intro _ (And.intro (a3) (And.intro (by omega) ?_)))
      refine Exists.intro _ (Exists.intro _ (And.intro (a4) (And.intro (by omega) ?_)))
      refine And.intro (And.intro (rR (by omega) (by omega)) (show ab_R (gg 1) from rR (by omega) (by omega))) (And.intro (fun q => ?_) (fun q => ?_))
      · refine hA 6 _ rfl _ _ _ _ _ ?_
        rw [hi]
        exact ⟨rfl, g, rfl⟩
      · have q : ((i + 1 : Nat) : Int) ≤ gg 1 := q
        omega
    | succ m ih =>
      intro i g y hi
      have hn := nbm_le (rg := ct.1) o3 i
      have hn2 := o3 i
      have inner : ∀ (m2 j : Nat) (g : Nat → Nat), j + m2 = nbm ct.1 ct.2.2.2 i → At 3 [some (rf 57), some (.inl k), some (.inl (sm (wordsP ct.1 ct.2.2.2 (cbm ct.1 ct.2.2.2 vs rows) (gu rows)) i + sm (fun j => cnt (sw (cbm ct.1 ct.2.2.2 vs rows (fsp ct.1 ct.2.2.2 i + j))) (gu rows)) j : Nat)), some (.inl ((i + 1 : Nat) : Int)), some (.inl j)] [] (ab_st σ 313 (bmc g)) 0 0 := by
        intro m2
        induction m2 with
        | zero =>
          intro j g hj
          have q57 : (ab_st σ 313 (bmc g)).2 57 = some (m10 t) := st_e (by omega) h57
          have qK : MK (ab_st σ 313 (bmc g)) k ct := hK.st (by omega)
          have hj : j = nbm ct.1 ct.2.2.2 i := by omega
          have ihi := ih (i + 1) g (some (.inl j)) (by omega)
          rw [show sm (wordsP ct.1 ct.2.2.2 (cbm ct.1 ct.2.2.2 vs rows) (gu rows)) (i + 1) = sm (wordsP ct.1 ct.2.2.2 (cbm ct.1 ct.2.2.2 vs rows) (gu rows)) i + wordsP ct.1 ct.2.2.2 (cbm ct.1 ct.2.2.2 vs rows) (gu rows) i from rfl] at ihi
          refine hA 3 _ rfl _ _ _ _ _ ?_
          refine Exists.intro _ (And.intro (by first | assumption | exact st_s | exact st_e (by decide) (by assumption) | exact st_e (by omega) (by assumption) | exact st_e (by decide) st_s | exact st_e (by omega) st_s | exact st_e (by decide) (st_e (by decide) (by assumption)) | exact st_e (by omega) (st_e (by omega) (by assumption))) (And.intro rfl (ab_inv_ev (m_bitmapsOf q57 qK i (by omega)) (by first | decide | omega) (by first | exact Nat.le_refl _ | omega) (by first | exact Nat.le_refl _ | omega) ?_)))
          refine And.intro (And.intro (by first | assumption | exact b2i_R _ | exact rR (by omega) (by omega) | exact rR (by simp only [Int.toNat_natCast]; omega) (by simp only [Int.toNat_natCast]; omega)) (by first | assumption | exact b2i_R _ | exact rR (by omega) (by omega) | exact rR (by simp only [Int.toNat_natCast]; omega) (by simp only [Int.toNat_natCast]; omega))) (And.intro (fun q => ?_) (fun q => ?_))
          · refine hA 5 _ rfl _ _ _ _ _ ?_
            unfold wordsP at ihi
            rw [← hj] at ihi
            exact ihi
          · omega
        | succ m2 ih2 =>
          intro j g hj
          have q57 : (ab_st σ 313 (bmc g)).2 57 = some (m10 t) := st_e (by omega) h57
          have qK : MK (ab_st σ 313 (bmc g)) k ct := hK.st (by omega)
          have qV : MV (ab_st σ 313 (bmc g)) k rows vs := hV.st hk4 (by omega)
          have hL := m_laysBitmap q57 h13 hr qK qV i (by omega) j (by omega) (h := 313) (by omega) (o := g) st_s
          rw [st_st] at hL
          have hcb := cbm_eq (rg := ct.1) (b := ct.2.2.2) (va := vs) (rows := rows) (p := i) (j := j) (by omega) (by omega)
          rw [← hcb] at hL
          have s57 : (ab_st σ 313 (bmc (cbm ct.1 ct.2.2.2 vs rows (fsp ct.1 ct.2.2.2 i + j)))).2 57 = some (m10 t) := st_e (by omega) h57
          have hw := m_words s57 h13 hr (h := 313) st_s cbm_lt 1 (by omega)
          rw [cnt_wc1] at hw
          have ihj := ih2 (j + 1) (cbm ct.1 ct.2.2.2 vs rows (fsp ct.1 ct.2.2.2 i + j)) (by omega)
          rw [show sm (fun j => cnt (sw (cbm ct.1 ct.2.2.2 vs rows (fsp ct.1 ct.2.2.2 i + j))) (gu rows)) (j + 1) = sm (fun j => cnt (sw (cbm ct.1 ct.2.2.2 vs rows (fsp ct.1 ct.2.2.2 i + j))) (gu rows)) j + cnt (sw (cbm ct.1 ct.2.2.2 vs rows (fsp ct.1 ct.2.2.2 i + j))) (gu rows) from rfl, ← Nat.add_assoc, Int.natCast_add] at ihj
          refine hA 3 _ rfl _ _ _ _ _ ?_
          refine Exists.intro _ (And.intro (by first | assumption | exact st_s | exact st_e (by decide) (by assumption) | exact st_e (by omega) (by assumption) | exact st_e (by decide) st_s | exact st_e (by omega) st_s | exact st_e (by decide) (st_e (by decide) (by assumption)) | exact st_e (by omega) (st_e (by omega) (by assumption))) (And.intro rfl (ab_inv_ev (m_bitmapsOf q57 qK i (by omega)) (by first | decide | omega) (by first | exact Nat.le_refl _ | omega) (by first | exact Nat.le_refl _ | omega) ?_)))
          refine And.intro (And.intro (by first | assumption | exact b2i_R _ | exact rR (by omega) (by omega) | exact rR (by simp only [Int.toNat_natCast]; omega) (by simp only [Int.toNat_natCast]; omega)) (by first | assumption | exact b2i_R _ | exact rR (by omega) (by omega) | exact rR (by simp only [Int.toNat_natCast]; omega) (by simp only [Int.toNat_natCast]; omega))) (And.intro (fun q => ?_) (fun q => ?_))
          · omega
          · refine hA 4 _ rfl _ _ _ _ _ ?_
            refine Exists.intro _ (And.intro (by first | assumption | exact st_s | exact st_e (by decide) (by assumption) | exact st_e (by omega) (by assumption) | exact st_e (by decide) st_s | exact st_e (by omega) st_s | exact st_e (by decide) (st_e (by decide) (by assumption)) | exact st_e (by omega) (st_e (by omega) (by assumption))) ?_)
            refine Exists.intro _ (And.intro (by first | assumption | exact st_s | exact st_e (by decide) (by assumption) | exact st_e (by omega) (by assumption) | exact st_e (by decide) st_s | exact st_e (by omega) st_s | exact st_e (by decide) (st_e (by decide) (by assumption)) | exact st_e (by omega) (st_e (by omega) (by assumption))) (And.intro rfl (ab_inv_ev hL (by first | decide | omega) (by first | exact Nat.le_refl _ | omega) (by first | exact Nat.le_refl _ | omega) ?_)))
            refine Exists.intro _ (And.intro (by first | assumption | exact st_s | exact st_e (by decide) (by assumption) | exact st_e (by omega) (by assumption) | exact st_e (by decide) st_s | exact st_e (by omega) st_s | exact st_e (by decide) (st_e (by decide) (by assumption)) | exact st_e (by omega) (st_e (by omega) (by assumption))) ?_)
            refine Exists.intro _ (And.intro (by first | assumption | exact st_s | exact st_e (by decide) (by assumption) | exact st_e (by omega) (by assumption) | exact st_e (by decide) st_s | exact st_e (by omega) st_s | exact st_e (by decide) (st_e (by decide) (by assumption)) | exact st_e (by omega) (st_e (by omega) (by assumption))) (And.intro rfl (ab_inv_ev hw (by first | decide | omega) (by first | exact Nat.le_refl _ | omega) (by first | exact Nat.le_refl _ | omega) ?_)))
            exact ihj
      have q57 : (ab_st σ 313 (bmc g)).2 57 = some (m10 t) := st_e (by omega) h57
      have qK : MK (ab_st σ 313 (bmc g)) k ct := hK.st (by omega)
      obtain ⟨a1, a2, a3, gg, a4, a5, a6, a7, a8⟩ := qK
      have i0 := inner (nbm ct.1 ct.2.2.2 i) 0 g (by omega)
      refine hA 1 _ rfl _ _ _ _ _ ?_
      refine Exists.intro _ (And.intro (q57) ?_)
      refine Exists.intro _ (Exists.intro _ (And.intro (a3) (And.intro (by omega) ?_)))
      refine Exists.intro _ (Exists.intro _ (And.intro (a4) (And.intro (by omega) ?_)))
      refine And.intro (And.intro (rR (by omega) (by omega)) (show ab_R (gg 1) from rR (by omega) (by omega))) (And.intro (fun q => ?_) (fun q => ?_))
      · have q : gg 1 < ((i + 1 : Nat) : Int) := q
        omega
      · refine hA 2 _ rfl _ _ _ _ _ ?_
        exact i0
  have l0 := loop ct.2.2.1 0 o none (by omega)
  rw [st_id ho] at l0
  refine hA 0 _ rfl _ _ _ _ _ ?_
  exact l0
set_option maxRecDepth 100000 in
set_option maxHeartbeats 1000000 in
theorem m_counts (h57 : σ.2 57 = some (m10 t)) (h13 : t 13 = rows) (hr : rows ≤ 1500) {k : Nat} (hk : k < 4) {vs : Nat → Nat} (hV : MV σ k rows vs) {h : Nat} {g : Nat → Nat} (hh : σ.2 h = some (bmc g)) (hh2 : h ≠ 315) (hg : ∀ i, g i < 32768) {o : Nat → Nat} (ho : σ.2 315 = some (ints 200 o)) : ab_ev 2 yX10_counts [rf 57, .inl k, rf h] σ none (ab_st σ 315 (ints 200 (tly g vs rows))) := by
  refine hq_ev (σ' := ab_st σ 315 (ints 200 (mix 200 (tly g vs rows) o))) ?_ (hq_st (fun j hj => by rw [mix_lt hj]))
  refine eX10_counts rfl (fun At hA => ?_)
  have loop2 : ∀ m i : Nat, i + m = rows → At 4 [some (rf 57), some (.inl k), some (rf h), some (.inl i)] [] (ab_st σ 315 (ints 200 (mix 200 (tly g vs i) o))) 0 0 := by
    intro m
    induction m with
    | zero =>
      intro i hi
      have q57 : (ab_st σ 315 (ints 200 (mix 200 (tly g vs i) o))).2 57 = some (m10 t) := st_e (by omega) h57
      refine hA 4 _ rfl _ _ _ _ _ ?_
      refine Exists.intro _ (And.intro (by first | assumption | exact st_s | exact st_e (by decide) (by assumption) | exact st_e (by omega) (by assumption) | exact st_e (by decide) st_s | exact st_e (by omega) st_s | exact st_e (by decide) (st_e (by decide) (by assumption)) | exact st_e (by omega) (st_e (by omega) (by assumption))) ?_)
      refine And.intro (And.intro (by first | assumption | exact b2i_R _ | exact rR (by omega) (by omega) | exact rR (by simp only [Int.toNat_natCast]; omega) (by simp only [Int.toNat_natCast]; omega)) (by first | assumption | exact b2i_R _ | exact rR (by omega) (by omega) | exact rR (by simp only [Int.toNat_natCast]; omega) (by simp only [Int.toNat_natCast]; omega))) (And.intro (fun q => ?_) (fun q => ?_))
      · refine hA 8 _ rfl _ _ _ _ _ ?_
        exact ⟨rfl, by rw [show i = rows by omega]⟩
      · omega
    | succ m ih =>
      intro i hi
      have q57 : (ab_st σ 315 (ints 200 (mix 200 (tly g vs i) o))).2 57 = some (m10 t) := st_e (by omega) h57
      have qh : (ab_st σ 315 (ints 200 (mix 200 (tly g vs i) o))).2 h = some (bmc g) := st_e hh2 hh
      obtain ⟨q66, w, q67, hw, hva⟩ : MV (ab_st σ 315 (ints 200 (mix 200 (tly g vs i) o))) k rows vs := hV.st hk (by omega)
      have hwi := hw i (by omega)
      have hvi := hva i
      have hwi2 : w ((i : Nat) : Int).toNat = vs i := hwi
      have eti : (w i).toNat = vs i := by omega
      refine hA 4 _ rfl _ _ _ _ _ ?_
      refine Exists.intro _ (And.intro (by first | assumption | exact st_s | exact st_e (by decide) (by assumption) | exact st_e (by omega) (by assumption) | exact st_e (by decide) st_s | exact st_e (by omega) st_s | exact st_e (by decide) (st_e (by decide) (by assumption)) | exact st_e (by omega) (st_e (by omega) (by assumption))) ?_)
      refine And.intro (And.intro (by first | assumption | exact b2i_R _ | exact rR (by omega) (by omega) | exact rR (by simp only [Int.toNat_natCast]; omega) (by simp only [Int.toNat_natCast]; omega)) (by first | assumption | exact b2i_R _ | exact rR (by omega) (by omega) | exact rR (by simp only [Int.toNat_natCast]; omega) (by simp only [Int.toNat_natCast]; omega))) (And.intro (fun q => ?_) (fun q => ?_))
      · omega
      · refine hA 5 _ rfl _ _ _ _ _ ?_
        refine And.intro rfl (ab_inv_ev (m_has qh hg i (by omega)) (by first | decide | omega) (by first | exact Nat.le_refl _ | omega) (by first | exact Nat.le_refl _ | omega) ?_)
        refine And.intro (by first | assumption | exact b2i_R _ | exact rR (by omega) (by omega) | exact rR (by simp only [Int.toNat_natCast]; omega) (by simp only [Int.toNat_natCast]; omega)) (And.intro (fun q => ?_) (fun q => ?_))
        · have hq := b2i_0 q
          refine hA 7 _ rfl _ _ _ _ _ ?_
          have := ih (i + 1) (by omega)
          have e : tly g vs (i + 1) = tly g vs i := by
            funext v
            exact cnt_s0 (by rw [hq]; rfl)
          rw [e] at this
          exact this
        · have hq := b2i_1 q
          have e : ab_up (mix 200 (tly g vs i) o) (vs i) (mix 200 (tly g vs i) o (vs i) + 1) = mix 200 (tly g vs (i + 1)) o := by
            funext v
            by_cases h : v = vs i
            · subst h
              rw [ab_up_s, mix_lt hvi, mix_lt hvi]
              exact (cnt_s1 (by rw [hq, beq_self_eq_true]; rfl)).symm
            · rw [ab_up_n h]
              unfold mix
              split
              · exact (cnt_s0 (by rw [hq, beq_eq_false_iff_ne.mpr (fun e => h e.symm)]; rfl)).symm
              · rfl
          have ihi := ih (i + 1) (by omega)
          rw [← e] at ihi
          have e3 : ab_st (ab_st σ 315 (ints 200 (mix 200 (tly g vs i) o))) 315 (.inr (.inl (0, 200, ab_up (fun j => ((mix 200 (tly g vs i) o j : Nat) : Int)) (w i).toNat (((mix 200 (tly g vs i) o (w i).toNat : Nat) : Int) + 1)))) = ab_st σ 315 (ints 200 (ab_up (mix 200 (tly g vs i) o) (vs i) (mix 200 (tly g vs i) o (vs i) + 1))) := by
            rw [st_st, eti, ← ints_up]
            rfl
          rw [← e3] at ihi
          refine hA 6 _ rfl _ _ _ _ _ ?_
          refine Exists.intro _ (And.intro (q57) ?_)
          refine Exists.intro _ (And.intro (q57) ?_)
          refine Exists.intro _ (Exists.intro _ (And.intro (q66) (And.intro (by omega) ?_)))
          refine Exists.intro _ (Exists.intro _ (And.intro (q67) (And.intro (by omega) ?_)))
          refine Exists.intro _ (Exists.intro _ (And.intro (st_s) (And.intro (by omega) ?_)))
          refine Exists.intro _ (Exists.intro _ (And.intro (st_s) (And.intro (by omega) ?_)))
          refine hA 7 _ rfl _ _ _ _ _ ?_
          exact ihi
  have loop1 : ∀ m i : Nat, i + m = 200 → At 1 [some (rf 57), some (.inl k), some (rf h), some (.inl i)] [] (ab_st σ 315 (ints 200 (mix i (fun _ => 0) o))) 0 0 := by
    intro m
    induction m with
    | zero =>
      intro i hi
      have hi : i = 200 := by omega
      subst hi
      refine hA 1 _ rfl _ _ _ _ _ ?_
      refine And.intro (And.intro (by first | assumption | exact b2i_R _ | exact rR (by omega) (by omega) | exact rR (by simp only [Int.toNat_natCast]; omega) (by simp only [Int.toNat_natCast]; omega)) (by first | assumption | exact b2i_R _ | exact rR (by omega) (by omega) | exact rR (by simp only [Int.toNat_natCast]; omega) (by simp only [Int.toNat_natCast]; omega))) (And.intro (fun q => ?_) (fun q => ?_))
      · refine hA 3 _ rfl _ _ _ _ _ ?_
        exact loop2 rows 0 (by omega)
      · exact absurd (show (200 : Int) < 200 from q) (by decide)
    | succ m ih =>
      intro i hi
      have q57 : (ab_st σ 315 (ints 200 (mix i (fun _ => 0) o))).2 57 = some (m10 t) := st_e (by omega) h57
      refine hA 1 _ rfl _ _ _ _ _ ?_
      refine And.intro (And.intro (by first | assumption | exact b2i_R _ | exact rR (by omega) (by omega) | exact rR (by simp only [Int.toNat_natCast]; omega) (by simp only [Int.toNat_natCast]; omega)) (by first | assumption | exact b2i_R _ | exact rR (by omega) (by omega) | exact rR (by simp only [Int.toNat_natCast]; omega) (by simp only [Int.toNat_natCast]; omega))) (And.intro (fun q => ?_) (fun q => ?_))
      · omega
      · refine hA 2 _ rfl _ _ _ _ _ ?_
        refine Exists.intro _ (And.intro (by first | assumption | exact st_s | exact st_e (by decide) (by assumption) | exact st_e (by omega) (by assumption) | exact st_e (by decide) st_s | exact st_e (by omega) st_s | exact st_e (by decide) (st_e (by decide) (by assumption)) | exact st_e (by omega) (st_e (by omega) (by assumption))) ?_)
        refine Exists.intro _ (Exists.intro _ (And.intro (by first | assumption | exact st_s | exact st_e (by decide) (by assumption) | exact st_e (by omega) (by assumption) | exact st_e (by decide) st_s | exact st_e (by omega) st_s | exact st_e (by decide) (st_e (by decide) (by assumption)) | exact st_e (by omega) (st_e (by omega) (by assumption))) (And.intro (by first | omega | (simp only [Int.toNat_natCast]; omega)) ?_)))
        show At 1 _ _ (ab_st (ab_st σ 315 _) 315 (.inr (.inl (0, 200, ab_up (fun j => ((mix i (fun _ => 0) o j : Nat) : Int)) i 0)))) _ _
        rw [st_st, mix_s i (fun _ => 0) o 0 rfl]
        exact ih (i + 1) (by omega)
  refine hA 0 _ rfl _ _ _ _ _ ?_
  have := loop1 200 0 (by omega)
  rw [mix_0, st_id ho] at this
  exact this
set_option maxRecDepth 100000 in
set_option maxHeartbeats 1000000 in
theorem m_readingsOf (h57 : σ.2 57 = some (m10 t)) {k : Nat} {ct : CT} (hK : MK σ k ct) (v : Nat) (hv : v < 1000) : ab_ev 3 yX10_readingsOf [rf 57, .inl k, .inl v] σ (some (.inl (if ct.2.1 ≤ v + 1 then 0 else sm (rdg ct.1 ct.2.2.2 v) ct.2.2.1 : Nat))) σ := by
  have hd := fun p hp => m_digit h57 hK p hp v (by omega)
  have hb := fun p hp => m_baseOf h57 hK p hp
  have hir := m_isRange h57 hK
  obtain ⟨a1, a2, a3, g, a4, a5, a6, a7, a8⟩ := hK
  obtain ⟨o1, o2, o3, o4, o5, -⟩ := id a2
  refine eX10_readingsOf rfl (fun At hA => ?_)
  have loop : ∀ (m i : Nat) (y : Option ab_V), i + m = ct.2.2.1 → ¬ ct.2.1 ≤ v + 1 → At 3 [some (rf 57), some (.inl k), some (.inl v), some (.inl (sm (rdg ct.1 ct.2.2.2 v) i)), some (.inl ((i + 1 : Nat) : Int)), y] [] σ 0 0 := by
    intro m
    induction m with
    | zero =>
      intro i y hi hnc
      have hi : i = ct.2.2.1 := by omega
      refine hA 3 _ rfl _ _ _ _ _ ?_
      refine Exists.intro _ (And.intro (h57) ?_)
      refine Exists.intro _ (Exists.intro _ (And.intro (a3) (And.intro (by omega) ?_)))
      refine Exists.intro _ (Exists.intro _ (And.intro (a4) (And.intro (by omega) ?_)))
      refine And.intro (And.intro (rR (by omega) (by omega)) (show ab_R (g 1) from rR (by omega) (by omega))) (And.intro (fun q => ?_) (fun q => ?_))
      · refine hA 15 _ rfl _ _ _ _ _ ?_
        rw [hi, if_neg hnc]
        exact ⟨rfl, rfl⟩
      · have q : ((i + 1 : Nat) : Int) ≤ g 1 := q
        omega
    | succ m ih =>
      intro i y hi hnc
      have hdl := dig_lt o3 i v
      have hbi := o3 i
      have hb0 := hb i (by omega)
      have ihi := fun y => ih (i + 1) y (by omega) hnc
      have es : sm (rdg ct.1 ct.2.2.2 v) (i + 1) = sm (rdg ct.1 ct.2.2.2 v) i + rdg ct.1 ct.2.2.2 v i := rfl
      have k14 : ∀ z : Int, z = (sm (rdg ct.1 ct.2.2.2 v) (i + 1) : Nat) → ∀ y, At 14 [some (rf 57), some (.inl k), some (.inl v), some (.inl z), some (.inl ((i + 1 : Nat) : Int)), y] [] σ 0 0 := fun z hz y => by
        subst hz
        refine hA 14 _ rfl _ _ _ _ _ ?_
        exact ihi y
      have k13 : ∀ z1 z2 : Int, ct.1 = true → z1 = (if dig ct.2.2.2 i v + 1 == ct.2.2.2 i then 0 else 1 : Nat) → z2 = (if (decide (0 < i) && decide (0 < dig ct.2.2.2 i v)) = true then 1 else 0 : Nat) → ∀ y, At 13 [some (rf 57), some (.inl k), some (.inl v), some (.inl (sm (rdg ct.1 ct.2.2.2 v) i)), some (.inl ((i + 1 : Nat) : Int)), y] [.inl z2, .inl z1, .inl (sm (rdg ct.1 ct.2.2.2 v) i)] σ 0 0 := fun z1 z2 hr h1 h2 y => by
        refine hA 13 _ rfl _ _ _ _ _ ?_
        refine k14 _ ?_ _
        rw [es, h1, h2]
        unfold rdg
        rw [hr, if_pos rfl]
        omega
      have k9 : ∀ z1 : Int, ct.1 = true → z1 = (if dig ct.2.2.2 i v + 1 == ct.2.2.2 i then 0 else 1 : Nat) → At 9 [some (rf 57), some (.inl k), some (.inl v), some (.inl (sm (rdg ct.1 ct.2.2.2 v) i)), some (.inl ((i + 1 : Nat) : Int)), some (.inl (dig ct.2.2.2 i v))] [.inl z1, .inl (sm (rdg ct.1 ct.2.2.2 v) i)] σ 0 0 := fun z1 hr h1 => by
        have k12 : (decide (0 < i) && decide (0 < dig ct.2.2.2 i v)) = false → At 12 [some (rf 57), some (.inl k), some (.inl v), some (.inl (sm (rdg ct.1 ct.2.2.2 v) i)), some (.inl ((i + 1 : Nat) : Int)), some (.inl (dig ct.2.2.2 i v))] [.inl z1, .inl (sm (rdg ct.1 ct.2.2.2 v) i)] σ 0 0 := fun h => by
          refine hA 12 _ rfl _ _ _ _ _ ?_
          exact k13 _ 0 hr h1 (by rw [h]; rfl) _
        refine hA 9 _ rfl _ _ _ _ _ ?_
        refine And.intro (And.intro (by first | assumption | exact b2i_R _ | exact rR (by omega) (by omega) | exact rR (by simp only [Int.toNat_natCast]; omega) (by simp only [Int.toNat_natCast]; omega)) (by first | assumption | exact b2i_R _ | exact rR (by omega) (by omega) | exact rR (by simp only [Int.toNat_natCast]; omega) (by simp only [Int.toNat_natCast]; omega))) (And.intro (fun q => ?_) (fun q => ?_))
        · exact k12 (by rw [decide_eq_false (show ¬ 0 < i by omega)]; rfl)
        · refine hA 10 _ rfl _ _ _ _ _ ?_
          refine And.intro (by first | assumption | exact b2i_R _ | exact rR (by omega) (by omega) | exact rR (by simp only [Int.toNat_natCast]; omega) (by simp only [Int.toNat_natCast]; omega)) (And.intro (fun q => ?_) (fun q => ?_))
          · exact k12 (by rw [decide_eq_false (show ¬ 0 < dig ct.2.2.2 i v by omega), Bool.and_false])
          · refine hA 11 _ rfl _ _ _ _ _ ?_
            exact k13 _ 1 hr h1 (by rw [decide_eq_true (show 0 < i by omega), decide_eq_true (show 0 < dig ct.2.2.2 i v by omega)]; rfl) _
      refine hA 3 _ rfl _ _ _ _ _ ?_
      refine Exists.intro _ (And.intro (h57) ?_)
      refine Exists.intro _ (Exists.intro _ (And.intro (a3) (And.intro (by omega) ?_)))
      refine Exists.intro _ (Exists.intro _ (And.intro (a4) (And.intro (by omega) ?_)))
      refine And.intro (And.intro (rR (by omega) (by omega)) (show ab_R (g 1) from rR (by omega) (by omega))) (And.intro (fun q => ?_) (fun q => ?_))
      · have q : g 1 < ((i + 1 : Nat) : Int) := q
        omega
      · refine hA 4 _ rfl _ _ _ _ _ ?_
        refine Exists.intro _ (And.intro (by first | assumption | exact st_s | exact st_e (by decide) (by assumption) | exact st_e (by omega) (by assumption) | exact st_e (by decide) st_s | exact st_e (by omega) st_s | exact st_e (by decide) (st_e (by decide) (by assumption)) | exact st_e (by omega) (st_e (by omega) (by assumption))) (And.intro rfl (ab_inv_ev (hd i (by omega)) (by first | decide | omega) (by first | exact Nat.le_refl _ | omega) (by first | exact Nat.le_refl _ | omega) ?_)))
        refine Exists.intro _ (And.intro (by first | assumption | exact st_s | exact st_e (by decide) (by assumption) | exact st_e (by omega) (by assumption) | exact st_e (by decide) st_s | exact st_e (by omega) st_s | exact st_e (by decide) (st_e (by decide) (by assumption)) | exact st_e (by omega) (st_e (by omega) (by assumption))) (And.intro rfl (ab_inv_ev hir (by first | decide | omega) (by first | exact Nat.le_refl _ | omega) (by first | exact Nat.le_refl _ | omega) ?_)))
        refine And.intro (by first | assumption | exact b2i_R _ | exact rR (by omega) (by omega) | exact rR (by simp only [Int.toNat_natCast]; omega) (by simp only [Int.toNat_natCast]; omega)) (And.intro (fun q => ?_) (fun q => ?_))
        · have hr := b2i_1 q
          refine hA 6 _ rfl _ _ _ _ _ ?_
          refine Exists.intro _ (And.intro (by first | assumption | exact st_s | exact st_e (by decide) (by assumption) | exact st_e (by omega) (by assumption) | exact st_e (by decide) st_s | exact st_e (by omega) st_s | exact st_e (by decide) (st_e (by decide) (by assumption)) | exact st_e (by omega) (st_e (by omega) (by assumption))) (And.intro rfl (ab_inv_ev hb0 (by first | decide | omega) (by first | exact Nat.le_refl _ | omega) (by first | exact Nat.le_refl _ | omega) ?_)))
          refine And.intro (And.intro (by first | assumption | exact b2i_R _ | exact rR (by omega) (by omega) | exact rR (by simp only [Int.toNat_natCast]; omega) (by simp only [Int.toNat_natCast]; omega)) (by first | assumption | exact b2i_R _ | exact rR (by omega) (by omega) | exact rR (by simp only [Int.toNat_natCast]; omega) (by simp only [Int.toNat_natCast]; omega))) (And.intro (fun q => ?_) (fun q => ?_))
          · refine hA 8 _ rfl _ _ _ _ _ ?_
            exact k9 1 hr (by rw [if_neg (by rw [beq_iff_eq]; omega)]; rfl)
          · refine hA 7 _ rfl _ _ _ _ _ ?_
            exact k9 0 hr (by rw [if_pos (by rw [beq_iff_eq]; omega)]; rfl)
        · have hr := b2i_0 q
          refine hA 5 _ rfl _ _ _ _ _ ?_
          refine k14 _ ?_ _
          rw [es]
          unfold rdg
          rw [hr, if_neg (by simp)]
          omega
  refine hA 0 _ rfl _ _ _ _ _ ?_
  refine Exists.intro _ (And.intro (h57) ?_)
  refine Exists.intro _ (Exists.intro _ (And.intro (a3) (And.intro (by omega) ?_)))
  refine Exists.intro _ (Exists.intro _ (And.intro (a4) (And.intro (by omega) ?_)))
  refine And.intro (And.intro (rR (by omega) (by omega)) (show ab_R (g 0 - 1) from rR (by omega) (by omega))) (And.intro (fun q => ?_) (fun q => ?_))
  · have q : (v : Int) < g 0 - 1 := q
    refine hA 2 _ rfl _ _ _ _ _ ?_
    exact loop ct.2.2.1 0 _ (by omega) (by omega)
  · have q : g 0 - 1 ≤ (v : Int) := q
    refine hA 1 _ rfl _ _ _ _ _ ?_
    rw [if_pos (by omega)]
    exact ⟨rfl, rfl⟩
end Mhelp
