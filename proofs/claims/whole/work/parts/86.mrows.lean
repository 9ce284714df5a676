-- ===== the model's calls that change something: rows =====
theorem ite_sk {α : Type} {k j : Nat} (h : k ≠ j) {A B : α} : (if k < j + 1 then A else B) = if k < j then A else B := by
  by_cases q : k < j
  · rw [if_pos q, if_pos (by omega)]
  · rw [if_neg q, if_neg (by omega)]
section Mrows
variable {σ : ab_H} {cc rows : Nat} {K : Nat → CT} {va : Nat → Nat → Nat} {R : Nat → V1} {f : Nat → Int} {n : Nat} {pl : Int} {c : C3} {t : Nat → Int} {r : Nat → Nat} {th : Int}
set_option maxRecDepth 100000 in
set_option maxHeartbeats 1000000 in
theorem m_areValues (hI : MI σ cc rows K va R f n pl c t r th) (x1 x2 x3 x4 : Int) (hx1 : ab_R x1) (hx2 : ab_R x2) (hx3 : ab_R x3) (hx4 : ab_R x4) : ab_ev 2 yX10_areValues [rf 57, .inl x1, .inl x2, .inl x3, .inl x4] σ (some (.inl (b2i (fitI K (gvn x1 x2 x3 x4) cc)))) σ := by
  have q57 := hI.h57
  have p12 := hI.t12
  have hcc := hI.hc
  refine eX10_areValues rfl (fun At hA => ?_)
  have k9 : fitI K (gvn x1 x2 x3 x4) cc = false → At 9 [some (rf 57), some (.inl x1), some (.inl x2), some (.inl x3), some (.inl x4)] [] σ 0 0 := fun h => by
    refine hA 9 _ rfl _ _ _ _ _ ?_
    refine hA 10 _ rfl _ _ _ _ _ ?_
    refine And.intro (by first | exact Or.inl rfl | exact Or.inr rfl | exact b2i_01 _) ?_
    rw [h]
    exact ⟨rfl, rfl⟩
  have k8 : fitI K (gvn x1 x2 x3 x4) (min 4 cc) = true → At 8 [some (rf 57), some (.inl x1), some (.inl x2), some (.inl x3), some (.inl x4)] [] σ 0 0 := fun h => by
    rw [show min 4 cc = cc by omega] at h
    refine hA 8 _ rfl _ _ _ _ _ ?_
    refine hA 10 _ rfl _ _ _ _ _ ?_
    refine And.intro (by first | exact Or.inl rfl | exact Or.inr rfl | exact b2i_01 _) ?_
    rw [h]
    exact ⟨rfl, rfl⟩
  have k6 : fitI K (gvn x1 x2 x3 x4) (min 3 cc) = true → At 6 [some (rf 57), some (.inl x1), some (.inl x2), some (.inl x3), some (.inl x4)] [] σ 0 0 := fun h => by
    refine hA 6 _ rfl _ _ _ _ _ ?_
    refine Exists.intro _ (And.intro (by first | assumption | exact st_s | exact st_e (by decide) (by assumption) | exact st_e (by omega) (by assumption) | exact st_e (by decide) st_s | exact st_e (by omega) st_s | exact st_e (by decide) (st_e (by decide) (by assumption)) | exact st_e (by omega) (st_e (by omega) (by assumption))) ?_)
    refine And.intro (And.intro (by first | assumption | exact b2i_R _ | exact rR (by omega) (by omega) | exact rR (by simp only [Int.toNat_natCast]; omega) (by simp only [Int.toNat_natCast]; omega)) (by first | assumption | exact b2i_R _ | exact rR (by omega) (by omega) | exact rR (by simp only [Int.toNat_natCast]; omega) (by simp only [Int.toNat_natCast]; omega))) (And.intro (fun q => ?_) (fun q => ?_))
    · have e : min 4 cc = min 3 cc := by omega
      exact k8 (by rw [e]; exact h)
    · obtain ⟨a1, a2, a3, g, a4, a5, a6, a7, a8⟩ := hI.k (k := 3) (by omega)
      obtain ⟨o1, o2, o3, o4, o5, -⟩ := a2
      have hm := m_in (σ := σ) x4 0 (g 0 - 1) hx4 (rR (by omega) (by omega)) (rR (by omega) (by omega))
      have e : min 4 cc = 3 + 1 := by omega
      have e2 : min 3 cc = 3 := by omega
      refine hA 7 _ rfl _ _ _ _ _ ?_
      refine Exists.intro _ (And.intro (q57) ?_)
      refine Exists.intro _ (Exists.intro _ (And.intro (a3) (And.intro (by omega) ?_)))
      refine Exists.intro _ (Exists.intro _ (And.intro (a4) (And.intro (by omega) ?_)))
      refine And.intro rfl (ab_inv_ev hm (by first | decide | omega) (by first | exact Nat.le_refl _ | omega) (by first | exact Nat.le_refl _ | omega) ?_)
      refine And.intro (b2i_R _) (And.intro (fun q => ?_) (fun q => ?_))
      · have q2 := of_decide_eq_false (b2i_0 q)
        exact k9 (fitI_no (c := 3) (v := (gvn x1 x2 x3 x4)) (fun hq => q2 (by
          have h1 : 0 ≤ x4 ∧ x4 < (K 3).2.1 := hq
          omega)) cc (by omega))
      · have q2 := of_decide_eq_true (b2i_1 q)
        refine k8 ?_
        rw [e]
        rw [e2] at h
        have e3 : fitI K (gvn x1 x2 x3 x4) (3 + 1) = (fitI K (gvn x1 x2 x3 x4) 3 && (decide (0 ≤ x4) && decide (x4 < (K 3).2.1))) := rfl
        rw [e3, h, decide_eq_true q2.1, decide_eq_true (show x4 < ((K 3).2.1 : Int) by omega)]
        rfl
  have k4 : fitI K (gvn x1 x2 x3 x4) (min 2 cc) = true → At 4 [some (rf 57), some (.inl x1), some (.inl x2), some (.inl x3), some (.inl x4)] [] σ 0 0 := fun h => by
    refine hA 4 _ rfl _ _ _ _ _ ?_
    refine Exists.intro _ (And.intro (by first | assumption | exact st_s | exact st_e (by decide) (by assumption) | exact st_e (by omega) (by assumption) | exact st_e (by decide) st_s | exact st_e (by omega) st_s | exact st_e (by decide) (st_e (by decide) (by assumption)) | exact st_e (by omega) (st_e (by omega) (by assumption))) ?_)
    refine And.intro (And.intro (by first | assumption | exact b2i_R _ | exact rR (by omega) (by omega) | exact rR (by simp only [Int.toNat_natCast]; omega) (by simp only [Int.toNat_natCast]; omega)) (by first | assumption | exact b2i_R _ | exact rR (by omega) (by omega) | exact rR (by simp only [Int.toNat_natCast]; omega) (by simp only [Int.toNat_natCast]; omega))) (And.intro (fun q => ?_) (fun q => ?_))
    · have e : min 3 cc = min 2 cc := by omega
      exact k6 (by rw [e]; exact h)
    · obtain ⟨a1, a2, a3, g, a4, a5, a6, a7, a8⟩ := hI.k (k := 2) (by omega)
      obtain ⟨o1, o2, o3, o4, o5, -⟩ := a2
      have hm := m_in (σ := σ) x3 0 (g 0 - 1) hx3 (rR (by omega) (by omega)) (rR (by omega) (by omega))
      have e : min 3 cc = 2 + 1 := by omega
      have e2 : min 2 cc = 2 := by omega
      refine hA 5 _ rfl _ _ _ _ _ ?_
      refine Exists.intro _ (And.intro (q57) ?_)
      refine Exists.intro _ (Exists.intro _ (And.intro (a3) (And.intro (by omega) ?_)))
      refine Exists.intro _ (Exists.intro _ (And.intro (a4) (And.intro (by omega) ?_)))
      refine And.intro rfl (ab_inv_ev hm (by first | decide | omega) (by first | exact Nat.le_refl _ | omega) (by first | exact Nat.le_refl _ | omega) ?_)
      refine And.intro (b2i_R _) (And.intro (fun q => ?_) (fun q => ?_))
      · have q2 := of_decide_eq_false (b2i_0 q)
        exact k9 (fitI_no (c := 2) (v := (gvn x1 x2 x3 x4)) (fun hq => q2 (by
          have h1 : 0 ≤ x3 ∧ x3 < (K 2).2.1 := hq
          omega)) cc (by omega))
      · have q2 := of_decide_eq_true (b2i_1 q)
        refine k6 ?_
        rw [e]
        rw [e2] at h
        have e3 : fitI K (gvn x1 x2 x3 x4) (2 + 1) = (fitI K (gvn x1 x2 x3 x4) 2 && (decide (0 ≤ x3) && decide (x3 < (K 2).2.1))) := rfl
        rw [e3, h, decide_eq_true q2.1, decide_eq_true (show x3 < ((K 2).2.1 : Int) by omega)]
        rfl
  have k2 : fitI K (gvn x1 x2 x3 x4) (min 1 cc) = true → At 2 [some (rf 57), some (.inl x1), some (.inl x2), some (.inl x3), some (.inl x4)] [] σ 0 0 := fun h => by
    refine hA 2 _ rfl _ _ _ _ _ ?_
    refine Exists.intro _ (And.intro (by first | assumption | exact st_s | exact st_e (by decide) (by assumption) | exact st_e (by omega) (by assumption) | exact st_e (by decide) st_s | exact st_e (by omega) st_s | exact st_e (by decide) (st_e (by decide) (by assumption)) | exact st_e (by omega) (st_e (by omega) (by assumption))) ?_)
    refine And.intro (And.intro (by first | assumption | exact b2i_R _ | exact rR (by omega) (by omega) | exact rR (by simp only [Int.toNat_natCast]; omega) (by simp only [Int.toNat_natCast]; omega)) (by first | assumption | exact b2i_R _ | exact rR (by omega) (by omega) | exact rR (by simp only [Int.toNat_natCast]; omega) (by simp only [Int.toNat_natCast]; omega))) (And.intro (fun q => ?_) (fun q => ?_))
    · have e : min 2 cc = min 1 cc := by omega
      exact k4 (by rw [e]; exact h)
    · obtain ⟨a1, a2, a3, g, a4, a5, a6, a7, a8⟩ := hI.k (k := 1) (by omega)
      obtain ⟨o1, o2, o3, o4, o5, -⟩ := a2
      have hm := m_in (σ := σ) x2 0 (g 0 - 1) hx2 (rR (by omega) (by omega)) (rR (by omega) (by omega))
      have e : min 2 cc = 1 + 1 := by omega
      have e2 : min 1 cc = 1 := by omega
      refine hA 3 _ rfl _ _ _ _ _ ?_
      refine Exists.intro _ (And.intro (q57) ?_)
      refine Exists.intro _ (Exists.intro _ (And.intro (a3) (And.intro (by omega) ?_)))
      refine Exists.intro _ (Exists.intro _ (And.intro (a4) (And.intro (by omega) ?_)))
      refine And.intro rfl (ab_inv_ev hm (by first | decide | omega) (by first | exact Nat.le_refl _ | omega) (by first | exact Nat.le_refl _ | omega) ?_)
      refine And.intro (b2i_R _) (And.intro (fun q => ?_) (fun q => ?_))
      · have q2 := of_decide_eq_false (b2i_0 q)
        exact k9 (fitI_no (c := 1) (v := (gvn x1 x2 x3 x4)) (fun hq => q2 (by
          have h1 : 0 ≤ x2 ∧ x2 < (K 1).2.1 := hq
          omega)) cc (by omega))
      · have q2 := of_decide_eq_true (b2i_1 q)
        refine k4 ?_
        rw [e]
        rw [e2] at h
        have e3 : fitI K (gvn x1 x2 x3 x4) (1 + 1) = (fitI K (gvn x1 x2 x3 x4) 1 && (decide (0 ≤ x2) && decide (x2 < (K 1).2.1))) := rfl
        rw [e3, h, decide_eq_true q2.1, decide_eq_true (show x2 < ((K 1).2.1 : Int) by omega)]
        rfl
  have k0 : fitI K (gvn x1 x2 x3 x4) (min 0 cc) = true → At 0 [some (rf 57), some (.inl x1), some (.inl x2), some (.inl x3), some (.inl x4)] [] σ 0 0 := fun h => by
    refine hA 0 _ rfl _ _ _ _ _ ?_
    refine Exists.intro _ (And.intro (by first | assumption | exact st_s | exact st_e (by decide) (by assumption) | exact st_e (by omega) (by assumption) | exact st_e (by decide) st_s | exact st_e (by omega) st_s | exact st_e (by decide) (st_e (by decide) (by assumption)) | exact st_e (by omega) (st_e (by omega) (by assumption))) ?_)
    refine And.intro (And.intro (by first | assumption | exact b2i_R _ | exact rR (by omega) (by omega) | exact rR (by simp only [Int.toNat_natCast]; omega) (by simp only [Int.toNat_natCast]; omega)) (by first | assumption | exact b2i_R _ | exact rR (by omega) (by omega) | exact rR (by simp only [Int.toNat_natCast]; omega) (by simp only [Int.toNat_natCast]; omega))) (And.intro (fun q => ?_) (fun q => ?_))
    · have e : min 1 cc = min 0 cc := by omega
      exact k2 (by rw [e]; exact h)
    · obtain ⟨a1, a2, a3, g, a4, a5, a6, a7, a8⟩ := hI.k (k := 0) (by omega)
      obtain ⟨o1, o2, o3, o4, o5, -⟩ := a2
      have hm := m_in (σ := σ) x1 0 (g 0 - 1) hx1 (rR (by omega) (by omega)) (rR (by omega) (by omega))
      have e : min 1 cc = 0 + 1 := by omega
      have e2 : min 0 cc = 0 := by omega
      refine hA 1 _ rfl _ _ _ _ _ ?_
      refine Exists.intro _ (And.intro (q57) ?_)
      refine Exists.intro _ (Exists.intro _ (And.intro (a3) (And.intro (by omega) ?_)))
      refine Exists.intro _ (Exists.intro _ (And.intro (a4) (And.intro (by omega) ?_)))
      refine And.intro rfl (ab_inv_ev hm (by first | decide | omega) (by first | exact Nat.le_refl _ | omega) (by first | exact Nat.le_refl _ | omega) ?_)
      refine And.intro (b2i_R _) (And.intro (fun q => ?_) (fun q => ?_))
      · have q2 := of_decide_eq_false (b2i_0 q)
        exact k9 (fitI_no (c := 0) (v := (gvn x1 x2 x3 x4)) (fun hq => q2 (by
          have h1 : 0 ≤ x1 ∧ x1 < (K 0).2.1 := hq
          omega)) cc (by omega))
      · have q2 := of_decide_eq_true (b2i_1 q)
        refine k2 ?_
        rw [e]
        rw [e2] at h
        have e3 : fitI K (gvn x1 x2 x3 x4) (0 + 1) = (fitI K (gvn x1 x2 x3 x4) 0 && (decide (0 ≤ x1) && decide (x1 < (K 0).2.1))) := rfl
        rw [e3, h, decide_eq_true q2.1, decide_eq_true (show x1 < ((K 0).2.1 : Int) by omega)]
        rfl
  exact k0 rfl
/-- a row more -/
theorem MI.row (hI : MI σ cc rows K va R f n pl c t r th) {v : Nat → Int} (hv : ∀ k, k < cc → 0 ≤ v k ∧ v k < (K k).2.1) (hrow : rows < 1500) {va' : Nat → Nat → Nat} {lv' : V1} (hva : ∀ k, k < cc → ∀ x, va' k x = if x = rows then (v k).toNat else va k x) (hlv : ∀ i, lv' i < 32768) (hlb : ∀ x, bit lv' x = (decide (x = rows) || bit (R 6) x)) {w : Nat → Nat → Int} {gn : Nat → Int} (h67 : ∀ k, k < 4 → σ.2 (67 + k) = some (iar 1500 (w k))) (h71 : σ.2 71 = some (.inr (.inl (1, 1500, gn)))) {τ : ab_H} (hf : fr (fun a => a = 57 ∨ (67 ≤ a ∧ a ≤ 71)) σ τ) (t57 : τ.2 57 = some (m10 (ab_up t 13 (t 13 + 1)))) (t67 : ∀ k, k < 4 → τ.2 (67 + k) = some (iar 1500 (ab_up (w k) rows (v k)))) (t71 : τ.2 71 = some (.inr (.inl (1, 1500, ab_up gn rows 0)))) : MI τ cc (rows + 1) K va' (ab_up R 6 lv') f n pl c (ab_up t 13 (t 13 + 1)) r th := by
  obtain ⟨⟨w1, w2, w3, w4, w5, w6⟩, s, co, v0, gn0, ⟨k1, k2, k3, ⟨k4, k5⟩, ⟨g9, k6⟩, ⟨k7, k8⟩, k9, ⟨l1, l2⟩, l3, l4⟩, ⟨f0, f1, f2, f3, f4, f5, f6, f7⟩, fk, fw, fg⟩ := hI
  have e : ∀ a, a ≠ 57 → (a < 67 ∨ 71 < a) → τ.2 a = σ.2 a := fun a h1 h2 => hf.2 a (by omega)
  have hw0 : ∀ k, k < 4 → v0 k = w k := fun k hk => by
    have h1 := (k8 k hk).symm.trans (h67 k hk)
    injection h1 with h1
    injection h1 with h1
    injection h1 with h1
    injection h1 with h2 h1
    injection h1
  have hg0 : gn0 = gn := by
    have h1 := k9.symm.trans h71
    injection h1 with h1
    injection h1 with h1
    injection h1 with h1
    injection h1 with h2 h1
    injection h1
  have hup : ∀ j, j ≠ 13 → ab_up t 13 (t 13 + 1) j = t j := fun j hj => ab_up_n hj
  refine ⟨⟨w1, by omega, fun k hk => ⟨(w3 k hk).1, fun x => ?_⟩, fun i hi => ?_, w5, w6⟩, fun a h1 h2 h3 => ?_, co, fun k => ab_up (w k) rows (v k), ab_up gn rows 0, ⟨t57, (e _ (by omega) (by omega)).trans k2, (e _ (by omega) (by omega)).trans k3, ⟨(e _ (by omega) (by omega)).trans k4, fun c hc => (e _ (by omega) (by omega)).trans (k5 c hc)⟩, ⟨g9, (e _ (by omega) (by omega)).trans k6⟩, ⟨(e _ (by omega) (by omega)).trans k7, t67⟩, t71, ⟨(e _ (by omega) (by omega)).trans l1, fun i hi => ?_⟩, (e _ (by omega) (by omega)).trans l3, (e _ (by omega) (by omega)).trans l4⟩, ⟨(hup _ (by omega)).trans f0, (hup _ (by omega)).trans f1, (hup _ (by omega)).trans f2, (hup _ (by omega)).trans f3, ?_, (hup _ (by omega)).trans f5, (hup _ (by omega)).trans f6, (hup _ (by omega)).trans f7⟩, fk, fun k hk x hx => ?_, fun x hx => ?_⟩
  · rw [hva k hk]
    have := hv k hk
    have ho := (w3 k hk).1
    have := (w3 k hk).2 x
    obtain ⟨o1, o2, o3, o4, o5, -⟩ := ho
    split <;> omega
  · by_cases h6 : i = 6
    · subst h6
      rw [ab_up_s]
      refine ⟨hlv, fun x hx => ?_⟩
      rw [hlb, decide_eq_false (by omega), (w4 6 hi).2 x (by omega)]
      rfl
    · rw [ab_up_n h6]
      exact ⟨(w4 i hi).1, fun x hx => (w4 i hi).2 x (by omega)⟩
  · obtain ⟨x, x1, x2⟩ := s a h1 h2 h3
    exact ⟨x, (e a (by omega) (by omega)).trans x1, x2⟩
  · rw [ab_up_n (by omega)]; exact (e _ (by omega) (by omega)).trans (l2 i hi)
  · rw [ab_up_s, f4]; rfl
  · dsimp only
    rw [hva k hk]
    have hvk := hv k hk
    by_cases h : x = rows
    · rw [h, ab_up_s, if_pos rfl]; omega
    · rw [ab_up_n h, if_neg h, ← hw0 k (by omega)]; exact fw k hk x (by omega)
  · rw [ab_up_s (f := R), hlb]
    by_cases h : x = rows
    · rw [h, ab_up_s, decide_eq_true rfl]; rfl
    · rw [ab_up_n h, decide_eq_false h, ← hg0]; exact fg x (by omega)
set_option maxRecDepth 100000 in
set_option maxHeartbeats 1000000 in
theorem m_adds (hI : MI σ cc rows K va R f n pl c t r th) (x1 x2 x3 x4 : Int) (hv : ∀ k, k < cc → 0 ≤ gvn x1 x2 x3 x4 k ∧ gvn x1 x2 x3 x4 k < (K k).2.1) (hrow : rows < 1500) {va' : Nat → Nat → Nat} {lv' : V1} (hva : ∀ k, k < cc → ∀ x, va' k x = if x = rows then (gvn x1 x2 x3 x4 k).toNat else va k x) (hlv : ∀ i, lv' i < 32768) (hlb : ∀ x, bit lv' x = (decide (x = rows) || bit (R 6) x)) : ab_call 1 0 0 yX10_adds [rf 57, .inl x1, .inl x2, .inl x3, .inl x4] σ (fun z σ' => z = .inl none ∧ fr mA σ σ' ∧ ∃ t', MI σ' cc (rows + 1) K va' (ab_up R 6 lv') f n pl c t' r th) := by
  have q57 := hI.h57
  have p13 := hI.t13
  have hmi := fun (w : Nat → Nat → Int) (gn : Nat → Int) => hI.row (v := gvn x1 x2 x3 x4) hv hrow hva hlv hlb (w := w) (gn := gn)
  obtain ⟨w, gn, h66, h67, h71⟩ : ∃ (w : Nat → Nat → Int) (gn : Nat → Int), σ.2 66 = some (rfs 67 4) ∧ (∀ k, k < 4 → σ.2 (67 + k) = some (iar 1500 (w k))) ∧ σ.2 71 = some (.inr (.inl (1, 1500, gn))) := by
    obtain ⟨-, -, co, w, gn, ⟨-, -, -, -, -, ⟨k7, k8⟩, k9, -⟩, -⟩ := hI
    exact ⟨w, gn, k7, k8, k9⟩
  have hmi := fun (τ : ab_H) => hmi w gn h67 h71 (τ := τ)
  have h670 := h67 0 (by omega)
  have h671 := h67 1 (by omega)
  have h672 := h67 2 (by omega)
  have h673 := h67 3 (by omega)
  have eR : (t 13).toNat = rows := by omega
  refine eX10_adds rfl (fun At hA => ?_)
  let s1 : ab_H := ab_st σ 67 (iar 1500 (ab_up (w 0) rows x1))
  let s2 : ab_H := ab_st s1 68 (iar 1500 (ab_up (w 1) rows x2))
  let s3 : ab_H := ab_st s2 69 (iar 1500 (ab_up (w 2) rows x3))
  let s4 : ab_H := ab_st s3 70 (iar 1500 (ab_up (w 3) rows x4))
  let s5 : ab_H := ab_st s4 71 (.inr (.inl (1, 1500, ab_up gn rows 0)))
  have a57 : s1.2 57 = some (m10 t) := st_e (by omega) q57
  have b57 : s2.2 57 = some (m10 t) := st_e (by omega) a57
  have c57 : s3.2 57 = some (m10 t) := st_e (by omega) b57
  have d57 : s4.2 57 = some (m10 t) := st_e (by omega) c57
  have e57 : s5.2 57 = some (m10 t) := st_e (by omega) d57
  have a66 : s1.2 66 = some (rfs 67 4) := st_e (by omega) h66
  have b66 : s2.2 66 = some (rfs 67 4) := st_e (by omega) a66
  have c66 : s3.2 66 = some (rfs 67 4) := st_e (by omega) b66
  have a68 : s1.2 68 = some (iar 1500 (w 1)) := st_e (by omega) h671
  have b69 : s2.2 69 = some (iar 1500 (w 2)) := st_e (by omega) (st_e (by omega) h672)
  have c70 : s3.2 70 = some (iar 1500 (w 3)) := st_e (by omega) (st_e (by omega) (st_e (by omega) h673))
  have d71 : s4.2 71 = some (.inr (.inl (1, 1500, gn))) := st_e (by omega) (st_e (by omega) (st_e (by omega) (st_e (by omega) h71)))
  have hff : fr (fun a => a = 57 ∨ (67 ≤ a ∧ a ≤ 71)) σ (ab_st s5 57 (m10 (ab_up t 13 (t 13 + 1)))) := ((((((fr_rf _ _).st (by omega)).st (by omega)).st (by omega)).st (by omega)).st (by omega)).st (by omega)
  have hend := hmi _ hff st_s (fun k hk => by
    rcases (show k = 0 ∨ k = 1 ∨ k = 2 ∨ k = 3 by omega) with rfl | rfl | rfl | rfl
    · exact st_e (by omega) (st_e (by omega) (st_e (by omega) (st_e (by omega) (st_e (by omega) st_s))))
    · exact st_e (by omega) (st_e (by omega) (st_e (by omega) (st_e (by omega) st_s)))
    · exact st_e (by omega) (st_e (by omega) (st_e (by omega) st_s))
    · exact st_e (by omega) (st_e (by omega) st_s)) (st_e (by omega) st_s)
  refine hA 0 _ rfl _ _ _ _ _ ?_
  refine Exists.intro _ (And.intro (q57) ?_)
  refine Exists.intro _ (Exists.intro _ (And.intro (h66) (And.intro (by omega) ?_)))
  refine Exists.intro _ (And.intro (q57) ?_)
  refine Exists.intro _ (Exists.intro _ (And.intro (h670) (And.intro (by omega) ?_)))
  rw [eR]
  refine Exists.intro _ (And.intro (a57) ?_)
  refine Exists.intro _ (Exists.intro _ (And.intro (a66) (And.intro (by omega) ?_)))
  refine Exists.intro _ (And.intro (a57) ?_)
  refine Exists.intro _ (Exists.intro _ (And.intro (a68) (And.intro (by omega) ?_)))
  rw [eR]
  refine Exists.intro _ (And.intro (b57) ?_)
  refine Exists.intro _ (Exists.intro _ (And.intro (b66) (And.intro (by omega) ?_)))
  refine Exists.intro _ (And.intro (b57) ?_)
  refine Exists.intro _ (Exists.intro _ (And.intro (b69) (And.intro (by omega) ?_)))
  rw [eR]
  refine Exists.intro _ (And.intro (c57) ?_)
  refine Exists.intro _ (Exists.intro _ (And.intro (c66) (And.intro (by omega) ?_)))
  refine Exists.intro _ (And.intro (c57) ?_)
  refine Exists.intro _ (Exists.intro _ (And.intro (c70) (And.intro (by omega) ?_)))
  rw [eR]
  refine Exists.intro _ (And.intro (d57) ?_)
  refine Exists.intro _ (And.intro (d57) ?_)
  refine Exists.intro _ (Exists.intro _ (And.intro d71 (And.intro (by omega) (And.intro (Or.inl rfl) ?_))))
  rw [eR]
  refine Exists.intro _ (And.intro (e57) ?_)
  refine Exists.intro _ (And.intro (e57) ?_)
  exact ⟨rfl, hff.mono (fun a ha => by unfold mA; omega), _, hend⟩
theorem lvA_s {R : Nat → V1} {rows i : Nat} (x : Nat) : bit (lvA R rows (i + 1)) x = (decide (x = rows + i) || bit (lvA R rows i) x) := by
  rw [lvA_bit, lvA_bit]
  by_cases h : x = rows + i
  · rw [decide_eq_true h, decide_eq_true (show rows ≤ x ∧ x < rows + (i + 1) by omega)]; rfl
  · rw [decide_eq_false h, Bool.false_or, show decide (rows ≤ x ∧ x < rows + (i + 1)) = decide (rows ≤ x ∧ x < rows + i) from decide_eq_decide.mpr (by omega)]
theorem vaN_s {va : Nat → Nat → Nat} {v : Nat → Int} {rows i k : Nat} (x : Nat) : vaN va v rows (rows + (i + 1)) k x = if x = rows + i then (v k).toNat else vaN va v rows (rows + i) k x := by
  unfold vaN
  by_cases h : x = rows + i
  · rw [if_pos h, if_pos (by omega)]
  · rw [if_neg h]
    by_cases h2 : rows ≤ x ∧ x < rows + i
    · rw [if_pos h2, if_pos (by omega)]
    · rw [if_neg h2, if_neg (by omega)]
theorem vaN_0 (va : Nat → Nat → Nat) (v : Nat → Int) (rows : Nat) : (fun c => vaN va v rows rows c) = va := by
  funext c x
  unfold vaN
  rw [if_neg (by omega)]
theorem lvA_0 {R : Nat → V1} {rows : Nat} (h : ∀ i, R 6 i < 32768) : ab_up R 6 (lvA R rows 0) = R := by
  funext i
  by_cases e : i = 6
  · subst e
    rw [ab_up_s]
    exact bm_ext (fun i => mk_lt _ i) h (fun x => by rw [lvA_bit, decide_eq_false (by omega)]; rfl)
  · rw [ab_up_n e]
set_option maxRecDepth 100000 in
set_option maxHeartbeats 1000000 in
theorem g_add (hI : MI σ cc rows K va R f n pl c t r th) (x1 x2 x3 x4 : Int) (hx1 : ab_R x1) (hx2 : ab_R x2) (hx3 : ab_R x3) (hx4 : ab_R x4) : ab_call 12 0 0 yX10_add [rf 57, .inl x1, .inl x2, .inl x3, .inl x4] σ (mdP σ (cc, rows, K, va, R, f, n, pl, c) r (fun i => (i : Int)) (sg_add cc rows K va R f n pl c x1 x2 x3 x4)) := by
  have q57 := hI.h57
  have hr := hI.hr
  have hcc := hI.hc
  have hgl := gu_le hr
  have hI0 := hI.uth 0
  have hf0 : fr mA σ (ab_st σ 57 (m10 (ab_up t 0 0))) := fr_st (by unfold mA; omega)
  generalize ht0 : ab_up t 0 0 = t0 at hI0 hf0
  generalize hs0 : ab_st σ 57 (m10 t0) = σ0 at hI0 hf0
  have p57 := hI0.h57
  have p58 := hI0.h58
  have p0 := hI0.t0
  have p2 := hI0.t2
  have p12 := hI0.t12
  have p13 := hI0.t13
  refine eX10_add rfl (fun At hA => ?_)
  have gK1 : (fitI K (gvn x1 x2 x3 x4) cc = true) → At 3 [some (rf 57), some (.inl x1), some (.inl x2), some (.inl x3), some (.inl x4)] [.inl 0, rf 57] σ0 0 0 := fun hP1 => by
    refine hA 3 _ rfl _ _ _ _ _ ?_
    refine Exists.intro _ (And.intro (by first | assumption | exact st_s | exact st_e (by decide) (by assumption) | exact st_e (by omega) (by assumption) | exact st_e (by decide) st_s | exact st_e (by omega) st_s | exact st_e (by decide) (st_e (by decide) (by assumption)) | exact st_e (by omega) (st_e (by omega) (by assumption))) (And.intro rfl (ab_inv_ev (m_bad0 p57 p0 1 1) (by first | decide | omega) (by first | exact Nat.le_refl _ | omega) (by first | exact Nat.le_refl _ | omega) ?_)))
    refine And.intro (by first | assumption | exact b2i_R _ | exact rR (by omega) (by omega) | exact rR (by simp only [Int.toNat_natCast]; omega) (by simp only [Int.toNat_natCast]; omega)) (And.intro (fun q => ?_) (fun q => ?_))
    · exact absurd rfl q
    · have gK2 : (rows < 1500) → At 7 [some (rf 57), some (.inl x1), some (.inl x2), some (.inl x3), some (.inl x4)] [.inl 0, rf 57] σ0 0 0 := fun hP2 => by
        refine hA 7 _ rfl _ _ _ _ _ ?_
        refine Exists.intro _ (And.intro (by first | assumption | exact st_s | exact st_e (by decide) (by assumption) | exact st_e (by omega) (by assumption) | exact st_e (by decide) st_s | exact st_e (by omega) st_s | exact st_e (by decide) (st_e (by decide) (by assumption)) | exact st_e (by omega) (st_e (by omega) (by assumption))) (And.intro rfl (ab_inv_ev (m_bad0 p57 p0 2 2) (by first | decide | omega) (by first | exact Nat.le_refl _ | omega) (by first | exact Nat.le_refl _ | omega) ?_)))
        refine And.intro (by first | assumption | exact b2i_R _ | exact rR (by omega) (by omega) | exact rR (by simp only [Int.toNat_natCast]; omega) (by simp only [Int.toNat_natCast]; omega)) (And.intro (fun q => ?_) (fun q => ?_))
        · have hfit := fitI_at cc hP1
          refine hA 9 _ rfl _ _ _ _ _ ?_
          refine Exists.intro _ (And.intro (by first | assumption | exact st_s | exact st_e (by decide) (by assumption) | exact st_e (by omega) (by assumption) | exact st_e (by decide) st_s | exact st_e (by omega) st_s | exact st_e (by decide) (st_e (by decide) (by assumption)) | exact st_e (by omega) (st_e (by omega) (by assumption))) (And.intro rfl (ab_inv_of (m_adds hI0 x1 x2 x3 x4 hfit hP2 (va' := vaN va (gvn x1 x2 x3 x4) rows (rows + 1)) (lv' := lvA R rows 1) (fun k hk x => (vaN_s (i := 0) x).trans (by rw [Nat.add_zero, show vaN va (gvn x1 x2 x3 x4) rows rows = va from vaN_0 va _ rows])) (fun i => mk_lt _ i) (fun x => (lvA_s (i := 0) x).trans (by rw [Nat.add_zero]; congr 1; rw [lvA_bit, decide_eq_false (by omega)]; rfl))) (by first | decide | omega) (by omega) (by omega) ?_)))
          intro z υ hpost
          obtain ⟨rfl, hf1, t1, hJ⟩ := hpost
          have j57 := hJ.h57
          have j13 := hJ.t13
          refine Exists.intro _ (And.intro (by first | assumption | exact st_s | exact st_e (by decide) (by assumption) | exact st_e (by omega) (by assumption) | exact st_e (by decide) st_s | exact st_e (by omega) st_s | exact st_e (by decide) (st_e (by decide) (by assumption)) | exact st_e (by omega) (st_e (by omega) (by assumption))) ?_)
          exact md_ok (by unfold sg_add stA; rw [if_pos hP1, if_pos hP2]) (by omega) (hf0.tr hf1) hJ
        · exact absurd rfl q
      have gF2 : ¬ (rows < 1500) → At 7 [some (rf 57), some (.inl x1), some (.inl x2), some (.inl x3), some (.inl x4)] [.inl 1, rf 57] σ0 0 0 := fun hP2 => by
        refine hA 7 _ rfl _ _ _ _ _ ?_
        refine Exists.intro _ (And.intro (by first | assumption | exact st_s | exact st_e (by decide) (by assumption) | exact st_e (by omega) (by assumption) | exact st_e (by decide) st_s | exact st_e (by omega) st_s | exact st_e (by decide) (st_e (by decide) (by assumption)) | exact st_e (by omega) (st_e (by omega) (by assumption))) (And.intro rfl (ab_inv_ev (m_bad1 p57 p0 p58 2 2 (by decide) (by decide) (by decide)) (by first | decide | omega) (by first | exact Nat.le_refl _ | omega) (by first | exact Nat.le_refl _ | omega) ?_)))
        refine And.intro (by first | assumption | exact b2i_R _ | exact rR (by omega) (by omega) | exact rR (by simp only [Int.toNat_natCast]; omega) (by simp only [Int.toNat_natCast]; omega)) (And.intro (fun q => ?_) (fun q => ?_))
        · exact absurd q (by decide)
        · refine hA 8 _ rfl _ _ _ _ _ ?_
          exact md_no (by unfold sg_add; rw [if_pos hP1, if_neg hP2] <;> rfl) hf0 hI0 rfl
      have gO2 : ¬ (rows < 1500) → At 5 [some (rf 57), some (.inl x1), some (.inl x2), some (.inl x3), some (.inl x4)] [rf 57] σ0 0 0 := fun h => by
        refine hA 5 _ rfl _ _ _ _ _ ?_
        exact gF2 h
      have gZ2 : (rows < 1500) → At 6 [some (rf 57), some (.inl x1), some (.inl x2), some (.inl x3), some (.inl x4)] [rf 57] σ0 0 0 := fun h => by
        refine hA 6 _ rfl _ _ _ _ _ ?_
        exact gK2 h
      refine hA 4 _ rfl _ _ _ _ _ ?_
      refine Exists.intro _ (And.intro (by first | assumption | exact st_s | exact st_e (by decide) (by assumption) | exact st_e (by omega) (by assumption) | exact st_e (by decide) st_s | exact st_e (by omega) st_s | exact st_e (by decide) (st_e (by decide) (by assumption)) | exact st_e (by omega) (st_e (by omega) (by assumption))) ?_)
      refine And.intro (And.intro (by first | assumption | exact b2i_R _ | exact rR (by omega) (by omega) | exact rR (by simp only [Int.toNat_natCast]; omega) (by simp only [Int.toNat_natCast]; omega)) (by first | assumption | exact b2i_R _ | exact rR (by omega) (by omega) | exact rR (by simp only [Int.toNat_natCast]; omega) (by simp only [Int.toNat_natCast]; omega))) (And.intro (fun q => ?_) (fun q => ?_))
      · exact gZ2 (by omega)
      · exact gO2 (by omega)
  have gF1 : ¬ (fitI K (gvn x1 x2 x3 x4) cc = true) → At 3 [some (rf 57), some (.inl x1), some (.inl x2), some (.inl x3), some (.inl x4)] [.inl 1, rf 57] σ0 0 0 := fun hP1 => by
    refine hA 3 _ rfl _ _ _ _ _ ?_
    refine Exists.intro _ (And.intro (by first | assumption | exact st_s | exact st_e (by decide) (by assumption) | exact st_e (by omega) (by assumption) | exact st_e (by decide) st_s | exact st_e (by omega) st_s | exact st_e (by decide) (st_e (by decide) (by assumption)) | exact st_e (by omega) (st_e (by omega) (by assumption))) (And.intro rfl (ab_inv_ev (m_bad1 p57 p0 p58 1 1 (by decide) (by decide) (by decide)) (by first | decide | omega) (by first | exact Nat.le_refl _ | omega) (by first | exact Nat.le_refl _ | omega) ?_)))
    refine And.intro (by first | assumption | exact b2i_R _ | exact rR (by omega) (by omega) | exact rR (by simp only [Int.toNat_natCast]; omega) (by simp only [Int.toNat_natCast]; omega)) (And.intro (fun q => ?_) (fun q => ?_))
    · refine hA 8 _ rfl _ _ _ _ _ ?_
      exact md_no (by unfold sg_add; rw [if_neg hP1] <;> rfl) hf0 hI0 rfl
    · exact absurd q (by decide)
  have gO1 : ¬ (fitI K (gvn x1 x2 x3 x4) cc = true) → At 1 [some (rf 57), some (.inl x1), some (.inl x2), some (.inl x3), some (.inl x4)] [rf 57] σ0 0 0 := fun h => by
    refine hA 1 _ rfl _ _ _ _ _ ?_
    exact gF1 h
  have gZ1 : (fitI K (gvn x1 x2 x3 x4) cc = true) → At 2 [some (rf 57), some (.inl x1), some (.inl x2), some (.inl x3), some (.inl x4)] [rf 57] σ0 0 0 := fun h => by
    refine hA 2 _ rfl _ _ _ _ _ ?_
    exact gK1 h
  refine hA 0 _ rfl _ _ _ _ _ ?_
  refine Exists.intro _ (And.intro (q57) ?_)
  rw [m10_s0, ht0, hs0]
  refine Exists.intro _ (And.intro (by first | assumption | exact st_s | exact st_e (by decide) (by assumption) | exact st_e (by omega) (by assumption) | exact st_e (by decide) st_s | exact st_e (by omega) st_s | exact st_e (by decide) (st_e (by decide) (by assumption)) | exact st_e (by omega) (st_e (by omega) (by assumption))) (And.intro rfl (ab_inv_ev (m_areValues hI0 x1 x2 x3 x4 hx1 hx2 hx3 hx4) (by first | decide | omega) (by first | exact Nat.le_refl _ | omega) (by first | exact Nat.le_refl _ | omega) ?_)))
  refine And.intro (by first | assumption | exact b2i_R _ | exact rR (by omega) (by omega) | exact rR (by simp only [Int.toNat_natCast]; omega) (by simp only [Int.toNat_natCast]; omega)) (And.intro (fun q => ?_) (fun q => ?_))
  · have q1 := b2i_1 q
    exact gZ1 (q1)
  · exact gO1 (by rw [b2i_0 q]; exact Bool.false_ne_true)
set_option maxRecDepth 100000 in
set_option maxHeartbeats 1000000 in
theorem g_many (hI : MI σ cc rows K va R f n pl c t r th) (mm x1 x2 x3 x4 : Int) (hmm : ab_R mm) (hx1 : ab_R x1) (hx2 : ab_R x2) (hx3 : ab_R x3) (hx4 : ab_R x4) : ab_call 12 0 0 yX10_many_ [rf 57, .inl mm, .inl x1, .inl x2, .inl x3, .inl x4] σ (mdP σ (cc, rows, K, va, R, f, n, pl, c) r (fun i => (i : Int)) (sg_many cc rows K va R f n pl c mm x1 x2 x3 x4)) := by
  have q57 := hI.h57
  have hr := hI.hr
  have hcc := hI.hc
  have hgl := gu_le hr
  have hI0 := hI.uth 0
  have hf0 : fr mA σ (ab_st σ 57 (m10 (ab_up t 0 0))) := fr_st (by unfold mA; omega)
  generalize ht0 : ab_up t 0 0 = t0 at hI0 hf0
  generalize hs0 : ab_st σ 57 (m10 t0) = σ0 at hI0 hf0
  have p57 := hI0.h57
  have p58 := hI0.h58
  have p0 := hI0.t0
  have p2 := hI0.t2
  have p12 := hI0.t12
  have p13 := hI0.t13
  refine eX10_many_ rfl (fun At hA => ?_)
  have gK1 : ((1 ≤ mm ∧ mm ≤ 400) ∧ fitI K (gvn x1 x2 x3 x4) cc = true) → At 4 [some (rf 57), some (.inl mm), some (.inl x1), some (.inl x2), some (.inl x3), some (.inl x4), none] [.inl 0, rf 57] σ0 0 0 := fun hP1 => by
    refine hA 4 _ rfl _ _ _ _ _ ?_
    refine Exists.intro _ (And.intro (by first | assumption | exact st_s | exact st_e (by decide) (by assumption) | exact st_e (by omega) (by assumption) | exact st_e (by decide) st_s | exact st_e (by omega) st_s | exact st_e (by decide) (st_e (by decide) (by assumption)) | exact st_e (by omega) (st_e (by omega) (by assumption))) (And.intro rfl (ab_inv_ev (m_bad0 p57 p0 1 1) (by first | decide | omega) (by first | exact Nat.le_refl _ | omega) (by first | exact Nat.le_refl _ | omega) ?_)))
    refine And.intro (by first | assumption | exact b2i_R _ | exact rR (by omega) (by omega) | exact rR (by simp only [Int.toNat_natCast]; omega) (by simp only [Int.toNat_natCast]; omega)) (And.intro (fun q => ?_) (fun q => ?_))
    · exact absurd rfl q
    · have gK2 : (rows + mm ≤ 1500) → At 8 [some (rf 57), some (.inl mm), some (.inl x1), some (.inl x2), some (.inl x3), some (.inl x4), none] [.inl 0, rf 57] σ0 0 0 := fun hP2 => by
        refine hA 8 _ rfl _ _ _ _ _ ?_
        refine Exists.intro _ (And.intro (by first | assumption | exact st_s | exact st_e (by decide) (by assumption) | exact st_e (by omega) (by assumption) | exact st_e (by decide) st_s | exact st_e (by omega) st_s | exact st_e (by decide) (st_e (by decide) (by assumption)) | exact st_e (by omega) (st_e (by omega) (by assumption))) (And.intro rfl (ab_inv_ev (m_bad0 p57 p0 2 2) (by first | decide | omega) (by first | exact Nat.le_refl _ | omega) (by first | exact Nat.le_refl _ | omega) ?_)))
        refine And.intro (by first | assumption | exact b2i_R _ | exact rR (by omega) (by omega) | exact rR (by simp only [Int.toNat_natCast]; omega) (by simp only [Int.toNat_natCast]; omega)) (And.intro (fun q => ?_) (fun q => ?_))
        · obtain ⟨mm', rfl⟩ : ∃ m : Nat, mm = (m : Int) := ⟨mm.toNat, by omega⟩
          have hfit := fitI_at cc hP1.2
          have loop : ∀ (w i : Nat) (υ : ab_H) (t1 : Nat → Int), i + w = mm' → fr mA σ υ → MI υ cc (rows + i) K (vaN va (gvn x1 x2 x3 x4) rows (rows + i)) (ab_up R 6 (lvA R rows i)) f n pl c t1 r 0 → At 11 [some (rf 57), some (.inl (mm' : Nat)), some (.inl x1), some (.inl x2), some (.inl x3), some (.inl x4), some (.inl i)] [] υ 0 0 := by
            intro w
            induction w with
            | zero =>
              intro i υ t1 hi hf hJ
              have hi : i = mm' := by omega
              subst hi
              have j57 := hJ.h57
              have j13 := hJ.t13
              refine hA 11 _ rfl _ _ _ _ _ ?_
              refine And.intro (And.intro (by first | assumption | exact b2i_R _ | exact rR (by omega) (by omega) | exact rR (by simp only [Int.toNat_natCast]; omega) (by simp only [Int.toNat_natCast]; omega)) (by first | assumption | exact b2i_R _ | exact rR (by omega) (by omega) | exact rR (by simp only [Int.toNat_natCast]; omega) (by simp only [Int.toNat_natCast]; omega))) (And.intro (fun q => ?_) (fun q => ?_))
              · refine hA 13 _ rfl _ _ _ _ _ ?_
                refine Exists.intro _ (And.intro (by first | assumption | exact st_s | exact st_e (by decide) (by assumption) | exact st_e (by omega) (by assumption) | exact st_e (by decide) st_s | exact st_e (by omega) st_s | exact st_e (by decide) (st_e (by decide) (by assumption)) | exact st_e (by omega) (st_e (by omega) (by assumption))) ?_)
                exact md_ok (by unfold sg_many stA; rw [if_pos hP1, if_pos hP2] <;> rfl) (by omega) hf hJ
              · omega
            | succ w ih =>
              intro i υ t1 hi hf hJ
              have j57 := hJ.h57
              refine hA 11 _ rfl _ _ _ _ _ ?_
              refine And.intro (And.intro (by first | assumption | exact b2i_R _ | exact rR (by omega) (by omega) | exact rR (by simp only [Int.toNat_natCast]; omega) (by simp only [Int.toNat_natCast]; omega)) (by first | assumption | exact b2i_R _ | exact rR (by omega) (by omega) | exact rR (by simp only [Int.toNat_natCast]; omega) (by simp only [Int.toNat_natCast]; omega))) (And.intro (fun q => ?_) (fun q => ?_))
              · omega
              · refine hA 12 _ rfl _ _ _ _ _ ?_
                refine Exists.intro _ (And.intro (by first | assumption | exact st_s | exact st_e (by decide) (by assumption) | exact st_e (by omega) (by assumption) | exact st_e (by decide) st_s | exact st_e (by omega) st_s | exact st_e (by decide) (st_e (by decide) (by assumption)) | exact st_e (by omega) (st_e (by omega) (by assumption))) (And.intro rfl (ab_inv_of (m_adds hJ x1 x2 x3 x4 hfit (by omega) (va' := vaN va (gvn x1 x2 x3 x4) rows (rows + (i + 1))) (lv' := lvA R rows (i + 1)) (fun k hk x => vaN_s x) (fun i => mk_lt _ i) (fun x => by rw [ab_up_s]; exact lvA_s x)) (by first | decide | omega) (by omega) (by omega) ?_)))
                intro z υ2 hpost
                obtain ⟨rfl, hf1, t2, hJ2⟩ := hpost
                have eR : ab_up (ab_up R 6 (lvA R rows i)) 6 (lvA R rows (i + 1)) = ab_up R 6 (lvA R rows (i + 1)) := up_up _ _ _ _
                rw [eR] at hJ2
                have ihi := ih (i + 1) υ2 t2 (by omega) (hf.tr hf1) hJ2
                
                exact ihi
          have hl6 := hI0.hR (i := 6) (by omega)
          have l0 := loop mm' 0 σ0 t0 (by omega) hf0 (by
            rw [Nat.add_zero, lvA_0 hl6.1, show vaN va (gvn x1 x2 x3 x4) rows rows = va from vaN_0 va _ rows]
            exact hI0)
          refine hA 10 _ rfl _ _ _ _ _ ?_
          exact l0
        · exact absurd rfl q
      have gF2 : ¬ (rows + mm ≤ 1500) → At 8 [some (rf 57), some (.inl mm), some (.inl x1), some (.inl x2), some (.inl x3), some (.inl x4), none] [.inl 1, rf 57] σ0 0 0 := fun hP2 => by
        refine hA 8 _ rfl _ _ _ _ _ ?_
        refine Exists.intro _ (And.intro (by first | assumption | exact st_s | exact st_e (by decide) (by assumption) | exact st_e (by omega) (by assumption) | exact st_e (by decide) st_s | exact st_e (by omega) st_s | exact st_e (by decide) (st_e (by decide) (by assumption)) | exact st_e (by omega) (st_e (by omega) (by assumption))) (And.intro rfl (ab_inv_ev (m_bad1 p57 p0 p58 2 2 (by decide) (by decide) (by decide)) (by first | decide | omega) (by first | exact Nat.le_refl _ | omega) (by first | exact Nat.le_refl _ | omega) ?_)))
        refine And.intro (by first | assumption | exact b2i_R _ | exact rR (by omega) (by omega) | exact rR (by simp only [Int.toNat_natCast]; omega) (by simp only [Int.toNat_natCast]; omega)) (And.intro (fun q => ?_) (fun q => ?_))
        · exact absurd q (by decide)
        · refine hA 9 _ rfl _ _ _ _ _ ?_
          exact md_no (by unfold sg_many; rw [if_pos hP1, if_neg hP2] <;> rfl) hf0 hI0 rfl
      have gO2 : ¬ (rows + mm ≤ 1500) → At 6 [some (rf 57), some (.inl mm), some (.inl x1), some (.inl x2), some (.inl x3), some (.inl x4), none] [rf 57] σ0 0 0 := fun h => by
        refine hA 6 _ rfl _ _ _ _ _ ?_
        exact gF2 h
      have gZ2 : (rows + mm ≤ 1500) → At 7 [some (rf 57), some (.inl mm), some (.inl x1), some (.inl x2), some (.inl x3), some (.inl x4), none] [rf 57] σ0 0 0 := fun h => by
        refine hA 7 _ rfl _ _ _ _ _ ?_
        exact gK2 h
      refine hA 5 _ rfl _ _ _ _ _ ?_
      refine Exists.intro _ (And.intro (by first | assumption | exact st_s | exact st_e (by decide) (by assumption) | exact st_e (by omega) (by assumption) | exact st_e (by decide) st_s | exact st_e (by omega) st_s | exact st_e (by decide) (st_e (by decide) (by assumption)) | exact st_e (by omega) (st_e (by omega) (by assumption))) ?_)
      refine And.intro (And.intro (by first | assumption | exact b2i_R _ | exact rR (by omega) (by omega) | exact rR (by simp only [Int.toNat_natCast]; omega) (by simp only [Int.toNat_natCast]; omega)) (by first | assumption | exact b2i_R _ | exact rR (by omega) (by omega) | exact rR (by simp only [Int.toNat_natCast]; omega) (by simp only [Int.toNat_natCast]; omega))) (And.intro (fun q => ?_) (fun q => ?_))
      · exact gZ2 (by omega)
      · exact gO2 (by omega)
  have gF1 : ¬ ((1 ≤ mm ∧ mm ≤ 400) ∧ fitI K (gvn x1 x2 x3 x4) cc = true) → At 4 [some (rf 57), some (.inl mm), some (.inl x1), some (.inl x2), some (.inl x3), some (.inl x4), none] [.inl 1, rf 57] σ0 0 0 := fun hP1 => by
    refine hA 4 _ rfl _ _ _ _ _ ?_
    refine Exists.intro _ (And.intro (by first | assumption | exact st_s | exact st_e (by decide) (by assumption) | exact st_e (by omega) (by assumption) | exact st_e (by decide) st_s | exact st_e (by omega) st_s | exact st_e (by decide) (st_e (by decide) (by assumption)) | exact st_e (by omega) (st_e (by omega) (by assumption))) (And.intro rfl (ab_inv_ev (m_bad1 p57 p0 p58 1 1 (by decide) (by decide) (by decide)) (by first | decide | omega) (by first | exact Nat.le_refl _ | omega) (by first | exact Nat.le_refl _ | omega) ?_)))
    refine And.intro (by first | assumption | exact b2i_R _ | exact rR (by omega) (by omega) | exact rR (by simp only [Int.toNat_natCast]; omega) (by simp only [Int.toNat_natCast]; omega)) (And.intro (fun q => ?_) (fun q => ?_))
    · refine hA 9 _ rfl _ _ _ _ _ ?_
      exact md_no (by unfold sg_many; rw [if_neg hP1] <;> rfl) hf0 hI0 rfl
    · exact absurd q (by decide)
  have gO1 : ¬ ((1 ≤ mm ∧ mm ≤ 400) ∧ fitI K (gvn x1 x2 x3 x4) cc = true) → At 2 [some (rf 57), some (.inl mm), some (.inl x1), some (.inl x2), some (.inl x3), some (.inl x4), none] [rf 57] σ0 0 0 := fun h => by
    refine hA 2 _ rfl _ _ _ _ _ ?_
    exact gF1 h
  have gZ1 : ((1 ≤ mm ∧ mm ≤ 400) ∧ fitI K (gvn x1 x2 x3 x4) cc = true) → At 3 [some (rf 57), some (.inl mm), some (.inl x1), some (.inl x2), some (.inl x3), some (.inl x4), none] [rf 57] σ0 0 0 := fun h => by
    refine hA 3 _ rfl _ _ _ _ _ ?_
    exact gK1 h
  refine hA 0 _ rfl _ _ _ _ _ ?_
  refine Exists.intro _ (And.intro (q57) ?_)
  rw [m10_s0, ht0, hs0]
  refine And.intro rfl (ab_inv_ev (m_in mm 1 400 hmm (rR (by omega) (by omega)) (rR (by omega) (by omega))) (by first | decide | omega) (by first | exact Nat.le_refl _ | omega) (by first | exact Nat.le_refl _ | omega) ?_)
  refine And.intro (by first | assumption | exact b2i_R _ | exact rR (by omega) (by omega) | exact rR (by simp only [Int.toNat_natCast]; omega) (by simp only [Int.toNat_natCast]; omega)) (And.intro (fun q => ?_) (fun q => ?_))
  · have q1 := of_decide_eq_false (b2i_0 q)
    exact gO1 (fun h => q1 h.1)
  · have q1 := of_decide_eq_true (b2i_1 q)
    refine hA 1 _ rfl _ _ _ _ _ ?_
    refine Exists.intro _ (And.intro (by first | assumption | exact st_s | exact st_e (by decide) (by assumption) | exact st_e (by omega) (by assumption) | exact st_e (by decide) st_s | exact st_e (by omega) st_s | exact st_e (by decide) (st_e (by decide) (by assumption)) | exact st_e (by omega) (st_e (by omega) (by assumption))) (And.intro rfl (ab_inv_ev (m_areValues hI0 x1 x2 x3 x4 hx1 hx2 hx3 hx4) (by first | decide | omega) (by first | exact Nat.le_refl _ | omega) (by first | exact Nat.le_refl _ | omega) ?_)))
    refine And.intro (by first | assumption | exact b2i_R _ | exact rR (by omega) (by omega) | exact rR (by simp only [Int.toNat_natCast]; omega) (by simp only [Int.toNat_natCast]; omega)) (And.intro (fun q => ?_) (fun q => ?_))
    · have q2 := b2i_1 q
      exact gZ1 ⟨q1, q2⟩
    · have q2 := b2i_0 q
      exact gO1 (fun h => by rw [q2] at h; exact Bool.false_ne_true h.2)
set_option maxRecDepth 100000 in
set_option maxHeartbeats 1000000 in
theorem m_closes (h57 : σ.2 57 = some (m10 t)) (h13 : t 13 = rows) (hr : rows ≤ 1500) {lv : Nat → Nat} (hG : MG σ rows lv) {h : Nat} {g : Nat → Nat} (hh : σ.2 h = some (bmc g)) (hh2 : 72 < h ∧ h < 80) (hg : ∀ i, g i < 32768) {o : Nat → Nat} (ho : σ.2 313 = some (bmc o)) : ab_call 2 0 0 yX10_closes [rf 57, rf h] σ (fun z σ' => z = .inl none ∧ ∃ o' : Nat → Nat, σ' = ab_st (ab_st σ 313 (bmc o')) h (bmc (RK lv g rows))) := by
  refine eX10_closes rfl (fun At hA => ?_)
  have loop : ∀ (m x : Nat), x + m = rows → At 1 [some (rf 57), some (rf h), some (.inl (cnt (bit lv) x)), some (.inl x)] [] (ab_st σ 313 (bmc (mk (fun y => decide (y < cnt (bit lv) x) && cmp (bit lv) (bit g) x y)))) 0 0 := by
    intro m
    induction m with
    | zero =>
      intro x hx
      have hx : x = rows := by omega
      subst hx
      have s57 : (ab_st σ 313 (bmc (mk (fun y => decide (y < cnt (bit lv) x) && cmp (bit lv) (bit g) x y)))).2 57 = some (m10 t) := st_e (by omega) h57
      have sh : (ab_st σ 313 (bmc (mk (fun y => decide (y < cnt (bit lv) x) && cmp (bit lv) (bit g) x y)))).2 h = some (bmc g) := st_e (by omega) hh
      have hco := m_copies sh (a := 313) st_s
      refine hA 1 _ rfl _ _ _ _ _ ?_
      refine Exists.intro _ (And.intro (by first | assumption | exact st_s | exact st_e (by decide) (by assumption) | exact st_e (by omega) (by assumption) | exact st_e (by decide) st_s | exact st_e (by omega) st_s | exact st_e (by decide) (st_e (by decide) (by assumption)) | exact st_e (by omega) (st_e (by omega) (by assumption))) ?_)
      refine And.intro (And.intro (by first | assumption | exact b2i_R _ | exact rR (by omega) (by omega) | exact rR (by simp only [Int.toNat_natCast]; omega) (by simp only [Int.toNat_natCast]; omega)) (by first | assumption | exact b2i_R _ | exact rR (by omega) (by omega) | exact rR (by simp only [Int.toNat_natCast]; omega) (by simp only [Int.toNat_natCast]; omega))) (And.intro (fun q => ?_) (fun q => ?_))
      · refine hA 8 _ rfl _ _ _ _ _ ?_
        refine Exists.intro _ (And.intro (by first | assumption | exact st_s | exact st_e (by decide) (by assumption) | exact st_e (by omega) (by assumption) | exact st_e (by decide) st_s | exact st_e (by omega) st_s | exact st_e (by decide) (st_e (by decide) (by assumption)) | exact st_e (by omega) (st_e (by omega) (by assumption))) ?_)
        refine And.intro rfl (ab_inv_ev hco (by first | decide | omega) (by first | exact Nat.le_refl _ | omega) (by first | exact Nat.le_refl _ | omega) ?_)
        exact ⟨rfl, _, rfl⟩
      · omega
    | succ m ih =>
      intro x hx
      have s57 : (ab_st σ 313 (bmc (mk (fun y => decide (y < cnt (bit lv) x) && cmp (bit lv) (bit g) x y)))).2 57 = some (m10 t) := st_e (by omega) h57
      have sh : (ab_st σ 313 (bmc (mk (fun y => decide (y < cnt (bit lv) x) && cmp (bit lv) (bit g) x y)))).2 h = some (bmc g) := st_e (by omega) hh
      obtain ⟨gn, s71, hgn⟩ : MG (ab_st σ 313 (bmc (mk (fun y => decide (y < cnt (bit lv) x) && cmp (bit lv) (bit g) x y)))) rows lv := hG.st (by omega)
      have hgr := hgn x (by omega)
      have hgR : ab_R (gn x) := by rw [hgr]; exact b2i_R _
      have ihx := ih (x + 1) (by omega)
      have hcl := cnt_le (bit lv) x
      have ec : ∀ y, cmp (bit lv) (bit g) (x + 1) y = if bit lv x then ab_up (cmp (bit lv) (bit g) x) (cnt (bit lv) x) (bit g x) y else cmp (bit lv) (bit g) x y := fun y => by
        show (if bit lv x then ab_up (cmp (bit lv) (bit g) x) (cnt (bit lv) x) (bit g x) else cmp (bit lv) (bit g) x) y = _
        split <;> rfl
      refine hA 1 _ rfl _ _ _ _ _ ?_
      refine Exists.intro _ (And.intro (by first | assumption | exact st_s | exact st_e (by decide) (by assumption) | exact st_e (by omega) (by assumption) | exact st_e (by decide) st_s | exact st_e (by omega) st_s | exact st_e (by decide) (st_e (by decide) (by assumption)) | exact st_e (by omega) (st_e (by omega) (by assumption))) ?_)
      refine And.intro (And.intro (by first | assumption | exact b2i_R _ | exact rR (by omega) (by omega) | exact rR (by simp only [Int.toNat_natCast]; omega) (by simp only [Int.toNat_natCast]; omega)) (by first | assumption | exact b2i_R _ | exact rR (by omega) (by omega) | exact rR (by simp only [Int.toNat_natCast]; omega) (by simp only [Int.toNat_natCast]; omega))) (And.intro (fun q => ?_) (fun q => ?_))
      · omega
      · refine hA 2 _ rfl _ _ _ _ _ ?_
        refine Exists.intro _ (And.intro (s57) ?_)
        refine Exists.intro _ (Exists.intro _ (And.intro (s71) (And.intro (by omega) ?_)))
        refine And.intro hgR (And.intro (fun q => ?_) (fun q => ?_))
        · have q : gn x = 0 := q
          rw [hgr] at q
          have hb : bit lv x = true := by
            have := b2i_0 q
            cases hb : bit lv x
            · rw [hb] at this; cases this
            · rfl
          rw [cnt_s1 hb] at ihx
          refine hA 4 _ rfl _ _ _ _ _ ?_
          refine And.intro rfl (ab_inv_ev (m_has sh hg x (by omega)) (by first | decide | omega) (by first | exact Nat.le_refl _ | omega) (by first | exact Nat.le_refl _ | omega) ?_)
          refine And.intro (by first | assumption | exact b2i_R _ | exact rR (by omega) (by omega) | exact rR (by simp only [Int.toNat_natCast]; omega) (by simp only [Int.toNat_natCast]; omega)) (And.intro (fun q => ?_) (fun q => ?_))
          · have hb2 := b2i_0 q
            rw [mk_ext (p := fun y => decide (y < cnt (bit lv) x + 1) && cmp (bit lv) (bit g) (x + 1) y) (q := fun y => decide (y < cnt (bit lv) x) && cmp (bit lv) (bit g) x y) (fun y => by
              rw [ec, if_pos hb]
              by_cases e : y = cnt (bit lv) x
              · rw [e, ab_up_s, hb2, decide_eq_false (by omega : ¬ cnt (bit lv) x < cnt (bit lv) x), Bool.and_false, Bool.false_and]
              · rw [ab_up_n e, show decide (y < cnt (bit lv) x + 1) = decide (y < cnt (bit lv) x) from decide_eq_decide.mpr (by omega)])] at ihx
            refine hA 6 _ rfl _ _ _ _ _ ?_
            refine hA 7 _ rfl _ _ _ _ _ ?_
            exact ihx
          · have hb2 := b2i_1 q
            have hse := m_sets (σ := ab_st σ 313 (bmc (mk (fun y => decide (y < cnt (bit lv) x) && cmp (bit lv) (bit g) x y)))) st_s (fun i => mk_lt _ i) (cnt (bit lv) x) (by omega)
            rw [st_st, mk_s (p := fun y => decide (y < cnt (bit lv) x) && cmp (bit lv) (bit g) x y) (r := cnt (bit lv) x) (q := fun y => decide (y < cnt (bit lv) x + 1) && cmp (bit lv) (bit g) (x + 1) y) (fun y => by
              rw [ec, if_pos hb]
              by_cases e : y = cnt (bit lv) x
              · rw [if_pos e, e, ab_up_s, hb2, decide_eq_true (by omega : cnt (bit lv) x < cnt (bit lv) x + 1)]; rfl
              · rw [if_neg e, ab_up_n e, show decide (y < cnt (bit lv) x + 1) = decide (y < cnt (bit lv) x) from decide_eq_decide.mpr (by omega)])] at hse
            refine hA 5 _ rfl _ _ _ _ _ ?_
            refine Exists.intro _ (And.intro (by first | assumption | exact st_s | exact st_e (by decide) (by assumption) | exact st_e (by omega) (by assumption) | exact st_e (by decide) st_s | exact st_e (by omega) st_s | exact st_e (by decide) (st_e (by decide) (by assumption)) | exact st_e (by omega) (st_e (by omega) (by assumption))) ?_)
            refine And.intro rfl (ab_inv_ev hse (by first | decide | omega) (by first | exact Nat.le_refl _ | omega) (by first | exact Nat.le_refl _ | omega) ?_)
            refine hA 6 _ rfl _ _ _ _ _ ?_
            refine hA 7 _ rfl _ _ _ _ _ ?_
            exact ihx
        · have q : gn x ≠ 0 := q
          rw [hgr] at q
          have hb : bit lv x = false := by
            have := b2i_1 q
            cases hb : bit lv x
            · rfl
            · rw [hb] at this; cases this
          rw [cnt_s0 hb, mk_ext (p := fun y => decide (y < cnt (bit lv) x) && cmp (bit lv) (bit g) (x + 1) y) (q := fun y => decide (y < cnt (bit lv) x) && cmp (bit lv) (bit g) x y) (fun y => by rw [ec, if_neg (by rw [hb]; exact Bool.false_ne_true)])] at ihx
          refine hA 3 _ rfl _ _ _ _ _ ?_
          refine hA 7 _ rfl _ _ _ _ _ ?_
          exact ihx
  have l0 := loop rows 0 (by omega)
  rw [mk_0 (fun y => decide (y < cnt (bit lv) 0) && cmp (bit lv) (bit g) 0 y) (fun y => rfl)] at l0
  refine hA 0 _ rfl _ _ _ _ _ ?_
  refine Exists.intro _ (And.intro (h57) ?_)
  refine And.intro rfl (ab_inv_ev (m_empties ho) (by first | decide | omega) (by first | exact Nat.le_refl _ | omega) (by first | exact Nat.le_refl _ | omega) ?_)
  exact l0
theorem cmp_ex {p : Nat → Bool} {w : Nat → Int} {u : Nat → Nat} : ∀ n, (∀ x, x < n → w x = u x) → ∀ x, x < cnt p n → cmp p w n x = ((cmp p u n x : Nat) : Int) := by
  intro n
  induction n with
  | zero => intro _ x hx; exact absurd (show x < 0 from hx) (by omega)
  | succ n ih =>
    intro h x hx
    show (if p n then ab_up (cmp p w n) (cnt p n) (w n) else cmp p w n) x = (((if p n then ab_up (cmp p u n) (cnt p n) (u n) else cmp p u n) x : Nat) : Int)
    cases hp : p n with
    | true =>
      rw [if_pos rfl, if_pos rfl]
      rw [cnt_s1 hp] at hx
      by_cases e : x = cnt p n
      · rw [e, ab_up_s, ab_up_s]; exact h n (by omega)
      · rw [ab_up_n e, ab_up_n e]; exact ih (fun y hy => h y (by omega)) x (by omega)
    | false =>
      rw [if_neg Bool.false_ne_true, if_neg Bool.false_ne_true]
      rw [cnt_s0 hp] at hx
      exact ih (fun y hy => h y (by omega)) x hx
/-- what closing writes -/
def cloA (a : Nat) : Prop := a = 57 ∨ (67 ≤ a ∧ a ≤ 71) ∨ (73 ≤ a ∧ a ≤ 78) ∨ a = 313
theorem MI.clo (hI : MI σ cc rows K va R f n pl c t r th) {τ : ab_H} (hf : fr cloA σ τ) {m : Nat} (hm : m = cnt (bit (R 6)) rows) (t57 : τ.2 57 = some (m10 (ab_up t 13 m))) {w : Nat → Nat → Int} (h67 : ∀ k, k < 4 → σ.2 (67 + k) = some (iar 1500 (w k))) (t67 : ∀ k, k < 4 → τ.2 (67 + k) = some (iar 1500 (cmp (bit (R 6)) (w k) rows))) {gn : Nat → Int} (t71 : τ.2 71 = some (.inr (.inl (1, 1500, gn)))) (hgn : ∀ x, x < rows → gn x = 0) (t73 : ∀ k, k < 6 → τ.2 (73 + k) = some (bmc (RK (R 6) (R k) rows))) (t313 : ∃ g : Nat → Nat, τ.2 313 = some (bmc g)) : MI τ cc m K (fun c => cmp (bit (R 6)) (va c) rows) (fun i => if i = 6 then all1 m else RK (R 6) (R i) rows) f n pl c (ab_up t 13 m) r th := by
  obtain ⟨⟨w1, w2, w3, w4, w5, w6⟩, s, co, v0, gn0, ⟨k1, k2, k3, ⟨k4, k5⟩, ⟨g9, k6⟩, ⟨k7, k8⟩, k9, ⟨l1, l2⟩, l3, l4⟩, ⟨f0, f1, f2, f3, f4, f5, f6, f7⟩, fk, fw, fg⟩ := hI
  have e : ∀ a, ¬ cloA a → τ.2 a = σ.2 a := fun a h1 => hf.2 a h1
  have hw0 : ∀ k, k < 4 → v0 k = w k := fun k hk => by
    have h1 := (k8 k hk).symm.trans (h67 k hk)
    injection h1 with h1
    injection h1 with h1
    injection h1 with h1
    injection h1 with h2 h1
    injection h1
  have hup : ∀ j, j ≠ 13 → ab_up t 13 (m : Int) j = t j := fun j hj => ab_up_n hj
  have hml : m ≤ rows := by rw [hm]; exact cnt_le _ _
  refine ⟨⟨w1, by omega, fun k hk => ⟨(w3 k hk).1, cmp_lt (w3 k hk).2 rows⟩, fun i hi => ?_, w5, w6⟩, fun a h1 h2 h3 => ?_, co, fun k => cmp (bit (R 6)) (w k) rows, gn, ⟨t57, (e _ (by unfold cloA; omega)).trans k2, (e _ (by unfold cloA; omega)).trans k3, ⟨(e _ (by unfold cloA; omega)).trans k4, fun c hc => (e _ (by unfold cloA; omega)).trans (k5 c hc)⟩, ⟨g9, (e _ (by unfold cloA; omega)).trans k6⟩, ⟨(e _ (by unfold cloA; omega)).trans k7, t67⟩, t71, ⟨(e _ (by unfold cloA; omega)).trans l1, fun i hi => ?_⟩, (e _ (by unfold cloA; omega)).trans l3, (e _ (by unfold cloA; omega)).trans l4⟩, ⟨(hup _ (by omega)).trans f0, (hup _ (by omega)).trans f1, (hup _ (by omega)).trans f2, (hup _ (by omega)).trans f3, ab_up_s, (hup _ (by omega)).trans f5, (hup _ (by omega)).trans f6, (hup _ (by omega)).trans f7⟩, fk, fun k hk x hx => ?_, fun x hx => ?_⟩
  · dsimp only
    split
    · exact hi0_a m
    · refine ⟨fun j => mk_lt _ j, fun x hx => ?_⟩
      unfold RK
      rw [bit_mk, decide_eq_false (by omega)]
      rfl
  · by_cases h4 : a = 313
    · subst h4
      obtain ⟨g, hg⟩ := t313
      exact ⟨_, hg, shp_bm (by omega) (by omega)⟩
    · obtain ⟨x, x1, x2⟩ := s a h1 h2 h3
      exact ⟨x, (e a (by unfold cloA; omega)).trans x1, x2⟩
  · dsimp only
    rw [if_neg (by omega)]
    exact t73 i hi
  · dsimp only
    rw [hm] at hx
    exact cmp_ex rows (fun y hy => by rw [← hw0 k (by omega)]; exact fw k hk y hy) x hx
  · dsimp only
    rw [if_pos rfl, hgn x (by omega)]
    have := bit_rg m x
    unfold all1
    rw [this, decide_eq_true hx]
    rfl
set_option maxRecDepth 100000 in
set_option maxHeartbeats 1000000 in
theorem g_close (hI : MI σ cc rows K va R f n pl c t r th)  : ab_call 12 0 0 yX10_close [rf 57] σ (mdP σ (cc, rows, K, va, R, f, n, pl, c) r (fun i => (i : Int)) (sg_close cc rows K va R f n pl c)) := by
  have q57 := hI.h57
  have hr := hI.hr
  have hcc := hI.hc
  have hgl := gu_le hr
  have hI0 := hI.uth 0
  have hf0 : fr mA σ (ab_st σ 57 (m10 (ab_up t 0 0))) := fr_st (by unfold mA; omega)
  generalize ht0 : ab_up t 0 0 = t0 at hI0 hf0
  generalize hs0 : ab_st σ 57 (m10 t0) = σ0 at hI0 hf0
  have p57 := hI0.h57
  have p58 := hI0.h58
  have p0 := hI0.t0
  have p2 := hI0.t2
  have p12 := hI0.t12
  have p13 := hI0.t13
  refine eX10_close rfl (fun At hA => ?_)
  have hlh := hI0.hR (i := 6) (by omega)
  obtain ⟨w, gn, h66, h67, h71, hgn⟩ : ∃ (w : Nat → Nat → Int) (gn : Nat → Int), σ0.2 66 = some (rfs 67 4) ∧ (∀ k, k < 4 → σ0.2 (67 + k) = some (iar 1500 (w k))) ∧ σ0.2 71 = some (.inr (.inl (1, 1500, gn))) ∧ ∀ x, x < rows → gn x = b2i (!bit (R 6) x) := by
    obtain ⟨-, -, co, w, gn, ⟨-, -, -, -, -, ⟨k7, k8⟩, k9, -⟩, -, -, -, f4⟩ := hI0
    exact ⟨w, gn, k7, k8, k9, f4⟩
  have h72 := hI0.h72
  have hcl := cnt_le (bit (R 6))
  have fin : ∀ (υ : ab_H) (y4 : Option ab_V) (g9 : Nat → Int), fr cloA σ0 υ → υ.2 57 = some (m10 t0) → (∀ k, k < 4 → υ.2 (67 + k) = some (iar 1500 (cmp (bit (R 6)) (w k) rows))) → υ.2 71 = some (.inr (.inl (1, 1500, g9))) → (∀ x, x < rows → g9 x = 0) → (∀ k, k < 6 → υ.2 (73 + k) = some (bmc (RK (R 6) (R k) rows))) → (∃ g : Nat → Nat, υ.2 313 = some (bmc g)) → At 15 [some (rf 57), some (.inl rows), some (.inl (cnt (bit (R 6)) rows)), some (.inl rows), y4] [] υ 0 0 := fun υ y4 g9 hf u57 u67 u71 hg9 u73 u313 => by
    have hJ := hI0.clo (τ := ab_st υ 57 (m10 (ab_up t0 13 (cnt (bit (R 6)) rows)))) (hf.st (by unfold cloA; omega)) (m := cnt (bit (R 6)) rows) rfl st_s h67 (fun k hk => st_e (by omega) (u67 k hk)) (st_e (by omega) u71) hg9 (fun k hk => st_e (by omega) (u73 k hk)) (u313.elim fun g hg => ⟨g, st_e (by omega) hg⟩)
    refine hA 15 _ rfl _ _ _ _ _ ?_
    refine Exists.intro _ (And.intro (u57) ?_)
    rw [m10_s13]
    exact md_ok (S := (cc, rows, K, va, R, f, n, pl, c)) (e := fun i => (i : Int)) (by rfl) rfl ((hf0.tr (hf.mono (fun a ha => by unfold cloA at ha; unfold mA; omega))).st (by unfold mA; omega)) hJ
  have loop3 : ∀ (m x : Nat) (υ : ab_H) (y4 : Option ab_V) (g9 : Nat → Int), x + m = rows → fr cloA σ0 υ → υ.2 57 = some (m10 t0) → (∀ k, k < 4 → υ.2 (67 + k) = some (iar 1500 (cmp (bit (R 6)) (w k) rows))) → υ.2 71 = some (.inr (.inl (1, 1500, g9))) → (∀ y, y < x → g9 y = 0) → (∀ k, k < 6 → υ.2 (73 + k) = some (bmc (RK (R 6) (R k) rows))) → (∃ g : Nat → Nat, υ.2 313 = some (bmc g)) → At 13 [some (rf 57), some (.inl rows), some (.inl (cnt (bit (R 6)) rows)), some (.inl x), y4] [] υ 0 0 := by
    intro m
    induction m with
    | zero =>
      intro x υ y4 g9 hx hf u57 u67 u71 hg9 u73 u313
      have hx : x = rows := by omega
      subst hx
      have k := fin υ y4 g9 hf u57 u67 u71 hg9 u73 u313
      refine hA 13 _ rfl _ _ _ _ _ ?_
      refine And.intro (And.intro (by first | assumption | exact b2i_R _ | exact rR (by omega) (by omega) | exact rR (by simp only [Int.toNat_natCast]; omega) (by simp only [Int.toNat_natCast]; omega)) (by first | assumption | exact b2i_R _ | exact rR (by omega) (by omega) | exact rR (by simp only [Int.toNat_natCast]; omega) (by simp only [Int.toNat_natCast]; omega))) (And.intro (fun q => ?_) (fun q => ?_))
      · exact k
      · omega
    | succ m ih =>
      intro x υ y4 g9 hx hf u57 u67 u71 hg9 u73 u313
      have ihx := ih (x + 1) (ab_st υ 71 (.inr (.inl (1, 1500, ab_up g9 x 0)))) y4 (ab_up g9 x 0) (by omega) (hf.st (by unfold cloA; omega)) (st_e (by omega) u57) (fun k hk => st_e (by omega) (u67 k hk)) st_s (fun y hy => by
        by_cases e : y = x
        · rw [e, ab_up_s]
        · rw [ab_up_n e]; exact hg9 y (by omega)) (fun k hk => st_e (by omega) (u73 k hk)) (u313.elim fun g hg => ⟨g, st_e (by omega) hg⟩)
      refine hA 13 _ rfl _ _ _ _ _ ?_
      refine And.intro (And.intro (by first | assumption | exact b2i_R _ | exact rR (by omega) (by omega) | exact rR (by simp only [Int.toNat_natCast]; omega) (by simp only [Int.toNat_natCast]; omega)) (by first | assumption | exact b2i_R _ | exact rR (by omega) (by omega) | exact rR (by simp only [Int.toNat_natCast]; omega) (by simp only [Int.toNat_natCast]; omega))) (And.intro (fun q => ?_) (fun q => ?_))
      · omega
      · refine hA 14 _ rfl _ _ _ _ _ ?_
        refine Exists.intro _ (And.intro (u57) ?_)
        refine Exists.intro _ (Exists.intro _ (And.intro u71 (And.intro (by omega) (And.intro (Or.inl rfl) ?_))))
        exact ihx
  have loop2 : ∀ (m x : Nat) (υ : ab_H) (y4 : Option ab_V), x + m = rows → fr cloA σ0 υ → υ.2 57 = some (m10 t0) → υ.2 66 = some (rfs 67 4) → (∀ k, k < 4 → υ.2 (67 + k) = some (iar 1500 (cmp (bit (R 6)) (w k) x))) → υ.2 71 = some (.inr (.inl (1, 1500, gn))) → (∀ k, k < 6 → υ.2 (73 + k) = some (bmc (RK (R 6) (R k) rows))) → (∃ g : Nat → Nat, υ.2 313 = some (bmc g)) → At 4 [some (rf 57), some (.inl rows), some (.inl (cnt (bit (R 6)) x)), some (.inl x), y4] [] υ 0 0 := by
    intro m
    induction m with
    | zero =>
      intro x υ y4 hx hf u57 u66 u67 u71 u73 u313
      have hx : x = rows := by omega
      subst hx
      have k := loop3 x 0 υ y4 gn (by omega) hf u57 u67 u71 (fun y hy => by omega) u73 u313
      refine hA 4 _ rfl _ _ _ _ _ ?_
      refine And.intro (And.intro (by first | assumption | exact b2i_R _ | exact rR (by omega) (by omega) | exact rR (by simp only [Int.toNat_natCast]; omega) (by simp only [Int.toNat_natCast]; omega)) (by first | assumption | exact b2i_R _ | exact rR (by omega) (by omega) | exact rR (by simp only [Int.toNat_natCast]; omega) (by simp only [Int.toNat_natCast]; omega))) (And.intro (fun q => ?_) (fun q => ?_))
      · refine hA 12 _ rfl _ _ _ _ _ ?_
        exact k
      · omega
    | succ m ih =>
      intro x υ y4 hx hf u57 u66 u67 u71 u73 u313
      have hgr := hgn x (by omega)
      have hgR : ab_R (gn x) := by rw [hgr]; exact b2i_R _
      have hcx := hcl x
      have ec : ∀ k, cmp (bit (R 6)) (w k) (x + 1) = if (bit (R 6)) x then ab_up (cmp (bit (R 6)) (w k) x) (cnt (bit (R 6)) x) (w k x) else cmp (bit (R 6)) (w k) x := fun k => rfl
      refine hA 4 _ rfl _ _ _ _ _ ?_
      refine And.intro (And.intro (by first | assumption | exact b2i_R _ | exact rR (by omega) (by omega) | exact rR (by simp only [Int.toNat_natCast]; omega) (by simp only [Int.toNat_natCast]; omega)) (by first | assumption | exact b2i_R _ | exact rR (by omega) (by omega) | exact rR (by simp only [Int.toNat_natCast]; omega) (by simp only [Int.toNat_natCast]; omega))) (And.intro (fun q => ?_) (fun q => ?_))
      · omega
      · refine hA 5 _ rfl _ _ _ _ _ ?_
        refine Exists.intro _ (And.intro (u57) ?_)
        refine Exists.intro _ (Exists.intro _ (And.intro (u71) (And.intro (by omega) ?_)))
        refine And.intro hgR (And.intro (fun q => ?_) (fun q => ?_))
        · have q : gn x = 0 := q
          rw [hgr] at q
          have hb : bit (R 6) x = true := by
            have := b2i_0 q
            cases hb : bit (R 6) x
            · rw [hb] at this; cases this
            · rfl
          have inner : ∀ (m2 j : Nat) (υ : ab_H), j + m2 = 4 → fr cloA σ0 υ → υ.2 57 = some (m10 t0) → υ.2 66 = some (rfs 67 4) → (∀ k, k < 4 → υ.2 (67 + k) = some (iar 1500 (if k < j then cmp (bit (R 6)) (w k) (x + 1) else cmp (bit (R 6)) (w k) x))) → υ.2 71 = some (.inr (.inl (1, 1500, gn))) → (∀ k, k < 6 → υ.2 (73 + k) = some (bmc (RK (R 6) (R k) rows))) → (∃ g : Nat → Nat, υ.2 313 = some (bmc g)) → At 8 [some (rf 57), some (.inl rows), some (.inl (cnt (bit (R 6)) x)), some (.inl x), some (.inl j)] [] υ 0 0 := by
            intro m2
            induction m2 with
            | zero =>
              intro j υ hj hf u57 u66 u67 u71 u73 u313
              have ihx := ih (x + 1) υ (some (.inl j)) (by omega) hf u57 u66 (fun k hk => by
                have := u67 k hk
                rw [if_pos (by omega)] at this
                exact this) u71 u73 u313
              rw [cnt_s1 hb, Int.natCast_add] at ihx
              refine hA 8 _ rfl _ _ _ _ _ ?_
              refine And.intro (And.intro (by first | assumption | exact b2i_R _ | exact rR (by omega) (by omega) | exact rR (by simp only [Int.toNat_natCast]; omega) (by simp only [Int.toNat_natCast]; omega)) (by first | assumption | exact b2i_R _ | exact rR (by omega) (by omega) | exact rR (by simp only [Int.toNat_natCast]; omega) (by simp only [Int.toNat_natCast]; omega))) (And.intro (fun q => ?_) (fun q => ?_))
              · refine hA 10 _ rfl _ _ _ _ _ ?_
                refine hA 11 _ rfl _ _ _ _ _ ?_
                exact ihx
              · omega
            | succ m2 ih2 =>
              intro j υ hj hf u57 u66 u67 u71 u73 u313
              have hj4 : j < 4 := by omega
              have h67j := u67 j hj4
              rw [if_neg (by omega)] at h67j
              have hrd : cmp (bit (R 6)) (w j) x x = w j x := cmp_ge _ _ x x hcx
              have ihj := ih2 (j + 1) (ab_st υ (67 + j) (iar 1500 (ab_up (cmp (bit (R 6)) (w j) x) (cnt (bit (R 6)) x) (cmp (bit (R 6)) (w j) x x)))) (by omega) (hf.st (by unfold cloA; omega)) (st_e (by omega) u57) (st_e (by omega) u66) (fun k hk => by
                by_cases e : k = j
                · subst e
                  rw [if_pos (by omega), ec, if_pos hb, hrd]
                  exact st_s
                · have := u67 k hk
                  rw [ite_sk e]
                  exact st_e (by omega) this) (st_e (by omega) u71) (fun k hk => st_e (by omega) (u73 k hk)) (u313.elim fun g hg => ⟨g, st_e (by omega) hg⟩)
              refine hA 8 _ rfl _ _ _ _ _ ?_
              refine And.intro (And.intro (by first | assumption | exact b2i_R _ | exact rR (by omega) (by omega) | exact rR (by simp only [Int.toNat_natCast]; omega) (by simp only [Int.toNat_natCast]; omega)) (by first | assumption | exact b2i_R _ | exact rR (by omega) (by omega) | exact rR (by simp only [Int.toNat_natCast]; omega) (by simp only [Int.toNat_natCast]; omega))) (And.intro (fun q => ?_) (fun q => ?_))
              · omega
              · refine hA 9 _ rfl _ _ _ _ _ ?_
                refine Exists.intro _ (And.intro (u57) ?_)
                refine Exists.intro _ (Exists.intro _ (And.intro (u66) (And.intro (by omega) ?_)))
                refine Exists.intro _ (And.intro (u57) ?_)
                refine Exists.intro _ (Exists.intro _ (And.intro (u66) (And.intro (by omega) ?_)))
                refine Exists.intro _ (Exists.intro _ (And.intro (h67j) (And.intro (by omega) ?_)))
                refine Exists.intro _ (Exists.intro _ (And.intro (h67j) (And.intro (by omega) ?_)))
                exact ihj
          have i0 := inner 4 0 υ (by omega) hf u57 u66 (fun k hk => by rw [if_neg (by omega)]; exact u67 k hk) u71 u73 u313
          refine hA 7 _ rfl _ _ _ _ _ ?_
          exact i0
        · have q : gn x ≠ 0 := q
          rw [hgr] at q
          have hb : bit (R 6) x = false := by
            have := b2i_1 q
            cases hb : bit (R 6) x
            · rfl
            · rw [hb] at this; cases this
          have ihx := ih (x + 1) υ y4 (by omega) hf u57 u66 (fun k hk => by rw [ec, if_neg (by rw [hb]; exact Bool.false_ne_true)]; exact u67 k hk) u71 u73 u313
          rw [cnt_s0 hb] at ihx
          refine hA 6 _ rfl _ _ _ _ _ ?_
          refine hA 11 _ rfl _ _ _ _ _ ?_
          exact ihx
  have loop1 : ∀ (m k9 : Nat) (υ : ab_H), k9 + m = 6 → fr cloA σ0 υ → υ.2 57 = some (m10 t0) → υ.2 66 = some (rfs 67 4) → (∀ k, k < 4 → υ.2 (67 + k) = some (iar 1500 (w k))) → υ.2 71 = some (.inr (.inl (1, 1500, gn))) → υ.2 72 = some (rfs 73 6) → (∀ k, k < 6 → υ.2 (73 + k) = some (bmc (if k < k9 then RK (R 6) (R k) rows else R k))) → (∃ g : Nat → Nat, υ.2 313 = some (bmc g)) → At 1 [some (rf 57), some (.inl rows), some (.inl 0), some (.inl k9), none] [] υ 0 0 := by
    intro m
    induction m with
    | zero =>
      intro k9 υ hk hf u57 u66 u67 u71 u72 u73 u313
      have k := loop2 rows 0 υ none (by omega) hf u57 u66 u67 u71 (fun k hk => by
        have := u73 k hk
        rw [if_pos (by omega)] at this
        exact this) u313
      refine hA 1 _ rfl _ _ _ _ _ ?_
      refine And.intro (And.intro (by first | assumption | exact b2i_R _ | exact rR (by omega) (by omega) | exact rR (by simp only [Int.toNat_natCast]; omega) (by simp only [Int.toNat_natCast]; omega)) (by first | assumption | exact b2i_R _ | exact rR (by omega) (by omega) | exact rR (by simp only [Int.toNat_natCast]; omega) (by simp only [Int.toNat_natCast]; omega))) (And.intro (fun q => ?_) (fun q => ?_))
      · refine hA 3 _ rfl _ _ _ _ _ ?_
        exact k
      · omega
    | succ m ih =>
      intro k9 υ hk hf u57 u66 u67 u71 u72 u73 u313
      have hk6 : k9 < 6 := by omega
      have hh := u73 k9 hk6
      rw [if_neg (by omega)] at hh
      obtain ⟨g3, u313⟩ := u313
      have hc := m_closes u57 p13 hr (lv := R 6) ⟨gn, u71, hgn⟩ hh (by omega) (hI0.hR (i := k9) (by omega)).1 u313
      refine hA 1 _ rfl _ _ _ _ _ ?_
      refine And.intro (And.intro (by first | assumption | exact b2i_R _ | exact rR (by omega) (by omega) | exact rR (by simp only [Int.toNat_natCast]; omega) (by simp only [Int.toNat_natCast]; omega)) (by first | assumption | exact b2i_R _ | exact rR (by omega) (by omega) | exact rR (by simp only [Int.toNat_natCast]; omega) (by simp only [Int.toNat_natCast]; omega))) (And.intro (fun q => ?_) (fun q => ?_))
      · omega
      · refine hA 2 _ rfl _ _ _ _ _ ?_
        refine Exists.intro _ (And.intro (u57) ?_)
        refine Exists.intro _ (Exists.intro _ (And.intro (u72) (And.intro (by omega) ?_)))
        refine Exists.intro _ (And.intro u57 (And.intro rfl (ab_inv_of hc (by first | decide | omega) (by omega) (by omega) ?_)))
        intro z υ2 hpost
        obtain ⟨rfl, o9, rfl⟩ := hpost
        have ihk := ih (k9 + 1) _ (by omega) ((hf.st (a := 313) (c := bmc o9) (by unfold cloA; omega)).st (a := 73 + k9) (c := bmc (RK (R 6) (R k9) rows)) (by unfold cloA; omega)) (st_e (by omega) (st_e (by omega) u57)) (st_e (by omega) (st_e (by omega) u66)) (fun k hk => st_e (by omega) (st_e (by omega) (u67 k hk))) (st_e (by omega) (st_e (by omega) u71)) (st_e (by omega) (st_e (by omega) u72)) (fun k hk => by
          by_cases e : k = k9
          · subst e
            rw [if_pos (by omega)]
            exact st_s
          · have := u73 k hk
            rw [ite_sk e]
            exact st_e (by omega) (st_e (by omega) this)) ⟨o9, st_e (by omega) st_s⟩
        
        exact ihk
  obtain ⟨g3, ho3⟩ := hI0.sc.bm (a := 313) (by omega) (by omega)
  have l0 := loop1 6 0 σ0 rfl (fr_rf _ _) p57 h66 h67 h71 h72 (fun k hk => by rw [if_neg (by omega)]; exact hI0.rs hk) ⟨g3, ho3⟩
  rw [← p13] at l0
  refine hA 0 _ rfl _ _ _ _ _ ?_
  refine Exists.intro _ (And.intro (q57) ?_)
  rw [m10_s0, ht0, hs0]
  refine Exists.intro _ (And.intro (p57) ?_)
  exact l0
end Mrows
