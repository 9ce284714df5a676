-- ===== the model's calls that change something: results, bytes, live =====
def fdB (f : Nat → Int) (n : Nat) (v : Nat → Int) : Nat → Nat → Int
  | 0 => f
  | k + 1 => ab_up (fdB f n v k) (n + k) (byZ (v k) (24 - 8 * (k % 4)))
theorem fdB_R {f : Nat → Int} {n : Nat} {v : Nat → Int} (h : byR f) : ∀ k, byR (fdB f n v k) := by
  intro k
  induction k with
  | zero => exact h
  | succ k ih => exact byR_up ih _ _ _
theorem fdB_20 {f : Nat → Int} {n : Nat} {a b x y z : Int} : fdB f n (fun k => if k < 4 then a else if k < 8 then b else if k < 12 then x else if k < 16 then y else z) 20 = put4 (put4 (put4 (put4 (put4 f n a) (n + 4) b) (n + 8) x) (n + 12) y) (n + 16) z := rfl
section Mchg
variable {σ : ab_H} {cc rows : Nat} {K : Nat → CT} {va : Nat → Nat → Nat} {R : Nat → V1} {f : Nat → Int} {n : Nat} {pl : Int} {c : C3} {t : Nat → Int} {r : Nat → Nat} {th : Int}
theorem WS.res (h : WS cc rows K va R f n) {k : Nat} {g : V1} (hg : hi0 rows g) : WS cc rows K va (ab_up R k g) f n := by
  obtain ⟨h1, h2, h3, h4, h5, h6⟩ := h
  refine ⟨h1, h2, h3, fun i hi => ?_, h5, h6⟩
  by_cases e : i = k
  · subst e; rw [ab_up_s]; exact hg
  · rw [ab_up_n e]; exact h4 i hi
theorem MI.res (hI : MI σ cc rows K va R f n pl c t r th) {k : Nat} (hk : k < 6) {g : V1} (hg : hi0 rows g) : MI (ab_st σ (73 + k) (bmc g)) cc rows K va (ab_up R k g) f n pl c t r th := by
  obtain ⟨w, s, co, v, gn, ⟨k1, k2, k3, ⟨k4, k5⟩, ⟨g9, k6⟩, ⟨k7, k8⟩, k9, ⟨l1, l2⟩, l3, l4⟩, f1, f2, f3, f4⟩ := hI
  refine ⟨w.res hg, s.ne (by omega), co, v, gn, ⟨st_e (by omega) k1, st_e (by omega) k2, st_e (by omega) k3, ⟨st_e (by omega) k4, fun c hc => st_e (by omega) (k5 c hc)⟩, ⟨g9, st_e (by omega) k6⟩, ⟨st_e (by omega) k7, fun c hc => st_e (by omega) (k8 c hc)⟩, st_e (by omega) k9, ⟨st_e (by omega) l1, fun i hi => ?_⟩, st_e (by omega) l3, st_e (by omega) l4⟩, f1, f2, f3, fun x hx => ?_⟩
  · by_cases e : i = k
    · subst e; rw [ab_up_s]; exact st_s
    · rw [ab_up_n e]; exact st_e (by omega) (l2 i hi)
  · rw [ab_up_n (by omega)]; exact f4 x hx
theorem hi0_pt {g : Nat → Nat} (h : hi0 rows g) (x : Nat) : hi0 rows (pt g x false) := ⟨pt_lt h.1 x false, fun y hy => by
  rw [pt_bit]
  split
  · rfl
  · exact h.2 y hy⟩
theorem MI.del (hI : MI σ cc rows K va R f n pl c t r th) {row : Nat} (hrow : row < rows) : ∃ gn : Nat → Int, σ.2 71 = some (.inr (.inl (1, 1500, gn))) ∧ MI (ab_st σ 71 (.inr (.inl (1, 1500, ab_up gn row 1)))) cc rows K va (ab_up R 6 (pt (R 6) row false)) f n pl c t r th := by
  have hg := hi0_pt (hI.hR (i := 6) (by omega)) row
  obtain ⟨w, s, co, v, gn, ⟨k1, k2, k3, ⟨k4, k5⟩, ⟨g9, k6⟩, ⟨k7, k8⟩, k9, ⟨l1, l2⟩, l3, l4⟩, f1, f2, f3, f4⟩ := hI
  refine ⟨gn, k9, w.res hg, s.ne (by omega), co, v, ab_up gn row 1, ⟨st_e (by omega) k1, st_e (by omega) k2, st_e (by omega) k3, ⟨st_e (by omega) k4, fun c hc => st_e (by omega) (k5 c hc)⟩, ⟨g9, st_e (by omega) k6⟩, ⟨st_e (by omega) k7, fun c hc => st_e (by omega) (k8 c hc)⟩, st_s, ⟨st_e (by omega) l1, fun i hi => ?_⟩, st_e (by omega) l3, st_e (by omega) l4⟩, f1, f2, f3, fun x hx => ?_⟩
  · rw [ab_up_n (by omega)]; exact st_e (by omega) (l2 i hi)
  · rw [ab_up_s (f := R), pt_bit]
    by_cases e : x = row
    · rw [e, ab_up_s, if_pos rfl]; rfl
    · rw [ab_up_n e, if_neg e]; exact f4 x hx
theorem MI.fd (hI : MI σ cc rows K va R f n pl c t r th) {f' : Nat → Int} {n' : Nat} (hf : byR f') (hn : n' ≤ 400) : MI (ab_st (ab_st σ 59 (bya f')) 57 (m10 (ab_up t 2 n'))) cc rows K va R f' n' pl c (ab_up t 2 n') r th := by
  obtain ⟨⟨w1, w2, w3, w4, -, -⟩, s, co, v, gn, ⟨k1, k2, k3, ⟨k4, k5⟩, ⟨g9, k6⟩, ⟨k7, k8⟩, k9, ⟨l1, l2⟩, l3, l4⟩, ⟨f0, f1, f2, f3, f4, f5, f6, f7⟩, fx⟩ := hI
  refine ⟨⟨w1, w2, w3, w4, hf, hn⟩, (s.ne (by omega)).ne (by omega), co, v, gn, ⟨st_s, st_e (by omega) (st_e (by omega) k2), st_e (by omega) st_s, ⟨st_e (by omega) (st_e (by omega) k4), fun c hc => st_e (by omega) (st_e (by omega) (k5 c hc))⟩, ⟨g9, st_e (by omega) (st_e (by omega) k6)⟩, ⟨st_e (by omega) (st_e (by omega) k7), fun c hc => st_e (by omega) (st_e (by omega) (k8 c hc))⟩, st_e (by omega) (st_e (by omega) k9), ⟨st_e (by omega) (st_e (by omega) l1), fun c hc => st_e (by omega) (st_e (by omega) (l2 c hc))⟩, st_e (by omega) (st_e (by omega) l3), st_e (by omega) (st_e (by omega) l4)⟩, ⟨?_, ab_up_s, ?_, ?_, ?_, ?_, ?_, ?_⟩, fx⟩
  all_goals rw [ab_up_n (by omega)]
  all_goals assumption
set_option maxRecDepth 100000 in
set_option maxHeartbeats 1000000 in
theorem g_logic (hI : MI σ cc rows K va R f n pl c t r th) (kind a b to : Int) (hkind : ab_R kind) (ha : ab_R a) (hb : ab_R b) (hto : ab_R to) : ab_call 12 0 0 yX10_logic [rf 57, .inl kind, .inl a, .inl b, .inl to] σ (mdP σ (cc, rows, K, va, R, f, n, pl, c) r (fun i => (i : Int) + 1) (sg_logic cc rows K va R f n pl c kind a b to)) := by
  have q57 := hI.h57
  have hr := hI.hr
  have hcc := hI.hc
  have hgl := gu_le hr
  have hI0 := hI.uth 0
  have hf0 : fr mA σ (ab_st σ 57 (m10 (ab_up t 0 0))) := fr_st (by unfold mA; omega)
  generalize ht0 : ab_up t 0 0 = t0 at hI0 hf0
  generalize hs0 : ab_st σ 57 (m10 t0) = σ0 at hI0 hf0
  have p57 := hI0.h57
  have p58 := hI0.h58
  have p0 := hI0.t0
  have p2 := hI0.t2
  have p12 := hI0.t12
  have p13 := hI0.t13
  refine eX10_logic rfl (fun At hA => ?_)
  have gK1 : ((0 ≤ a ∧ a ≤ 5) ∧ (0 ≤ b ∧ b ≤ 5) ∧ 0 ≤ to ∧ to ≤ 5) → At 5 [some (rf 57), some (.inl kind), some (.inl a), some (.inl b), some (.inl to)] [.inl 0, rf 57] σ0 0 0 := fun hP1 => by
    refine hA 5 _ rfl _ _ _ _ _ ?_
    refine Exists.intro _ (And.intro (by first | assumption | exact st_s | exact st_e (by decide) (by assumption) | exact st_e (by omega) (by assumption) | exact st_e (by decide) st_s | exact st_e (by omega) st_s | exact st_e (by decide) (st_e (by decide) (by assumption)) | exact st_e (by omega) (st_e (by omega) (by assumption))) (And.intro rfl (ab_inv_ev (m_bad0 p57 p0 1 0) (by first | decide | omega) (by first | exact Nat.le_refl _ | omega) (by first | exact Nat.le_refl _ | omega) ?_)))
    refine And.intro (by first | assumption | exact b2i_R _ | exact rR (by omega) (by omega) | exact rR (by simp only [Int.toNat_natCast]; omega) (by simp only [Int.toNat_natCast]; omega)) (And.intro (fun q => ?_) (fun q => ?_))
    · exact absurd rfl q
    · have gK2 : (0 ≤ kind ∧ kind ≤ 3) → At 9 [some (rf 57), some (.inl kind), some (.inl a), some (.inl b), some (.inl to)] [.inl 0, rf 57] σ0 0 0 := fun hP2 => by
        refine hA 9 _ rfl _ _ _ _ _ ?_
        refine Exists.intro _ (And.intro (by first | assumption | exact st_s | exact st_e (by decide) (by assumption) | exact st_e (by omega) (by assumption) | exact st_e (by decide) st_s | exact st_e (by omega) st_s | exact st_e (by decide) (st_e (by decide) (by assumption)) | exact st_e (by omega) (st_e (by omega) (by assumption))) (And.intro rfl (ab_inv_ev (m_bad0 p57 p0 2 1) (by first | decide | omega) (by first | exact Nat.le_refl _ | omega) (by first | exact Nat.le_refl _ | omega) ?_)))
        refine And.intro (by first | assumption | exact b2i_R _ | exact rR (by omega) (by omega) | exact rR (by simp only [Int.toNat_natCast]; omega) (by simp only [Int.toNat_natCast]; omega)) (And.intro (fun q => ?_) (fun q => ?_))
        · obtain ⟨kind', rfl⟩ : ∃ m : Nat, kind = (m : Int) := ⟨kind.toNat, by omega⟩
          obtain ⟨a', rfl⟩ : ∃ m : Nat, a = (m : Int) := ⟨a.toNat, by omega⟩
          obtain ⟨b', rfl⟩ : ∃ m : Nat, b = (m : Int) := ⟨b.toNat, by omega⟩
          obtain ⟨to', rfl⟩ : ∃ m : Nat, to = (m : Int) := ⟨to.toNat, by omega⟩
          have ahi := hI0.hR (i := a') (by omega)
          have bhi := hI0.hR (i := b') (by omega)
          have hjh := hi0_jn (k := kind') ahi bhi
          have hJI := hI0.res (k := to') (by omega) hjh
          have h72 := hI0.h72
          have j57 := hJI.h57
          have j72 := hJI.h72
          have hJ := m_joins (hI0.rs (k := to') (by omega)) (hI0.rs (k := a') (by omega)) (hI0.rs (k := b') (by omega)) ahi.1 bhi.1 kind' (by omega)
          have hma := m_many2 (h := 73 + to') j57 hJI.t13 hr st_s hjh
          refine hA 11 _ rfl _ _ _ _ _ ?_
          refine Exists.intro _ (And.intro (p57) ?_)
          refine Exists.intro _ (Exists.intro _ (And.intro (h72) (And.intro (by omega) ?_)))
          refine Exists.intro _ (And.intro (p57) ?_)
          refine Exists.intro _ (Exists.intro _ (And.intro (h72) (And.intro (by omega) ?_)))
          refine Exists.intro _ (And.intro (p57) ?_)
          refine Exists.intro _ (Exists.intro _ (And.intro (h72) (And.intro (by omega) ?_)))
          refine Exists.intro _ (And.intro p57 (And.intro rfl (ab_inv_ev hJ (by first | decide | omega) (by first | exact Nat.le_refl _ | omega) (by first | exact Nat.le_refl _ | omega) ?_)))
          refine Exists.intro _ (And.intro (j57) ?_)
          refine Exists.intro _ (Exists.intro _ (And.intro (j72) (And.intro (by omega) ?_)))
          refine Exists.intro _ (And.intro j57 (And.intro rfl (ab_inv_ev hma (by first | decide | omega) (by first | exact Nat.le_refl _ | omega) (by first | exact Nat.le_refl _ | omega) ?_)))
          exact md_ok (by unfold sg_logic; rw [if_pos hP1, if_pos hP2] <;> rfl) rfl (hf0.st (by unfold mA; omega)) hJI
        · exact absurd rfl q
      have gF2 : ¬ (0 ≤ kind ∧ kind ≤ 3) → At 9 [some (rf 57), some (.inl kind), some (.inl a), some (.inl b), some (.inl to)] [.inl 1, rf 57] σ0 0 0 := fun hP2 => by
        refine hA 9 _ rfl _ _ _ _ _ ?_
        refine Exists.intro _ (And.intro (by first | assumption | exact st_s | exact st_e (by decide) (by assumption) | exact st_e (by omega) (by assumption) | exact st_e (by decide) st_s | exact st_e (by omega) st_s | exact st_e (by decide) (st_e (by decide) (by assumption)) | exact st_e (by omega) (st_e (by omega) (by assumption))) (And.intro rfl (ab_inv_ev (m_bad1 p57 p0 p58 2 1 (by decide) (by decide) (by decide)) (by first | decide | omega) (by first | exact Nat.le_refl _ | omega) (by first | exact Nat.le_refl _ | omega) ?_)))
        refine And.intro (by first | assumption | exact b2i_R _ | exact rR (by omega) (by omega) | exact rR (by simp only [Int.toNat_natCast]; omega) (by simp only [Int.toNat_natCast]; omega)) (And.intro (fun q => ?_) (fun q => ?_))
        · exact absurd q (by decide)
        · refine hA 10 _ rfl _ _ _ _ _ ?_
          exact md_no (by unfold sg_logic; rw [if_pos hP1, if_neg hP2] <;> rfl) hf0 hI0 rfl
      have gO2 : ¬ (0 ≤ kind ∧ kind ≤ 3) → At 7 [some (rf 57), some (.inl kind), some (.inl a), some (.inl b), some (.inl to)] [rf 57] σ0 0 0 := fun h => by
        refine hA 7 _ rfl _ _ _ _ _ ?_
        exact gF2 h
      have gZ2 : (0 ≤ kind ∧ kind ≤ 3) → At 8 [some (rf 57), some (.inl kind), some (.inl a), some (.inl b), some (.inl to)] [rf 57] σ0 0 0 := fun h => by
        refine hA 8 _ rfl _ _ _ _ _ ?_
        exact gK2 h
      refine hA 6 _ rfl _ _ _ _ _ ?_
      refine And.intro rfl (ab_inv_ev (m_in kind 0 3 hkind (rR (by omega) (by omega)) (rR (by omega) (by omega))) (by first | decide | omega) (by first | exact Nat.le_refl _ | omega) (by first | exact Nat.le_refl _ | omega) ?_)
      refine And.intro (by first | assumption | exact b2i_R _ | exact rR (by omega) (by omega) | exact rR (by simp only [Int.toNat_natCast]; omega) (by simp only [Int.toNat_natCast]; omega)) (And.intro (fun q => ?_) (fun q => ?_))
      · have q10 := of_decide_eq_true (b2i_1 q)
        exact gZ2 (by omega)
      · exact gO2 (by have q1 := of_decide_eq_false (b2i_0 q); omega)
  have gF1 : ¬ ((0 ≤ a ∧ a ≤ 5) ∧ (0 ≤ b ∧ b ≤ 5) ∧ 0 ≤ to ∧ to ≤ 5) → At 5 [some (rf 57), some (.inl kind), some (.inl a), some (.inl b), some (.inl to)] [.inl 1, rf 57] σ0 0 0 := fun hP1 => by
    refine hA 5 _ rfl _ _ _ _ _ ?_
    refine Exists.intro _ (And.intro (by first | assumption | exact st_s | exact st_e (by decide) (by assumption) | exact st_e (by omega) (by assumption) | exact st_e (by decide) st_s | exact st_e (by omega) st_s | exact st_e (by decide) (st_e (by decide) (by assumption)) | exact st_e (by omega) (st_e (by omega) (by assumption))) (And.intro rfl (ab_inv_ev (m_bad1 p57 p0 p58 1 0 (by decide) (by decide) (by decide)) (by first | decide | omega) (by first | exact Nat.le_refl _ | omega) (by first | exact Nat.le_refl _ | omega) ?_)))
    refine And.intro (by first | assumption | exact b2i_R _ | exact rR (by omega) (by omega) | exact rR (by simp only [Int.toNat_natCast]; omega) (by simp only [Int.toNat_natCast]; omega)) (And.intro (fun q => ?_) (fun q => ?_))
    · refine hA 10 _ rfl _ _ _ _ _ ?_
      exact md_no (by unfold sg_logic; rw [if_neg hP1] <;> rfl) hf0 hI0 rfl
    · exact absurd q (by decide)
  have gO1 : ¬ ((0 ≤ a ∧ a ≤ 5) ∧ (0 ≤ b ∧ b ≤ 5) ∧ 0 ≤ to ∧ to ≤ 5) → At 3 [some (rf 57), some (.inl kind), some (.inl a), some (.inl b), some (.inl to)] [rf 57] σ0 0 0 := fun h => by
    refine hA 3 _ rfl _ _ _ _ _ ?_
    exact gF1 h
  have gZ1 : ((0 ≤ a ∧ a ≤ 5) ∧ (0 ≤ b ∧ b ≤ 5) ∧ 0 ≤ to ∧ to ≤ 5) → At 4 [some (rf 57), some (.inl kind), some (.inl a), some (.inl b), some (.inl to)] [rf 57] σ0 0 0 := fun h => by
    refine hA 4 _ rfl _ _ _ _ _ ?_
    exact gK1 h
  refine hA 0 _ rfl _ _ _ _ _ ?_
  refine Exists.intro _ (And.intro (q57) ?_)
  rw [m10_s0, ht0, hs0]
  refine Exists.intro _ (And.intro (by first | assumption | exact st_s | exact st_e (by decide) (by assumption) | exact st_e (by omega) (by assumption) | exact st_e (by decide) st_s | exact st_e (by omega) st_s | exact st_e (by decide) (st_e (by decide) (by assumption)) | exact st_e (by omega) (st_e (by omega) (by assumption))) (And.intro rfl (ab_inv_ev (m_isResult a ha) (by first | decide | omega) (by first | exact Nat.le_refl _ | omega) (by first | exact Nat.le_refl _ | omega) ?_)))
  refine And.intro (by first | assumption | exact b2i_R _ | exact rR (by omega) (by omega) | exact rR (by simp only [Int.toNat_natCast]; omega) (by simp only [Int.toNat_natCast]; omega)) (And.intro (fun q => ?_) (fun q => ?_))
  · exact gO1 (by have q1 := of_decide_eq_false (b2i_0 q); omega)
  · have q00 := of_decide_eq_true (b2i_1 q)
    refine hA 1 _ rfl _ _ _ _ _ ?_
    refine Exists.intro _ (And.intro (by first | assumption | exact st_s | exact st_e (by decide) (by assumption) | exact st_e (by omega) (by assumption) | exact st_e (by decide) st_s | exact st_e (by omega) st_s | exact st_e (by decide) (st_e (by decide) (by assumption)) | exact st_e (by omega) (st_e (by omega) (by assumption))) (And.intro rfl (ab_inv_ev (m_isResult b hb) (by first | decide | omega) (by first | exact Nat.le_refl _ | omega) (by first | exact Nat.le_refl _ | omega) ?_)))
    refine And.intro (by first | assumption | exact b2i_R _ | exact rR (by omega) (by omega) | exact rR (by simp only [Int.toNat_natCast]; omega) (by simp only [Int.toNat_natCast]; omega)) (And.intro (fun q => ?_) (fun q => ?_))
    · exact gO1 (by have q1 := of_decide_eq_false (b2i_0 q); omega)
    · have q01 := of_decide_eq_true (b2i_1 q)
      refine hA 2 _ rfl _ _ _ _ _ ?_
      refine Exists.intro _ (And.intro (by first | assumption | exact st_s | exact st_e (by decide) (by assumption) | exact st_e (by omega) (by assumption) | exact st_e (by decide) st_s | exact st_e (by omega) st_s | exact st_e (by decide) (st_e (by decide) (by assumption)) | exact st_e (by omega) (st_e (by omega) (by assumption))) (And.intro rfl (ab_inv_ev (m_isResult to hto) (by first | decide | omega) (by first | exact Nat.le_refl _ | omega) (by first | exact Nat.le_refl _ | omega) ?_)))
      refine And.intro (by first | assumption | exact b2i_R _ | exact rR (by omega) (by omega) | exact rR (by simp only [Int.toNat_natCast]; omega) (by simp only [Int.toNat_natCast]; omega)) (And.intro (fun q => ?_) (fun q => ?_))
      · have q02 := of_decide_eq_true (b2i_1 q)
        exact gZ1 (by omega)
      · exact gO1 (by have q1 := of_decide_eq_false (b2i_0 q); omega)
set_option maxRecDepth 100000 in
set_option maxHeartbeats 1000000 in
theorem g_turn (hI : MI σ cc rows K va R f n pl c t r th) (k : Int) (hk : ab_R k) : ab_call 12 0 0 yX10_turn [rf 57, .inl k] σ (mdP σ (cc, rows, K, va, R, f, n, pl, c) r (fun i => (i : Int) + 1) (sg_turn cc rows K va R f n pl c k)) := by
  have q57 := hI.h57
  have hr := hI.hr
  have hcc := hI.hc
  have hgl := gu_le hr
  have hI0 := hI.uth 0
  have hf0 : fr mA σ (ab_st σ 57 (m10 (ab_up t 0 0))) := fr_st (by unfold mA; omega)
  generalize ht0 : ab_up t 0 0 = t0 at hI0 hf0
  generalize hs0 : ab_st σ 57 (m10 t0) = σ0 at hI0 hf0
  have p57 := hI0.h57
  have p58 := hI0.h58
  have p0 := hI0.t0
  have p2 := hI0.t2
  have p12 := hI0.t12
  have p13 := hI0.t13
  refine eX10_turn rfl (fun At hA => ?_)
  have gK1 : (0 ≤ k ∧ k ≤ 5) → At 3 [some (rf 57), some (.inl k)] [.inl 0, rf 57] σ0 0 0 := fun hP1 => by
    refine hA 3 _ rfl _ _ _ _ _ ?_
    refine Exists.intro _ (And.intro (by first | assumption | exact st_s | exact st_e (by decide) (by assumption) | exact st_e (by omega) (by assumption) | exact st_e (by decide) st_s | exact st_e (by omega) st_s | exact st_e (by decide) (st_e (by decide) (by assumption)) | exact st_e (by omega) (st_e (by omega) (by assumption))) (And.intro rfl (ab_inv_ev (m_bad0 p57 p0 1 0) (by first | decide | omega) (by first | exact Nat.le_refl _ | omega) (by first | exact Nat.le_refl _ | omega) ?_)))
    refine And.intro (by first | assumption | exact b2i_R _ | exact rR (by omega) (by omega) | exact rR (by simp only [Int.toNat_natCast]; omega) (by simp only [Int.toNat_natCast]; omega)) (And.intro (fun q => ?_) (fun q => ?_))
    · obtain ⟨k', rfl⟩ : ∃ m : Nat, k = (m : Int) := ⟨k.toNat, by omega⟩
      have khi := hI0.hR (i := k') (by omega)
      have hjh := hi0_tn (rows := rows) (R k')
      have hJI := hI0.res (k := k') (by omega) hjh
      have h72 := hI0.h72
      have j57 := hJI.h57
      have j72 := hJI.h72
      have hJ := m_turns p57 p13 hr (by omega) (hI0.rs (k := k') (by omega)) khi
      have hma := m_many2 (h := 73 + k') j57 hJI.t13 hr st_s hjh
      refine hA 5 _ rfl _ _ _ _ _ ?_
      refine Exists.intro _ (And.intro (p57) ?_)
      refine Exists.intro _ (Exists.intro _ (And.intro (h72) (And.intro (by omega) ?_)))
      refine Exists.intro _ (And.intro p57 (And.intro rfl (ab_inv_ev hJ (by first | decide | omega) (by first | exact Nat.le_refl _ | omega) (by first | exact Nat.le_refl _ | omega) ?_)))
      refine Exists.intro _ (And.intro (j57) ?_)
      refine Exists.intro _ (Exists.intro _ (And.intro (j72) (And.intro (by omega) ?_)))
      refine Exists.intro _ (And.intro j57 (And.intro rfl (ab_inv_ev hma (by first | decide | omega) (by first | exact Nat.le_refl _ | omega) (by first | exact Nat.le_refl _ | omega) ?_)))
      exact md_ok (by unfold sg_turn; rw [if_pos hP1] <;> rfl) rfl (hf0.st (by unfold mA; omega)) hJI
    · exact absurd rfl q
  have gF1 : ¬ (0 ≤ k ∧ k ≤ 5) → At 3 [some (rf 57), some (.inl k)] [.inl 1, rf 57] σ0 0 0 := fun hP1 => by
    refine hA 3 _ rfl _ _ _ _ _ ?_
    refine Exists.intro _ (And.intro (by first | assumption | exact st_s | exact st_e (by decide) (by assumption) | exact st_e (by omega) (by assumption) | exact st_e (by decide) st_s | exact st_e (by omega) st_s | exact st_e (by decide) (st_e (by decide) (by assumption)) | exact st_e (by omega) (st_e (by omega) (by assumption))) (And.intro rfl (ab_inv_ev (m_bad1 p57 p0 p58 1 0 (by decide) (by decide) (by decide)) (by first | decide | omega) (by first | exact Nat.le_refl _ | omega) (by first | exact Nat.le_refl _ | omega) ?_)))
    refine And.intro (by first | assumption | exact b2i_R _ | exact rR (by omega) (by omega) | exact rR (by simp only [Int.toNat_natCast]; omega) (by simp only [Int.toNat_natCast]; omega)) (And.intro (fun q => ?_) (fun q => ?_))
    · exact absurd q (by decide)
    · refine hA 4 _ rfl _ _ _ _ _ ?_
      exact md_no (by unfold sg_turn; rw [if_neg hP1] <;> rfl) hf0 hI0 rfl
  have gO1 : ¬ (0 ≤ k ∧ k ≤ 5) → At 1 [some (rf 57), some (.inl k)] [rf 57] σ0 0 0 := fun h => by
    refine hA 1 _ rfl _ _ _ _ _ ?_
    exact gF1 h
  have gZ1 : (0 ≤ k ∧ k ≤ 5) → At 2 [some (rf 57), some (.inl k)] [rf 57] σ0 0 0 := fun h => by
    refine hA 2 _ rfl _ _ _ _ _ ?_
    exact gK1 h
  refine hA 0 _ rfl _ _ _ _ _ ?_
  refine Exists.intro _ (And.intro (q57) ?_)
  rw [m10_s0, ht0, hs0]
  refine Exists.intro _ (And.intro (by first | assumption | exact st_s | exact st_e (by decide) (by assumption) | exact st_e (by omega) (by assumption) | exact st_e (by decide) st_s | exact st_e (by omega) st_s | exact st_e (by decide) (st_e (by decide) (by assumption)) | exact st_e (by omega) (st_e (by omega) (by assumption))) (And.intro rfl (ab_inv_ev (m_isResult k hk) (by first | decide | omega) (by first | exact Nat.le_refl _ | omega) (by first | exact Nat.le_refl _ | omega) ?_)))
  refine And.intro (by first | assumption | exact b2i_R _ | exact rR (by omega) (by omega) | exact rR (by simp only [Int.toNat_natCast]; omega) (by simp only [Int.toNat_natCast]; omega)) (And.intro (fun q => ?_) (fun q => ?_))
  · have q00 := of_decide_eq_true (b2i_1 q)
    exact gZ1 (by omega)
  · exact gO1 (by have q1 := of_decide_eq_false (b2i_0 q); omega)
set_option maxRecDepth 100000 in
set_option maxHeartbeats 1000000 in
theorem g_delete (hI : MI σ cc rows K va R f n pl c t r th) (row : Int) (hrow : ab_R row) : ab_call 12 0 0 yX10_delete [rf 57, .inl row] σ (mdP σ (cc, rows, K, va, R, f, n, pl, c) r (fun i => (i : Int) + 1) (sg_delete cc rows K va R f n pl c row)) := by
  have q57 := hI.h57
  have hr := hI.hr
  have hcc := hI.hc
  have hgl := gu_le hr
  have hI0 := hI.uth 0
  have hf0 : fr mA σ (ab_st σ 57 (m10 (ab_up t 0 0))) := fr_st (by unfold mA; omega)
  generalize ht0 : ab_up t 0 0 = t0 at hI0 hf0
  generalize hs0 : ab_st σ 57 (m10 t0) = σ0 at hI0 hf0
  have p57 := hI0.h57
  have p58 := hI0.h58
  have p0 := hI0.t0
  have p2 := hI0.t2
  have p12 := hI0.t12
  have p13 := hI0.t13
  refine eX10_delete rfl (fun At hA => ?_)
  have gK1 : ((0 ≤ row ∧ row < rows) ∧ bit (R 6) row.toNat = true) → At 4 [some (rf 57), some (.inl row)] [.inl 0, rf 57] σ0 0 0 := fun hP1 => by
    refine hA 4 _ rfl _ _ _ _ _ ?_
    refine Exists.intro _ (And.intro (by first | assumption | exact st_s | exact st_e (by decide) (by assumption) | exact st_e (by omega) (by assumption) | exact st_e (by decide) st_s | exact st_e (by omega) st_s | exact st_e (by decide) (st_e (by decide) (by assumption)) | exact st_e (by omega) (st_e (by omega) (by assumption))) (And.intro rfl (ab_inv_ev (m_bad0 p57 p0 1 0) (by first | decide | omega) (by first | exact Nat.le_refl _ | omega) (by first | exact Nat.le_refl _ | omega) ?_)))
    refine And.intro (by first | assumption | exact b2i_R _ | exact rR (by omega) (by omega) | exact rR (by simp only [Int.toNat_natCast]; omega) (by simp only [Int.toNat_natCast]; omega)) (And.intro (fun q => ?_) (fun q => ?_))
    · obtain ⟨row', rfl⟩ : ∃ m : Nat, row = (m : Int) := ⟨row.toNat, by omega⟩
      have hP2 := hP1.2
      rw [Int.toNat_natCast] at hP2
      have hlh := hI0.hR (i := 6) (by omega)
      obtain ⟨gn, q71, hJI⟩ := hI0.del (row := row') (by omega)
      have j57 := hJI.h57
      refine hA 6 _ rfl _ _ _ _ _ ?_
      refine Exists.intro _ (And.intro (p57) ?_)
      refine Exists.intro _ (Exists.intro _ (And.intro q71 (And.intro (by omega) (And.intro (Or.inr rfl) ?_))))
      refine Exists.intro _ (And.intro j57 (And.intro rfl (ab_inv_ev (m_alive hJI) (by first | decide | omega) (by first | exact Nat.le_refl _ | omega) (by first | exact Nat.le_refl _ | omega) ?_)))
      exact md_ok (by unfold sg_delete; rw [if_pos hP1] <;> rfl) (by rw [ab_up_s]; rfl) (hf0.st (by unfold mA; omega)) hJI
    · exact absurd rfl q
  have gF1 : ¬ ((0 ≤ row ∧ row < rows) ∧ bit (R 6) row.toNat = true) → At 4 [some (rf 57), some (.inl row)] [.inl 1, rf 57] σ0 0 0 := fun hP1 => by
    refine hA 4 _ rfl _ _ _ _ _ ?_
    refine Exists.intro _ (And.intro (by first | assumption | exact st_s | exact st_e (by decide) (by assumption) | exact st_e (by omega) (by assumption) | exact st_e (by decide) st_s | exact st_e (by omega) st_s | exact st_e (by decide) (st_e (by decide) (by assumption)) | exact st_e (by omega) (st_e (by omega) (by assumption))) (And.intro rfl (ab_inv_ev (m_bad1 p57 p0 p58 1 0 (by decide) (by decide) (by decide)) (by first | decide | omega) (by first | exact Nat.le_refl _ | omega) (by first | exact Nat.le_refl _ | omega) ?_)))
    refine And.intro (by first | assumption | exact b2i_R _ | exact rR (by omega) (by omega) | exact rR (by simp only [Int.toNat_natCast]; omega) (by simp only [Int.toNat_natCast]; omega)) (And.intro (fun q => ?_) (fun q => ?_))
    · exact absurd q (by decide)
    · refine hA 5 _ rfl _ _ _ _ _ ?_
      exact md_no (by unfold sg_delete; rw [if_neg hP1] <;> rfl) hf0 hI0 rfl
  have gO1 : ¬ ((0 ≤ row ∧ row < rows) ∧ bit (R 6) row.toNat = true) → At 2 [some (rf 57), some (.inl row)] [rf 57] σ0 0 0 := fun h => by
    refine hA 2 _ rfl _ _ _ _ _ ?_
    exact gF1 h
  have gZ1 : ((0 ≤ row ∧ row < rows) ∧ bit (R 6) row.toNat = true) → At 3 [some (rf 57), some (.inl row)] [rf 57] σ0 0 0 := fun h => by
    refine hA 3 _ rfl _ _ _ _ _ ?_
    exact gK1 h
  refine hA 0 _ rfl _ _ _ _ _ ?_
  refine Exists.intro _ (And.intro (q57) ?_)
  rw [m10_s0, ht0, hs0]
  refine Exists.intro _ (And.intro (by first | assumption | exact st_s | exact st_e (by decide) (by assumption) | exact st_e (by omega) (by assumption) | exact st_e (by decide) st_s | exact st_e (by omega) st_s | exact st_e (by decide) (st_e (by decide) (by assumption)) | exact st_e (by omega) (st_e (by omega) (by assumption))) ?_)
  refine And.intro rfl (ab_inv_ev (m_in row 0 (t0 13 - 1) hrow (rR (by omega) (by omega)) (rR (by omega) (by omega))) (by first | decide | omega) (by first | exact Nat.le_refl _ | omega) (by first | exact Nat.le_refl _ | omega) ?_)
  refine And.intro (by first | assumption | exact b2i_R _ | exact rR (by omega) (by omega) | exact rR (by simp only [Int.toNat_natCast]; omega) (by simp only [Int.toNat_natCast]; omega)) (And.intro (fun q => ?_) (fun q => ?_))
  · have q1 := of_decide_eq_false (b2i_0 q)
    exact gO1 (fun h => by omega)
  · have q1 := of_decide_eq_true (b2i_1 q)
    obtain ⟨row', rfl⟩ : ∃ m : Nat, row = (m : Int) := ⟨row.toNat, by omega⟩
    obtain ⟨gn, q71, hgn⟩ := hI0.g
    have hgr := hgn row' (by omega)
    have hmo := m_more (σ := σ0) (row' : Nat) 0 (rR (by omega) (by omega)) (rR (by omega) (by omega))
    have emo : (if ((row' : Nat) : Int) ≤ 0 then (0 : Int) else ((row' : Nat) : Int)) = (row' : Nat) := by split <;> omega
    rw [emo] at hmo
    have hle := m_less (σ := σ0) (row' : Nat) 1499 (rR (by omega) (by omega)) (rR (by omega) (by omega))
    have ele : (if (1499 : Int) ≤ ((row' : Nat) : Int) then (1499 : Int) else ((row' : Nat) : Int)) = (row' : Nat) := by split <;> omega
    rw [ele] at hle
    have hgR : ab_R (gn row') := by rw [hgr]; exact b2i_R _
    refine hA 1 _ rfl _ _ _ _ _ ?_
    refine Exists.intro _ (And.intro (p57) ?_)
    refine And.intro rfl (ab_inv_ev hmo (by first | decide | omega) (by first | exact Nat.le_refl _ | omega) (by first | exact Nat.le_refl _ | omega) ?_)
    refine And.intro rfl (ab_inv_ev hle (by first | decide | omega) (by first | exact Nat.le_refl _ | omega) (by first | exact Nat.le_refl _ | omega) ?_)
    refine Exists.intro _ (Exists.intro _ (And.intro (q71) (And.intro (by omega) ?_)))
    refine And.intro hgR (And.intro (fun q => ?_) (fun q => ?_))
    · have q : gn row' = 0 := q
      rw [hgr] at q
      have hb := b2i_0 q
      refine gZ1 ⟨by omega, ?_⟩
      rw [Int.toNat_natCast]
      cases h : bit (R 6) row'
      · rw [h] at hb; cases hb
      · rfl
    · have q : gn row' ≠ 0 := q
      rw [hgr] at q
      have hb := b2i_1 q
      refine gO1 (fun h => ?_)
      have h2 := h.2
      rw [Int.toNat_natCast] at h2
      rw [h2] at hb
      cases hb
set_option maxRecDepth 100000 in
set_option maxHeartbeats 1000000 in
theorem g_feed (hI : MI σ cc rows K va R f n pl c t r th) (a b x y z : Int) (ha : ab_R a) (hb : ab_R b) (hx : ab_R x) (hy : ab_R y) (hz : ab_R z) : ab_call 12 0 0 yX10_feed [rf 57, .inl a, .inl b, .inl x, .inl y, .inl z] σ (mdP σ (cc, rows, K, va, R, f, n, pl, c) r (fun i => (i : Int)) (sg_feed cc rows K va R f n pl c a b x y z)) := by
  have q57 := hI.h57
  have hr := hI.hr
  have hcc := hI.hc
  have hgl := gu_le hr
  have hI0 := hI.uth 0
  have hf0 : fr mA σ (ab_st σ 57 (m10 (ab_up t 0 0))) := fr_st (by unfold mA; omega)
  generalize ht0 : ab_up t 0 0 = t0 at hI0 hf0
  generalize hs0 : ab_st σ 57 (m10 t0) = σ0 at hI0 hf0
  have p57 := hI0.h57
  have p58 := hI0.h58
  have p0 := hI0.t0
  have p2 := hI0.t2
  have p12 := hI0.t12
  have p13 := hI0.t13
  refine eX10_feed rfl (fun At hA => ?_)
  have hn4 := hI0.1.2.2.2.2.2
  refine hA 0 _ rfl _ _ _ _ _ ?_
  refine Exists.intro _ (And.intro (q57) ?_)
  rw [m10_s0, ht0, hs0]
  refine Exists.intro _ (And.intro (by first | assumption | exact st_s | exact st_e (by decide) (by assumption) | exact st_e (by omega) (by assumption) | exact st_e (by decide) st_s | exact st_e (by omega) st_s | exact st_e (by decide) (st_e (by decide) (by assumption)) | exact st_e (by omega) (st_e (by omega) (by assumption))) ?_)
  refine And.intro (And.intro (by first | assumption | exact b2i_R _ | exact rR (by omega) (by omega) | exact rR (by simp only [Int.toNat_natCast]; omega) (by simp only [Int.toNat_natCast]; omega)) (by first | assumption | exact b2i_R _ | exact rR (by omega) (by omega) | exact rR (by simp only [Int.toNat_natCast]; omega) (by simp only [Int.toNat_natCast]; omega))) (And.intro (fun q => ?_) (fun q => ?_))
  · skip
    have hby := hI0.1.2.2.2.2.1
    have hn : ¬ 380 < n := by omega
    have hbk : ∀ k, byR (fdB f n (fun k => if k < 4 then a else if k < 8 then b else if k < 12 then x else if k < 16 then y else z) k) := fdB_R hby
    have go : ∀ (k : Nat) (w : Int), k < 20 → w = (fun k => if k < 4 then a else if k < 8 then b else if k < 12 then x else if k < 16 then y else z) k → At 3 [some (rf 57), some (.inl a), some (.inl b), some (.inl x), some (.inl y), some (.inl z), some (.inl ((k + 1 : Nat) : Int)), some (.inl w)] [] (ab_st (ab_st σ0 59 (bya ((fdB f n (fun k => if k < 4 then a else if k < 8 then b else if k < 12 then x else if k < 16 then y else z) (k + 1))))) 57 (m10 (ab_up t0 2 ((n + (k + 1) : Nat) : Int)))) 0 0 → ∀ y9, At 13 [some (rf 57), some (.inl a), some (.inl b), some (.inl x), some (.inl y), some (.inl z), some (.inl k), y9] [.inl w] (ab_st (ab_st σ0 59 (bya ((fdB f n (fun k => if k < 4 then a else if k < 8 then b else if k < 12 then x else if k < 16 then y else z) k)))) 57 (m10 (ab_up t0 2 ((n + k : Nat) : Int)))) 0 0 := fun k w hk hw hnext y9 => by
      have g57 : (ab_st (ab_st σ0 59 (bya ((fdB f n (fun k => if k < 4 then a else if k < 8 then b else if k < 12 then x else if k < 16 then y else z) k)))) 57 (m10 (ab_up t0 2 ((n + k : Nat) : Int)))).2 57 = some (m10 (ab_up t0 2 ((n + k : Nat) : Int))) := st_s
      have g59 : (ab_st (ab_st σ0 59 (bya ((fdB f n (fun k => if k < 4 then a else if k < 8 then b else if k < 12 then x else if k < 16 then y else z) k)))) 57 (m10 (ab_up t0 2 ((n + k : Nat) : Int)))).2 59 = some (bya ((fdB f n (fun k => if k < 4 then a else if k < 8 then b else if k < 12 then x else if k < 16 then y else z) k))) := st_e (by omega) st_s
      have e2 : ab_up t0 2 ((n + k : Nat) : Int) 2 = ((n + k : Nat) : Int) := ab_up_s
      have es : (24 : Int) - 8 * (((k : Nat) : Int) % 4) = ((24 - 8 * (k % 4) : Nat) : Int) := by omega
      have eb : ab_and (ab_shr w (24 - 8 * (((k : Nat) : Int) % 4))) 255 = byZ w (24 - 8 * (k % 4)) := by rw [es, byZ_s _ _ (by omega)]
      have eu : ab_st (ab_st (ab_st (ab_st σ0 59 (bya ((fdB f n (fun k => if k < 4 then a else if k < 8 then b else if k < 12 then x else if k < 16 then y else z) k)))) 57 (m10 (ab_up t0 2 ((n + k : Nat) : Int)))) 59 (bya (ab_up ((fdB f n (fun k => if k < 4 then a else if k < 8 then b else if k < 12 then x else if k < 16 then y else z) k)) (n + k) (ab_and (ab_shr w (24 - 8 * (((k : Nat) : Int) % 4))) 255)))) 57 (m10 (ab_up (ab_up t0 2 ((n + k : Nat) : Int)) 2 (((n + k : Nat) : Int) + 1))) = ab_st (ab_st σ0 59 (bya ((fdB f n (fun k => if k < 4 then a else if k < 8 then b else if k < 12 then x else if k < 16 then y else z) (k + 1))))) 57 (m10 (ab_up t0 2 ((n + (k + 1) : Nat) : Int))) := by
        rw [st_3 (by omega), st_st, eb, up_up, hw]
        rfl
      rw [← eu] at hnext
      refine hA 13 _ rfl _ _ _ _ _ ?_
      refine Exists.intro _ (And.intro (g57) ?_)
      refine Exists.intro _ (And.intro (g57) ?_)
      rw [e2]
      refine And.intro ⟨by omega, rR (by omega) (by omega), by omega, rR (by omega) (by omega)⟩ ?_
      refine Exists.intro _ (Exists.intro _ (And.intro (g59) (And.intro (by omega) ?_)))
      rw [Int.toNat_natCast]
      have k57 : (ab_st (ab_st (ab_st σ0 59 (bya ((fdB f n (fun k => if k < 4 then a else if k < 8 then b else if k < 12 then x else if k < 16 then y else z) k)))) 57 (m10 (ab_up t0 2 ((n + k : Nat) : Int)))) 59 (bya (ab_up ((fdB f n (fun k => if k < 4 then a else if k < 8 then b else if k < 12 then x else if k < 16 then y else z) k)) (n + k) (ab_and (ab_shr w (24 - 8 * (((k : Nat) : Int) % 4))) 255)))).2 57 = some (m10 (ab_up t0 2 ((n + k : Nat) : Int))) := st_e (by omega) g57
      refine Exists.intro _ (And.intro (k57) ?_)
      rw [e2]
      refine Exists.intro _ (And.intro (k57) ?_)
      rw [m10_s2]
      exact hnext
    have loop : ∀ (m k : Nat) (y9 : Option ab_V), k + m = 20 → At 3 [some (rf 57), some (.inl a), some (.inl b), some (.inl x), some (.inl y), some (.inl z), some (.inl k), y9] [] (ab_st (ab_st σ0 59 (bya ((fdB f n (fun k => if k < 4 then a else if k < 8 then b else if k < 12 then x else if k < 16 then y else z) k)))) 57 (m10 (ab_up t0 2 ((n + k : Nat) : Int)))) 0 0 := by
      intro m
      induction m with
      | zero =>
        intro k y9 hk
        have hk : k = 20 := by omega
        subst hk
        have g57 : (ab_st (ab_st σ0 59 (bya ((fdB f n (fun k => if k < 4 then a else if k < 8 then b else if k < 12 then x else if k < 16 then y else z) 20)))) 57 (m10 (ab_up t0 2 ((n + 20 : Nat) : Int)))).2 57 = some (m10 (ab_up t0 2 ((n + 20 : Nat) : Int))) := st_s
        have hJI := hI0.fd (f' := (fdB f n (fun k => if k < 4 then a else if k < 8 then b else if k < 12 then x else if k < 16 then y else z) 20)) (n' := n + 20) (hbk 20) (by omega)
        refine hA 3 _ rfl _ _ _ _ _ ?_
        refine And.intro (And.intro (by first | assumption | exact b2i_R _ | exact rR (by omega) (by omega) | exact rR (by simp only [Int.toNat_natCast]; omega) (by simp only [Int.toNat_natCast]; omega)) (by first | assumption | exact b2i_R _ | exact rR (by omega) (by omega) | exact rR (by simp only [Int.toNat_natCast]; omega) (by simp only [Int.toNat_natCast]; omega))) (And.intro (fun q => ?_) (fun q => ?_))
        · refine hA 14 _ rfl _ _ _ _ _ ?_
          refine Exists.intro _ (And.intro (g57) ?_)
          refine md_ok (x := ((n + 20 : Nat) : Int)) (e := fun i => (i : Int)) ?_ ab_up_s ((hf0.st (by unfold mA; omega)).st (by unfold mA; omega)) hJI
          unfold sg_feed
          rw [if_neg hn, fdB_20]
        · exact absurd q (by decide)
      | succ m ih =>
        intro k y9 hk
        refine hA 3 _ rfl _ _ _ _ _ ?_
        refine And.intro (And.intro (by first | assumption | exact b2i_R _ | exact rR (by omega) (by omega) | exact rR (by simp only [Int.toNat_natCast]; omega) (by simp only [Int.toNat_natCast]; omega)) (by first | assumption | exact b2i_R _ | exact rR (by omega) (by omega) | exact rR (by simp only [Int.toNat_natCast]; omega) (by simp only [Int.toNat_natCast]; omega))) (And.intro (fun q => ?_) (fun q => ?_))
        · omega
        · refine hA 4 _ rfl _ _ _ _ _ ?_
          refine And.intro (And.intro (by first | assumption | exact b2i_R _ | exact rR (by omega) (by omega) | exact rR (by simp only [Int.toNat_natCast]; omega) (by simp only [Int.toNat_natCast]; omega)) (by first | assumption | exact b2i_R _ | exact rR (by omega) (by omega) | exact rR (by simp only [Int.toNat_natCast]; omega) (by simp only [Int.toNat_natCast]; omega))) (And.intro (fun q => ?_) (fun q => ?_))
          · refine hA 6 _ rfl _ _ _ _ _ ?_
            refine And.intro (And.intro (by first | assumption | exact b2i_R _ | exact rR (by omega) (by omega) | exact rR (by simp only [Int.toNat_natCast]; omega) (by simp only [Int.toNat_natCast]; omega)) (by first | assumption | exact b2i_R _ | exact rR (by omega) (by omega) | exact rR (by simp only [Int.toNat_natCast]; omega) (by simp only [Int.toNat_natCast]; omega))) (And.intro (fun q => ?_) (fun q => ?_))
            · refine hA 8 _ rfl _ _ _ _ _ ?_
              refine And.intro (And.intro (by first | assumption | exact b2i_R _ | exact rR (by omega) (by omega) | exact rR (by simp only [Int.toNat_natCast]; omega) (by simp only [Int.toNat_natCast]; omega)) (by first | assumption | exact b2i_R _ | exact rR (by omega) (by omega) | exact rR (by simp only [Int.toNat_natCast]; omega) (by simp only [Int.toNat_natCast]; omega))) (And.intro (fun q => ?_) (fun q => ?_))
              · refine hA 10 _ rfl _ _ _ _ _ ?_
                refine And.intro (And.intro (by first | assumption | exact b2i_R _ | exact rR (by omega) (by omega) | exact rR (by simp only [Int.toNat_natCast]; omega) (by simp only [Int.toNat_natCast]; omega)) (by first | assumption | exact b2i_R _ | exact rR (by omega) (by omega) | exact rR (by simp only [Int.toNat_natCast]; omega) (by simp only [Int.toNat_natCast]; omega))) (And.intro (fun q => ?_) (fun q => ?_))
                · refine hA 12 _ rfl _ _ _ _ _ ?_
                  exact go k _ (by omega) (by dsimp only; rw [if_neg (by omega), if_neg (by omega), if_neg (by omega), if_neg (by omega)]) (ih (k + 1) _ (by omega)) _
                · refine hA 11 _ rfl _ _ _ _ _ ?_
                  exact go k _ (by omega) (by dsimp only; rw [if_neg (by omega), if_neg (by omega), if_neg (by omega), if_pos (by omega)]) (ih (k + 1) _ (by omega)) _
              · refine hA 9 _ rfl _ _ _ _ _ ?_
                exact go k _ (by omega) (by dsimp only; rw [if_neg (by omega), if_neg (by omega), if_pos (by omega)]) (ih (k + 1) _ (by omega)) _
            · refine hA 7 _ rfl _ _ _ _ _ ?_
              exact go k _ (by omega) (by dsimp only; rw [if_neg (by omega), if_pos (by omega)]) (ih (k + 1) _ (by omega)) _
          · refine hA 5 _ rfl _ _ _ _ _ ?_
            exact go k _ (by omega) (by dsimp only; rw [if_pos (by omega)]) (ih (k + 1) _ (by omega)) _
    have l0 := loop 20 0 none (by omega)
    have e0 : ab_st (ab_st σ0 59 (bya ((fdB f n (fun k => if k < 4 then a else if k < 8 then b else if k < 12 then x else if k < 16 then y else z) 0)))) 57 (m10 (ab_up t0 2 ((n + 0 : Nat) : Int))) = σ0 := by
      have e1 : ab_up t0 2 ((n + 0 : Nat) : Int) = t0 := by
        funext j
        unfold ab_up
        by_cases h : j = 2
        · rw [if_pos h, h]; exact p2.symm
        · rw [if_neg h]
      rw [e1, show (fdB f n (fun k => if k < 4 then a else if k < 8 then b else if k < 12 then x else if k < 16 then y else z) 0) = f from rfl, st_id hI0.h59, st_id p57]
    rw [e0] at l0
    refine hA 2 _ rfl _ _ _ _ _ ?_
    exact l0
  · refine hA 1 _ rfl _ _ _ _ _ ?_
    refine md_ok (e := fun i => (i : Int)) ?_ rfl hf0 hI0
    unfold sg_feed
    rw [if_pos (by omega)]
end Mchg
