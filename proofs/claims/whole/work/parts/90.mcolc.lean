-- ===== the model: a column made =====
def WSS (S : St) : Prop := match S with
  | (cc, rows, K, va, R, f, n, _, _) => WS cc rows K va R f n
section Mcolc
variable {σ : ab_H} {cc rows : Nat} {K : Nat → CT} {va : Nat → Nat → Nat} {R : Nat → V1} {f : Nat → Int} {n : Nat} {pl : Int} {c : C3} {t : Nat → Int} {r : Nat → Nat} {th : Int}
theorem MI.tp (hI : MI σ cc rows K va R f n pl c t r th) {t' : Nat → Int} {n' : Nat} {pl' : Int} (hn : n' ≤ 400) (h2 : t' 2 = n') (h5 : t' 5 = pl') (h : ∀ j, j = 0 ∨ j = 12 ∨ j = 13 ∨ j = 24 ∨ j = 25 ∨ j = 26 → t' j = t j) : MI (ab_st σ 57 (m10 t')) cc rows K va R f n' pl' c t' r th := by
  obtain ⟨⟨w1, w2, w3, w4, w5, -⟩, s, co, v, gn, hm, ⟨f0, f1, f2, f3, f4, f5, f6, f7⟩, fx⟩ := hI
  exact ⟨⟨w1, w2, w3, w4, w5, hn⟩, s.ne (by omega), co, v, gn, hm.ut t', ⟨(h 0 (by omega)).trans f0, h2, h5, (h 12 (by omega)).trans f3, (h 13 (by omega)).trans f4, (h 24 (by omega)).trans f5, (h 25 (by omega)).trans f6, (h 26 (by omega)).trans f7⟩, fx⟩
theorem MI.a65 (hI : MI σ cc rows K va R f n pl c t r th) (g : Nat → Int) : MI (ab_st σ 65 (iar 7 g)) cc rows K va R f n pl c t r th := by
  obtain ⟨w, s, co, v, gn, ⟨k1, k2, k3, ⟨k4, k5⟩, ⟨g9, k6⟩, ⟨k7, k8⟩, k9, ⟨l1, l2⟩, l3, l4⟩, fx⟩ := hI
  exact ⟨w, s.ne (by omega), co, v, gn, ⟨st_e (by omega) k1, st_e (by omega) k2, st_e (by omega) k3, ⟨st_e (by omega) k4, fun c hc => st_e (by omega) (k5 c hc)⟩, ⟨g, st_s⟩, ⟨st_e (by omega) k7, fun c hc => st_e (by omega) (k8 c hc)⟩, st_e (by omega) k9, ⟨st_e (by omega) l1, fun i hi => st_e (by omega) (l2 i hi)⟩, st_e (by omega) l3, st_e (by omega) l4⟩, fx⟩
theorem MI.h65 (hI : MI σ cc rows K va R f n pl c t r th) : ∃ g : Nat → Int, σ.2 65 = some (iar 7 g) := hI.2.2.elim fun _ h => h.elim fun _ h => h.elim fun _ h => h.1.2.2.2.2.1
theorem MI.h60 (hI : MI σ cc rows K va R f n pl c t r th) : σ.2 60 = some (rfs 61 4) := hI.2.2.elim fun _ h => h.elim fun _ h => h.elim fun _ h => h.1.2.2.2.1.1
theorem MI.co (hI : MI σ cc rows K va R f n pl c t r th) {k : Nat} (hk : k < 4) : ∃ g : Nat → Int, σ.2 (61 + k) = some (iar 7 g) := hI.2.2.elim fun co h => h.elim fun _ h => h.elim fun _ h => ⟨co k, h.1.2.2.2.1.2 k hk⟩
/-- a column more -/
theorem MI.newc (hI : MI σ cc 0 K va R f n pl c t r th) {k : CT} {va' : Nat → Nat → Nat} (hw : WS (cc + 1) 0 (ab_up K cc k) va' R f n) {g : Nat → Int} (hg : g 0 = k.2.1 ∧ g 1 = k.2.2.1 ∧ g 2 = b2i k.1 ∧ ∀ p, p < k.2.2.1 → g (3 + p) = k.2.2.2 p) : MI (ab_st (ab_st σ (61 + cc) (iar 7 g)) 57 (m10 (ab_up t 12 ((cc : Int) + 1)))) (cc + 1) 0 (ab_up K cc k) va' R f n pl c (ab_up t 12 ((cc : Int) + 1)) r th := by
  have hcc : cc + 1 ≤ 4 := hw.1
  obtain ⟨w, s, co, v, gn, ⟨k1, k2, k3, ⟨k4, k5⟩, ⟨g9, k6⟩, ⟨k7, k8⟩, k9, ⟨l1, l2⟩, l3, l4⟩, ⟨f0, f1, f2, f3, f4, f5, f6, f7⟩, fk, fw, fg⟩ := hI
  have hup : ∀ j, j ≠ 12 → ab_up t 12 ((cc : Int) + 1) j = t j := fun j hj => ab_up_n hj
  refine ⟨hw, (s.ne (by omega)).ne (by omega), ab_up co cc g, v, gn, ⟨st_s, st_e (by omega) (st_e (by omega) k2), st_e (by omega) (st_e (by omega) k3), ⟨st_e (by omega) (st_e (by omega) k4), fun i hi => ?_⟩, ⟨g9, st_e (by omega) (st_e (by omega) k6)⟩, ⟨st_e (by omega) (st_e (by omega) k7), fun c hc => st_e (by omega) (st_e (by omega) (k8 c hc))⟩, st_e (by omega) (st_e (by omega) k9), ⟨st_e (by omega) (st_e (by omega) l1), fun i hi => st_e (by omega) (st_e (by omega) (l2 i hi))⟩, st_e (by omega) (st_e (by omega) l3), st_e (by omega) (st_e (by omega) l4)⟩, ⟨(hup _ (by omega)).trans f0, (hup _ (by omega)).trans f1, (hup _ (by omega)).trans f2, ab_up_s, (hup _ (by omega)).trans f4, (hup _ (by omega)).trans f5, (hup _ (by omega)).trans f6, (hup _ (by omega)).trans f7⟩, fun i hi => ?_, fun i hi x hx => by omega, fun x hx => by omega⟩
  · by_cases e : i = cc
    · subst e; rw [ab_up_s]; exact st_e (by omega) st_s
    · rw [ab_up_n e]; exact st_e (by omega) (st_e (by omega) (k5 i hi))
  · by_cases e : i = cc
    · subst e; rw [ab_up_s, ab_up_s]; exact hg
    · rw [ab_up_n e, ab_up_n e]; exact fk i (by omega)
def stT (t : Nat → Int) (x : Int) : Nat → Int := ab_up (ab_up (ab_up (ab_up (ab_up (ab_up t 2 0) 3 x) 4 0) 6 0) 7 (-1)) 8 0
set_option maxRecDepth 100000 in
set_option maxHeartbeats 1000000 in
theorem m_starts (h57 : σ.2 57 = some (m10 t)) (x : Int) : ab_ev 1 yX10_starts [rf 57, .inl x] σ none (ab_st σ 57 (m10 (stT t x))) := by
  refine eX10_starts rfl (fun At hA => ?_)
  refine hA 0 _ rfl _ _ _ _ _ ?_
  refine Exists.intro _ (And.intro (h57) ?_)
  rw [m10_s2]
  refine Exists.intro _ (And.intro (st_s) ?_)
  rw [m10_s3, st_st]
  refine Exists.intro _ (And.intro (st_s) ?_)
  rw [m10_s4, st_st]
  refine Exists.intro _ (And.intro (st_s) ?_)
  rw [m10_s6, st_st]
  refine Exists.intro _ (And.intro (st_s) ?_)
  rw [m10_s7, st_st]
  refine Exists.intro _ (And.intro (st_s) ?_)
  rw [m10_s8, st_st]
  exact ⟨rfl, rfl⟩
theorem stT_M (t f : Nat → Int) (x : Nat) : MT (stT t x) f x (.inr 0) := ⟨rfl, Nat.zero_le _, rfl, rfl, 0, Nat.zero_le _, rfl, rfl⟩
theorem stT_e {t : Nat → Int} {x : Int} {j : Nat} (h : j ≠ 2 ∧ j ≠ 3 ∧ j ≠ 4 ∧ j ≠ 6 ∧ j ≠ 7 ∧ j ≠ 8) : stT t x j = t j := by
  unfold stT
  rw [ab_up_n (by omega), ab_up_n (by omega), ab_up_n (by omega), ab_up_n (by omega), ab_up_n (by omega), ab_up_n (by omega)]
set_option maxRecDepth 100000 in
set_option maxHeartbeats 1000000 in
theorem m_ends (h57 : σ.2 57 = some (m10 t)) {len : Nat} {s : S2} (hM : MT t f len s) (z : Int) : ab_ev 2 yX10_ends [rf 57, .inl z] σ (some (.inl (if isR s = true then z else t 6 - 10))) (ab_st σ 57 (m10 (ab_up t 5 (t 7)))) := by
  have q57 : (ab_st σ 57 (m10 (ab_up t 5 (t 7)))).2 57 = some (m10 (ab_up t 5 (t 7))) := st_s
  have hM2 : MT (ab_up t 5 (t 7)) f len s := hM.op (fun j hj => ab_up_n (by omega))
  refine eX10_ends rfl (fun At hA => ?_)
  refine hA 0 _ rfl _ _ _ _ _ ?_
  refine Exists.intro _ (And.intro (h57) ?_)
  refine Exists.intro _ (And.intro (h57) ?_)
  rw [m10_s5]
  refine Exists.intro _ (And.intro q57 (And.intro rfl (ab_inv_ev (m_fine q57 hM2) (by first | decide | omega) (by first | exact Nat.le_refl _ | omega) (by first | exact Nat.le_refl _ | omega) ?_)))
  refine And.intro (b2i_R _) (And.intro (fun q => ?_) (fun q => ?_))
  · refine hA 2 _ rfl _ _ _ _ _ ?_
    refine Exists.intro _ (And.intro (by first | assumption | exact st_s | exact st_e (by decide) (by assumption) | exact st_e (by omega) (by assumption) | exact st_e (by decide) st_s | exact st_e (by omega) st_s | exact st_e (by decide) (st_e (by decide) (by assumption)) | exact st_e (by omega) (st_e (by omega) (by assumption))) ?_)
    refine hA 3 _ rfl _ _ _ _ _ ?_
    rw [if_neg (by rw [b2i_0 q]; exact Bool.false_ne_true), ab_up_n (by omega)]
    exact ⟨rfl, rfl⟩
  · refine hA 1 _ rfl _ _ _ _ _ ?_
    refine hA 3 _ rfl _ _ _ _ _ ?_
    rw [if_pos (b2i_1 q)]
    exact ⟨rfl, rfl⟩
set_option maxRecDepth 100000 in
set_option maxHeartbeats 1000000 in
theorem g_column (hI : MI σ cc rows K va R f n pl c t r th) (x : Int) (hx : ab_R x) (hW : ∀ y S, sg_column cc rows K va R f n c x = .inl (y, S) → WSS S) : ab_call 12 0 0 yX10_column [rf 57, .inl x] σ (mdP σ (cc, rows, K, va, R, f, n, pl, c) r (fun i => (i : Int)) (sg_column cc rows K va R f n c x)) := by
  have q57 := hI.h57
  have hr := hI.hr
  have hcc := hI.hc
  have hgl := gu_le hr
  have hI0 := hI.uth 0
  have hf0 : fr mA σ (ab_st σ 57 (m10 (ab_up t 0 0))) := fr_st (by unfold mA; omega)
  generalize ht0 : ab_up t 0 0 = t0 at hI0 hf0
  generalize hs0 : ab_st σ 57 (m10 t0) = σ0 at hI0 hf0
  have p57 := hI0.h57
  have p58 := hI0.h58
  have p0 := hI0.t0
  have p2 := hI0.t2
  have p12 := hI0.t12
  have p13 := hI0.t13
  have hn4 := hI0.1.2.2.2.2.2
  have hle := m_less (σ := σ0) 200 (t0 2) (rR (by omega) (by omega)) (rR (by omega) (by omega))
  have hmn : (if t0 2 ≤ (200 : Int) then t0 2 else 200) = ((min 200 n : Nat) : Int) := by split <;> omega
  rw [hmn] at hle
  refine eX10_column rfl (fun At hA => ?_)
  have gK1 : (0 ≤ x ∧ x ≤ 200 ∧ x ≤ n) → At 3 [some (rf 57), some (.inl x), none] [.inl 0, rf 57] σ0 0 0 := fun hP1 => by
    refine hA 3 _ rfl _ _ _ _ _ ?_
    refine Exists.intro _ (And.intro (by first | assumption | exact st_s | exact st_e (by decide) (by assumption) | exact st_e (by omega) (by assumption) | exact st_e (by decide) st_s | exact st_e (by omega) st_s | exact st_e (by decide) (st_e (by decide) (by assumption)) | exact st_e (by omega) (st_e (by omega) (by assumption))) (And.intro rfl (ab_inv_ev (m_bad0 p57 p0 1 1) (by first | decide | omega) (by first | exact Nat.le_refl _ | omega) (by first | exact Nat.le_refl _ | omega) ?_)))
    refine And.intro (by first | assumption | exact b2i_R _ | exact rR (by omega) (by omega) | exact rR (by simp only [Int.toNat_natCast]; omega) (by simp only [Int.toNat_natCast]; omega)) (And.intro (fun q => ?_) (fun q => ?_))
    · exact absurd rfl q
    · have gK2 : (rows = 0 ∧ cc < 4) → At 8 [some (rf 57), some (.inl x), none] [.inl 0, rf 57] σ0 0 0 := fun hP2 => by
        refine hA 8 _ rfl _ _ _ _ _ ?_
        refine Exists.intro _ (And.intro (by first | assumption | exact st_s | exact st_e (by decide) (by assumption) | exact st_e (by omega) (by assumption) | exact st_e (by decide) st_s | exact st_e (by omega) st_s | exact st_e (by decide) (st_e (by decide) (by assumption)) | exact st_e (by omega) (st_e (by omega) (by assumption))) (And.intro rfl (ab_inv_ev (m_bad0 p57 p0 2 2) (by first | decide | omega) (by first | exact Nat.le_refl _ | omega) (by first | exact Nat.le_refl _ | omega) ?_)))
        refine And.intro (by first | assumption | exact b2i_R _ | exact rR (by omega) (by omega) | exact rR (by simp only [Int.toNat_natCast]; omega) (by simp only [Int.toNat_natCast]; omega)) (And.intro (fun q => ?_) (fun q => ?_))
        · obtain ⟨x', rfl⟩ : ∃ m : Nat, x = (m : Int) := ⟨x.toNat, by omega⟩
          obtain ⟨hrows, hc4⟩ := hP2
          subst hrows
          have hby := hI0.1.2.2.2.2.1
          have hst := m_starts p57 (x' : Nat)
          have hM0 := stT_M t0 f x'
          obtain ⟨g0, h65⟩ := hI0.h65
          have v57 : (ab_st σ0 57 (m10 (stT t0 (x' : Nat)))).2 57 = some (m10 (stT t0 (x' : Nat))) := st_s
          have hrc := m_readsColumn v57 (st_e (by omega) hI0.h59) hby (by omega) hM0 (st_e (by omega) h65)
          refine hA 10 _ rfl _ _ _ _ _ ?_
          refine Exists.intro _ (And.intro (by first | assumption | exact st_s | exact st_e (by decide) (by assumption) | exact st_e (by omega) (by assumption) | exact st_e (by decide) st_s | exact st_e (by omega) st_s | exact st_e (by decide) (st_e (by decide) (by assumption)) | exact st_e (by omega) (st_e (by omega) (by assumption))) (And.intro rfl (ab_inv_ev hst (by first | decide | omega) (by first | exact Nat.le_refl _ | omega) (by first | exact Nat.le_refl _ | omega) ?_)))
          refine Exists.intro _ (And.intro (by first | assumption | exact st_s | exact st_e (by decide) (by assumption) | exact st_e (by omega) (by assumption) | exact st_e (by decide) st_s | exact st_e (by omega) st_s | exact st_e (by decide) (st_e (by decide) (by assumption)) | exact st_e (by omega) (st_e (by omega) (by assumption))) (And.intro rfl (ab_inv_of hrc (by first | decide | omega) (by omega) (by omega) ?_)))
          intro z υ hpost
          obtain ⟨rfl, t1, g1, rfl, hU, hpost⟩ := hpost
          have e9 : ab_st (ab_st (ab_st σ0 57 (m10 (stT t0 (x' : Nat)))) 65 (iar 7 g1)) 57 (m10 t1) = ab_st (ab_st σ0 65 (iar 7 g1)) 57 (m10 t1) := st_3 (by omega)
          rw [e9]
          have hIg := hI0.a65 g1
          generalize hs2 : ab_st σ0 65 (iar 7 g1) = σ2 at hIg
          have s265 : σ2.2 65 = some (iar 7 g1) := by rw [← hs2]; exact st_s
          have hf2 : fr mA σ σ2 := by rw [← hs2]; exact hf0.st (by unfold mA; omega)
          have t1e : ∀ j, j ≠ 2 → j ≠ 3 → j ≠ 4 → j ≠ 6 → j ≠ 7 → j ≠ 8 → t1 j = t0 j := fun j h1 h2 h3 h4 h5 h6 => (hU j h3 h4 h5).trans (stT_e ⟨h1, h2, h3, h4, h5, h6⟩)
          have t12 : t1 2 = 0 := hU 2 (by omega) (by omega) (by omega)
          have w57 : (ab_st σ2 57 (m10 t1)).2 57 = some (m10 t1) := st_s
          have hsg : sg_column cc 0 K va R f n c (x' : Nat) = match colP f x' with
              | .inl (u, v) => .inl (u - 10, (cc, 0, K, va, R, f, 0, v, c))
              | .inr k => .inl ((cc : Nat), (cc + 1, 0, ab_up K cc k, ab_up va cc (fun _ => 0), R, f, 0, -1, c)) := by
            unfold sg_column
            rw [if_pos hP1, if_pos ⟨rfl, hc4⟩, Int.toNat_natCast]
            rcases colP f x' with ⟨u, v⟩ | k <;> rfl
          rw [hsg] at hW
          cases hC : colP f x' with
          | inl e =>
            obtain ⟨u, v⟩ := e
            rw [hC] at hpost hsg
            have hM1 : MT t1 f x' (.inl (u, v)) := hpost
            have hen := m_ends w57 hM1 (t1 12 - 1)
            rw [st_st, if_neg (show ¬ isR (.inl (u, v)) = true from Bool.false_ne_true)] at hen
            have hJ := hIg.tp (t' := ab_up t1 5 (t1 7)) (n' := 0) (pl' := v) (by omega) (by rw [ab_up_n (by omega)]; exact t12) (by rw [ab_up_s]; exact hM1.2.2.2.2.1) (fun j hj => by rw [ab_up_n (by omega)]; exact t1e j (by omega) (by omega) (by omega) (by omega) (by omega) (by omega))
            refine Exists.intro _ (And.intro (by first | assumption | exact st_s | exact st_e (by decide) (by assumption) | exact st_e (by omega) (by assumption) | exact st_e (by decide) st_s | exact st_e (by omega) st_s | exact st_e (by decide) (st_e (by decide) (by assumption)) | exact st_e (by omega) (st_e (by omega) (by assumption))) (And.intro rfl (ab_inv_ev (m_fine w57 hM1) (by first | decide | omega) (by first | exact Nat.le_refl _ | omega) (by first | exact Nat.le_refl _ | omega) ?_)))
            refine And.intro (by first | assumption | exact b2i_R _ | exact rR (by omega) (by omega) | exact rR (by simp only [Int.toNat_natCast]; omega) (by simp only [Int.toNat_natCast]; omega)) (And.intro (fun q => ?_) (fun q => ?_))
            · refine hA 15 _ rfl _ _ _ _ _ ?_
              refine Exists.intro _ (And.intro (w57) ?_)
              refine Exists.intro _ (And.intro w57 (And.intro rfl (ab_inv_ev hen (by first | decide | omega) (by first | exact Nat.le_refl _ | omega) (by first | exact Nat.le_refl _ | omega) ?_)))
              exact md_ok (S := (cc, 0, K, va, R, f, n, pl, c)) (e := fun i => (i : Int)) hsg (by rw [hM1.2.2.2.1]) (hf2.st (by unfold mA; omega)) hJ
            · exact absurd rfl q
          | inr k =>
            obtain ⟨ρ, w, kk, bs⟩ := k
            rw [hC] at hpost hsg hW
            obtain ⟨⟨a, hM1⟩, q0, q1, q2, qp⟩ := hpost
            have hWn : WS (cc + 1) 0 (ab_up K cc (ρ, w, kk, bs)) (ab_up va cc (fun _ => 0)) R f 0 := hW _ _ rfl
            have hkk : kk ≤ 4 := by
              have := (hWn.2.2.1 cc (by omega)).1
              rw [ab_up_s] at this
              exact this.2.1
            have hI2 := hIg.tp (t' := t1) (n' := 0) (pl' := t1 5) (by omega) t12 rfl (fun j hj => t1e j (by omega) (by omega) (by omega) (by omega) (by omega) (by omega))
            obtain ⟨y0, hy0⟩ := hI2.co (k := cc) hc4
            have h60 := hI2.h60
            have c12 : t1 12 = cc := hI2.t12
            have c12n : (t1 12).toNat = cc := by omega
            have w65 : (ab_st σ2 57 (m10 t1)).2 65 = some (iar 7 g1) := st_e (by omega) s265
            have hf3 : fr mA σ (ab_st σ2 57 (m10 t1)) := hf2.st (by unfold mA; omega)
            generalize ab_st σ2 57 (m10 t1) = σ3 at hI2 hy0 h60 w57 w65 hf3
            have loop : ∀ (m i : Nat) (y : Nat → Int), i + m = 7 → (∀ j, j < i → y j = g1 j) → At 12 [some (rf 57), some (.inl (x' : Nat)), some (.inl i)] [] (ab_st σ3 (61 + cc) (iar 7 y)) 0 0 := by
              intro m
              induction m with
              | zero =>
                intro i y hi hy
                have hi : i = 7 := by omega
                subst hi
                have hJ := MI.newc (hI2.tp (t' := t1) (n' := 0) (pl' := t1 5) (by omega) t12 rfl (fun j hj => rfl)) hWn (g := y) ⟨by rw [hy 0 (by omega)]; exact q0, by rw [hy 1 (by omega)]; exact q1, by rw [hy 2 (by omega)]; exact q2, fun p hp => by rw [hy (3 + p) (by have hp : p < kk := hp; omega)]; exact qp p hp⟩
                rw [st_3 (by omega)] at hJ
                have a57 : (ab_st σ3 (61 + cc) (iar 7 y)).2 57 = some (m10 t1) := st_e (by omega) w57
                have b57 : (ab_st (ab_st σ3 (61 + cc) (iar 7 y)) 57 (m10 (ab_up t1 12 ((cc : Int) + 1)))).2 57 = some (m10 (ab_up t1 12 ((cc : Int) + 1))) := st_s
                have hM2 : MT (ab_up t1 12 ((cc : Int) + 1)) f x' (.inr a) := hM1.op (fun j hj => ab_up_n (by omega))
                have e7 : ab_up t1 12 ((cc : Int) + 1) 7 = -1 := by rw [ab_up_n (by omega)]; exact hM1.2.2.2.1
                have hen := m_ends b57 hM2 (((cc : Int) + 1) - 1)
                rw [st_st, if_pos (show isR (.inr a) = true from rfl), e7] at hen
                have hJ2 := hJ.tp (t' := ab_up (ab_up t1 12 ((cc : Int) + 1)) 5 (-1)) (n' := 0) (pl' := -1) (by omega) (by rw [ab_up_n (by omega), ab_up_n (by omega)]; exact t12) ab_up_s (fun j hj => ab_up_n (by omega))
                rw [st_st] at hJ2
                have d12 : ab_up t1 12 ((cc : Int) + 1) 12 = (cc : Int) + 1 := ab_up_s
                refine hA 12 _ rfl _ _ _ _ _ ?_
                refine And.intro (And.intro (by first | assumption | exact b2i_R _ | exact rR (by omega) (by omega) | exact rR (by simp only [Int.toNat_natCast]; omega) (by simp only [Int.toNat_natCast]; omega)) (by first | assumption | exact b2i_R _ | exact rR (by omega) (by omega) | exact rR (by simp only [Int.toNat_natCast]; omega) (by simp only [Int.toNat_natCast]; omega))) (And.intro (fun q => ?_) (fun q => ?_))
                · refine hA 14 _ rfl _ _ _ _ _ ?_
                  refine Exists.intro _ (And.intro (a57) ?_)
                  refine Exists.intro _ (And.intro (a57) ?_)
                  rw [m10_s12, c12]
                  refine hA 15 _ rfl _ _ _ _ _ ?_
                  refine Exists.intro _ (And.intro (b57) ?_)
                  rw [d12]
                  refine Exists.intro _ (And.intro b57 (And.intro rfl (ab_inv_ev hen (by first | decide | omega) (by first | exact Nat.le_refl _ | omega) (by first | exact Nat.le_refl _ | omega) ?_)))
                  exact md_ok (S := (cc, 0, K, va, R, f, n, pl, c)) (e := fun i => (i : Int)) hsg (by omega) ((hf3.st (by unfold mA; omega)).st (by unfold mA; omega)) hJ2
                · exact absurd (show (7 : Int) < 7 from q) (by decide)
              | succ m ih =>
                intro i y hi hy
                have a57 : (ab_st σ3 (61 + cc) (iar 7 y)).2 57 = some (m10 t1) := st_e (by omega) w57
                have a60 : (ab_st σ3 (61 + cc) (iar 7 y)).2 60 = some (rfs 61 4) := st_e (by omega) h60
                have a65 : (ab_st σ3 (61 + cc) (iar 7 y)).2 65 = some (iar 7 g1) := st_e (by omega) w65
                have ihi := ih (i + 1) (ab_up y i (g1 i)) (by omega) (fun j hj => by
                  by_cases e : j = i
                  · rw [e, ab_up_s]
                  · rw [ab_up_n e]; exact hy j (by omega))
                rw [← st_st (x := iar 7 y)] at ihi
                refine hA 12 _ rfl _ _ _ _ _ ?_
                refine And.intro (And.intro (by first | assumption | exact b2i_R _ | exact rR (by omega) (by omega) | exact rR (by simp only [Int.toNat_natCast]; omega) (by simp only [Int.toNat_natCast]; omega)) (by first | assumption | exact b2i_R _ | exact rR (by omega) (by omega) | exact rR (by simp only [Int.toNat_natCast]; omega) (by simp only [Int.toNat_natCast]; omega))) (And.intro (fun q => ?_) (fun q => ?_))
                · omega
                · refine hA 13 _ rfl _ _ _ _ _ ?_
                  refine Exists.intro _ (And.intro (a57) ?_)
                  refine Exists.intro _ (And.intro (a57) ?_)
                  refine Exists.intro _ (Exists.intro _ (And.intro (a60) (And.intro (by omega) ?_)))
                  rw [c12n]
                  refine Exists.intro _ (And.intro (a57) ?_)
                  refine Exists.intro _ (Exists.intro _ (And.intro (a65) (And.intro (by omega) ?_)))
                  refine Exists.intro _ (Exists.intro _ (And.intro (st_s) (And.intro (by omega) ?_)))
                  exact ihi
            have l0 := loop 7 0 y0 rfl (fun j hj => by omega)
            rw [st_id hy0] at l0
            refine Exists.intro _ (And.intro (by first | assumption | exact st_s | exact st_e (by decide) (by assumption) | exact st_e (by omega) (by assumption) | exact st_e (by decide) st_s | exact st_e (by omega) st_s | exact st_e (by decide) (st_e (by decide) (by assumption)) | exact st_e (by omega) (st_e (by omega) (by assumption))) (And.intro rfl (ab_inv_ev (m_fine w57 hM1) (by first | decide | omega) (by first | exact Nat.le_refl _ | omega) (by first | exact Nat.le_refl _ | omega) ?_)))
            refine And.intro (by first | assumption | exact b2i_R _ | exact rR (by omega) (by omega) | exact rR (by simp only [Int.toNat_natCast]; omega) (by simp only [Int.toNat_natCast]; omega)) (And.intro (fun q => ?_) (fun q => ?_))
            · exact absurd (show (1 : Int) = 0 from q) (by decide)
            · refine hA 11 _ rfl _ _ _ _ _ ?_
              exact l0
        · exact absurd rfl q
      have gF2 : ¬ (rows = 0 ∧ cc < 4) → At 8 [some (rf 57), some (.inl x), none] [.inl 1, rf 57] σ0 0 0 := fun hP2 => by
        refine hA 8 _ rfl _ _ _ _ _ ?_
        refine Exists.intro _ (And.intro (by first | assumption | exact st_s | exact st_e (by decide) (by assumption) | exact st_e (by omega) (by assumption) | exact st_e (by decide) st_s | exact st_e (by omega) st_s | exact st_e (by decide) (st_e (by decide) (by assumption)) | exact st_e (by omega) (st_e (by omega) (by assumption))) (And.intro rfl (ab_inv_ev (m_bad1 p57 p0 p58 2 2 (by decide) (by decide) (by decide)) (by first | decide | omega) (by first | exact Nat.le_refl _ | omega) (by first | exact Nat.le_refl _ | omega) ?_)))
        refine And.intro (by first | assumption | exact b2i_R _ | exact rR (by omega) (by omega) | exact rR (by simp only [Int.toNat_natCast]; omega) (by simp only [Int.toNat_natCast]; omega)) (And.intro (fun q => ?_) (fun q => ?_))
        · exact absurd q (by decide)
        · refine hA 9 _ rfl _ _ _ _ _ ?_
          exact md_no (by unfold sg_column; rw [if_pos hP1, if_neg hP2] <;> rfl) hf0 hI0 rfl
      have gO2 : ¬ (rows = 0 ∧ cc < 4) → At 6 [some (rf 57), some (.inl x), none] [rf 57] σ0 0 0 := fun h => by
        refine hA 6 _ rfl _ _ _ _ _ ?_
        exact gF2 h
      have gZ2 : (rows = 0 ∧ cc < 4) → At 7 [some (rf 57), some (.inl x), none] [rf 57] σ0 0 0 := fun h => by
        refine hA 7 _ rfl _ _ _ _ _ ?_
        exact gK2 h
      refine hA 4 _ rfl _ _ _ _ _ ?_
      refine Exists.intro _ (And.intro (by first | assumption | exact st_s | exact st_e (by decide) (by assumption) | exact st_e (by omega) (by assumption) | exact st_e (by decide) st_s | exact st_e (by omega) st_s | exact st_e (by decide) (st_e (by decide) (by assumption)) | exact st_e (by omega) (st_e (by omega) (by assumption))) ?_)
      refine And.intro (by first | assumption | exact b2i_R _ | exact rR (by omega) (by omega) | exact rR (by simp only [Int.toNat_natCast]; omega) (by simp only [Int.toNat_natCast]; omega)) (And.intro (fun q => ?_) (fun q => ?_))
      · exact gO2 (by omega)
      · refine hA 5 _ rfl _ _ _ _ _ ?_
        refine Exists.intro _ (And.intro (by first | assumption | exact st_s | exact st_e (by decide) (by assumption) | exact st_e (by omega) (by assumption) | exact st_e (by decide) st_s | exact st_e (by omega) st_s | exact st_e (by decide) (st_e (by decide) (by assumption)) | exact st_e (by omega) (st_e (by omega) (by assumption))) ?_)
        refine And.intro (And.intro (by first | assumption | exact b2i_R _ | exact rR (by omega) (by omega) | exact rR (by simp only [Int.toNat_natCast]; omega) (by simp only [Int.toNat_natCast]; omega)) (by first | assumption | exact b2i_R _ | exact rR (by omega) (by omega) | exact rR (by simp only [Int.toNat_natCast]; omega) (by simp only [Int.toNat_natCast]; omega))) (And.intro (fun q => ?_) (fun q => ?_))
        · exact gZ2 (by omega)
        · exact gO2 (by omega)
  have gF1 : ¬ (0 ≤ x ∧ x ≤ 200 ∧ x ≤ n) → At 3 [some (rf 57), some (.inl x), none] [.inl 1, rf 57] σ0 0 0 := fun hP1 => by
    refine hA 3 _ rfl _ _ _ _ _ ?_
    refine Exists.intro _ (And.intro (by first | assumption | exact st_s | exact st_e (by decide) (by assumption) | exact st_e (by omega) (by assumption) | exact st_e (by decide) st_s | exact st_e (by omega) st_s | exact st_e (by decide) (st_e (by decide) (by assumption)) | exact st_e (by omega) (st_e (by omega) (by assumption))) (And.intro rfl (ab_inv_ev (m_bad1 p57 p0 p58 1 1 (by decide) (by decide) (by decide)) (by first | decide | omega) (by first | exact Nat.le_refl _ | omega) (by first | exact Nat.le_refl _ | omega) ?_)))
    refine And.intro (by first | assumption | exact b2i_R _ | exact rR (by omega) (by omega) | exact rR (by simp only [Int.toNat_natCast]; omega) (by simp only [Int.toNat_natCast]; omega)) (And.intro (fun q => ?_) (fun q => ?_))
    · refine hA 9 _ rfl _ _ _ _ _ ?_
      exact md_no (by unfold sg_column; rw [if_neg hP1] <;> rfl) hf0 hI0 rfl
    · exact absurd q (by decide)
  have gO1 : ¬ (0 ≤ x ∧ x ≤ 200 ∧ x ≤ n) → At 1 [some (rf 57), some (.inl x), none] [rf 57] σ0 0 0 := fun h => by
    refine hA 1 _ rfl _ _ _ _ _ ?_
    exact gF1 h
  have gZ1 : (0 ≤ x ∧ x ≤ 200 ∧ x ≤ n) → At 2 [some (rf 57), some (.inl x), none] [rf 57] σ0 0 0 := fun h => by
    refine hA 2 _ rfl _ _ _ _ _ ?_
    exact gK1 h
  refine hA 0 _ rfl _ _ _ _ _ ?_
  refine Exists.intro _ (And.intro (q57) ?_)
  rw [m10_s0, ht0, hs0]
  refine Exists.intro _ (And.intro (by first | assumption | exact st_s | exact st_e (by decide) (by assumption) | exact st_e (by omega) (by assumption) | exact st_e (by decide) st_s | exact st_e (by omega) st_s | exact st_e (by decide) (st_e (by decide) (by assumption)) | exact st_e (by omega) (st_e (by omega) (by assumption))) ?_)
  refine And.intro rfl (ab_inv_ev hle (by first | decide | omega) (by first | exact Nat.le_refl _ | omega) (by first | exact Nat.le_refl _ | omega) ?_)
  refine And.intro rfl (ab_inv_ev (m_in x 0 ((min 200 n : Nat) : Int) hx (rR (by omega) (by omega)) (rR (by omega) (by omega))) (by first | decide | omega) (by first | exact Nat.le_refl _ | omega) (by first | exact Nat.le_refl _ | omega) ?_)
  refine And.intro (by first | assumption | exact b2i_R _ | exact rR (by omega) (by omega) | exact rR (by simp only [Int.toNat_natCast]; omega) (by simp only [Int.toNat_natCast]; omega)) (And.intro (fun q => ?_) (fun q => ?_))
  · have q00 := of_decide_eq_true (b2i_1 q)
    exact gZ1 (by omega)
  · exact gO1 (by have q1 := of_decide_eq_false (b2i_0 q); omega)
end Mcolc
