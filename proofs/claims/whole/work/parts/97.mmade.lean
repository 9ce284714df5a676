-- ===== the model: its constructor =====
section Mmade
variable {σ : ab_H} {cc rows : Nat} {K : Nat → CT} {va : Nat → Nat → Nat} {R : Nat → V1} {f : Nat → Int} {n : Nat} {pl : Int} {c : C3} {t : Nat → Int} {r : Nat → Nat} {th : Int}
/-- what happens elsewhere leaves the model as it is -/
theorem MI.keep (hI : MI σ cc rows K va R f n pl c t r th) {σ' : ab_H} (h : ∀ a, 57 ≤ a → a ≤ 318 → σ'.2 a = σ.2 a) : MI σ' cc rows K va R f n pl c t r th := by
  obtain ⟨w, s, co, v, gn, ⟨k1, k2, k3, ⟨k4, k5⟩, ⟨g, k6⟩, ⟨k7, k8⟩, k9, ⟨l1, l2⟩, l3, l4⟩, fx⟩ := hI
  have e : ∀ {a : Nat} {x : ab_C}, σ.2 a = some x → 57 ≤ a → a ≤ 318 → σ'.2 a = some x := fun hx h1 h2 => (h _ h1 h2).trans hx
  exact ⟨w, fun a h1 h2 h3 => by
    obtain ⟨x, p, q⟩ := s a h1 h2 h3
    exact ⟨x, e p (by omega) h2, q⟩, co, v, gn, ⟨e k1 (by omega) (by omega), e k2 (by omega) (by omega), e k3 (by omega) (by omega), ⟨e k4 (by omega) (by omega), fun c hc => e (k5 c hc) (by omega) (by omega)⟩, ⟨g, e k6 (by omega) (by omega)⟩, ⟨e k7 (by omega) (by omega), fun c hc => e (k8 c hc) (by omega) (by omega)⟩, e k9 (by omega) (by omega), ⟨e l1 (by omega) (by omega), fun c hc => e (l2 c hc) (by omega) (by omega)⟩, e l3 (by omega) (by omega), e l4 (by omega) (by omega)⟩, fx⟩
theorem MS.keep {S : St} (h : MS σ S r th) {σ' : ab_H} (e : ∀ a, 57 ≤ a → a ≤ 318 → σ'.2 a = σ.2 a) : MS σ' S r th := by
  obtain ⟨cc, rows, K, va, R, f, n, pl, c⟩ := S
  obtain ⟨t, h⟩ := h
  exact ⟨t, h.keep e⟩
set_option maxRecDepth 100000 in
set_option maxHeartbeats 1000000 in
theorem m_thrown (hI : MI σ cc rows K va R f n pl c t r th) : ab_ev 1 yX10_thrown [rf 57] σ (some (.inl th)) σ := by
  have q57 := hI.h57
  refine eX10_thrown rfl (fun At hA => ?_)
  refine hA 0 _ rfl _ _ _ _ _ ?_
  refine Exists.intro _ (And.intro (by first | assumption | exact st_s | exact st_e (by decide) (by assumption) | exact st_e (by omega) (by assumption) | exact st_e (by decide) st_s | exact st_e (by omega) st_s | exact st_e (by decide) (st_e (by decide) (by assumption)) | exact st_e (by omega) (st_e (by omega) (by assumption))) ?_)
  exact ⟨congrArg (fun z => Sum.inl (some (Sum.inl z))) hI.t0, rfl⟩
/-- the model's object before its constructor -/
abbrev m0c : ab_C := .inl (10, [.inl 0, nu0, .inl 0, .inl 0, .inl 0, .inl 0, .inl 0, .inl 0, .inl 0, nu0, nu0, nu0, .inl 0, .inl 0, nu0, nu0, nu0, nu0, .inl 0, nu0, .inl 0, .inl 0, .inl 0, .inl 0, .inl 0, .inl 0, .inl 0, nu0, nu0, nu0, nu0, nu0, nu0, .inl 0, .inl 0])
set_option maxRecDepth 100000 in
set_option maxHeartbeats 1000000 in
theorem i_fin {ω : ab_H} {g : Nat → Option ab_C} (wz : ∀ a, a < 57 → ω.2 a = g a) (v57 : ω.2 57 = some (m10 (ab_up (fun _ => 0) 5 (-1)))) (v0 : ω.2 58 = some (.inr (.inl (0, 3, fun _ => 0)))) (v1 : ω.2 59 = some (.inr (.inl (0, 400, fun _ => 0)))) (v2 : ω.2 60 = some (rfs 61 4)) (u2 : ∀ j, j < 4 → ω.2 (61 + j) = some (iar 7 (fun _ => 0))) (v3 : ω.2 65 = some (.inr (.inl (0, 7, fun _ => 0)))) (v4 : ω.2 66 = some (rfs 67 4)) (u4 : ∀ j, j < 4 → ω.2 (67 + j) = some (iar 1500 (fun _ => 0))) (v5 : ω.2 71 = some (.inr (.inl (1, 1500, fun _ => 0)))) (v6 : ω.2 72 = some (rfs 73 6)) (u6 : ∀ j, j < 6 → ω.2 (73 + j) = some (iar 100 (fun _ => 0))) (v7 : ω.2 79 = some (rfs 80 200)) (u7 : ∀ j, j < 200 → ω.2 (80 + j) = some (iar 4 (fun _ => 0))) (v8 : ω.2 280 = some (rfs 281 32)) (u8 : ∀ j, j < 32 → ω.2 (281 + j) = some (iar 100 (fun _ => 0))) (v9 : ω.2 313 = some (.inr (.inl (0, 100, fun _ => 0)))) (v10 : ω.2 314 = some (.inr (.inl (0, 100, fun _ => 0)))) (v11 : ω.2 315 = some (.inr (.inl (0, 200, fun _ => 0)))) (v12 : ω.2 316 = some (.inr (.inl (0, 1500, fun _ => 0)))) (v13 : ω.2 317 = some (.inr (.inl (0, 4, fun _ => 0)))) (v14 : ω.2 318 = some (.inr (.inl (0, 4, fun _ => 0)))) : (∀ a, a < 57 → ω.2 a = g a) ∧ MI ω 0 0 K va (fun _ _ => 0) (fun _ => 0) 0 (-1) (0, 0, 0) (ab_up (fun _ => 0) 5 (-1)) (fun _ => 0) 0 := by
  refine ⟨fun a h => wz a h, ⟨by decide, by decide, fun k hk => absurd hk (Nat.not_lt_zero k), fun i _ => ⟨fun _ => (by decide : 0 < 32768), fun x _ => by unfold bit; exact Nat.zero_testBit _⟩, fun i => ⟨Int.le_refl 0, (by decide : (0 : Int) < 256)⟩, Nat.zero_le _⟩, fun a h1 h2 h3 => ?_, fun _ _ => 0, fun _ _ => 0, fun _ => 0, ⟨v57, v0, v1, ⟨v2, u2⟩, ⟨fun _ => 0, v3⟩, ⟨v4, u4⟩, v5, ⟨v6, u6⟩, v7, v8⟩, ⟨rfl, rfl, rfl, rfl, rfl, rfl, rfl, rfl⟩, fun k hk => absurd hk (Nat.not_lt_zero k), fun k hk => absurd hk (Nat.not_lt_zero k), fun x hx => absurd hx (Nat.not_lt_zero x)⟩
  by_cases c1 : a < 280
  · obtain ⟨j, rfl⟩ : ∃ j, a = 80 + j := ⟨a - 80, by omega⟩
    exact ⟨_, u7 j (by omega), shp_act (by omega)⟩
  · by_cases c2 : a < 313
    · obtain ⟨j, rfl⟩ : ∃ j, a = 281 + j := ⟨a - 281, by omega⟩
      exact ⟨_, u8 j (by omega), shp_bm (g := fun _ => 0) (by omega) (by omega)⟩
    · rcases (show a = 313 ∨ a = 314 ∨ a = 315 ∨ a = 316 ∨ a = 317 ∨ a = 318 by omega) with rfl | rfl | rfl | rfl | rfl | rfl
      · exact ⟨_, v9, shp_bm (g := fun _ => 0) (by decide) (by decide)⟩
      · exact ⟨_, v10, shp_bm (g := fun _ => 0) (by decide) (by decide)⟩
      · exact ⟨_, v11, shp_of (g := fun _ => 0)⟩
      · exact ⟨_, v12, shp_as⟩
      · exact ⟨_, v13, shp_tb (by decide)⟩
      · exact ⟨_, v14, shp_tb (by decide)⟩
set_option maxRecDepth 100000 in
set_option maxHeartbeats 1000000 in
theorem i_model (h0 : σ.2 57 = some m0c) (hs : σ.1 = 58) : ab_call 2 261 14692 yX10_init [rf 57] σ (fun r σ' => r = .inl none ∧ σ'.1 = 319 ∧ (∀ a, a < 57 → σ'.2 a = σ.2 a) ∧ MI σ' 0 0 K va (fun _ _ => 0) (fun _ => 0) 0 (-1) (0, 0, 0) (ab_up (fun _ => 0) 5 (-1)) (fun _ => 0) 0) := by
  obtain ⟨s, g⟩ := σ
  have hs : s = 58 := hs
  subst hs
  have h0 : g 57 = some m0c := h0
  let q0 : ab_C := .inr (.inl (0, 3, fun _ => 0))
  have y0 : (ab_nw ((58, g) : ab_H) q0).2 57 = some (.inl (10, [.inl 0, nu0, .inl 0, .inl 0, .inl 0, .inl 0, .inl 0, .inl 0, .inl 0, nu0, nu0, nu0, .inl 0, .inl 0, nu0, nu0, nu0, nu0, .inl 0, nu0, .inl 0, .inl 0, .inl 0, .inl 0, .inl 0, .inl 0, .inl 0, nu0, nu0, nu0, nu0, nu0, nu0, .inl 0, .inl 0])) := nw_e (show (57 : Nat) ≠ 58 by decide) h0
  have z0 : (ab_st (ab_nw ((58, g) : ab_H) q0) 57 (.inl (10, [.inl 0, rf 58, .inl 0, .inl 0, .inl 0, .inl 0, .inl 0, .inl 0, .inl 0, nu0, nu0, nu0, .inl 0, .inl 0, nu0, nu0, nu0, nu0, .inl 0, nu0, .inl 0, .inl 0, .inl 0, .inl 0, .inl 0, .inl 0, .inl 0, nu0, nu0, nu0, nu0, nu0, nu0, .inl 0, .inl 0]))).2 57 = some (.inl (10, [.inl 0, rf 58, .inl 0, .inl 0, .inl 0, .inl 0, .inl 0, .inl 0, .inl 0, nu0, nu0, nu0, .inl 0, .inl 0, nu0, nu0, nu0, nu0, .inl 0, nu0, .inl 0, .inl 0, .inl 0, .inl 0, .inl 0, .inl 0, .inl 0, nu0, nu0, nu0, nu0, nu0, nu0, .inl 0, .inl 0])) := st_s
  let τ0 : ab_H := ab_st (ab_st (ab_nw ((58, g) : ab_H) q0) 57 (.inl (10, [.inl 0, rf 58, .inl 0, .inl 0, .inl 0, .inl 0, .inl 0, .inl 0, .inl 0, nu0, nu0, nu0, .inl 0, .inl 0, nu0, nu0, nu0, nu0, .inl 0, nu0, .inl 0, .inl 0, .inl 0, .inl 0, .inl 0, .inl 0, .inl 0, nu0, nu0, nu0, nu0, nu0, nu0, .inl 0, .inl 0]))) 57 (.inl (10, [.inl 0, rf 58, .inl 0, .inl 0, .inl 0, .inl (-1), .inl 0, .inl 0, .inl 0, nu0, nu0, nu0, .inl 0, .inl 0, nu0, nu0, nu0, nu0, .inl 0, nu0, .inl 0, .inl 0, .inl 0, .inl 0, .inl 0, .inl 0, .inl 0, nu0, nu0, nu0, nu0, nu0, nu0, .inl 0, .inl 0]))
  let q1 : ab_C := .inr (.inl (0, 400, fun _ => 0))
  have y1 : (ab_nw τ0 q1).2 57 = some (.inl (10, [.inl 0, rf 58, .inl 0, .inl 0, .inl 0, .inl (-1), .inl 0, .inl 0, .inl 0, nu0, nu0, nu0, .inl 0, .inl 0, nu0, nu0, nu0, nu0, .inl 0, nu0, .inl 0, .inl 0, .inl 0, .inl 0, .inl 0, .inl 0, .inl 0, nu0, nu0, nu0, nu0, nu0, nu0, .inl 0, .inl 0])) := nw_e (show (57 : Nat) ≠ 59 by decide) st_s
  let τ1 : ab_H := ab_st (ab_nw τ0 q1) 57 (.inl (10, [.inl 0, rf 58, .inl 0, .inl 0, .inl 0, .inl (-1), .inl 0, .inl 0, .inl 0, rf 59, nu0, nu0, .inl 0, .inl 0, nu0, nu0, nu0, nu0, .inl 0, nu0, .inl 0, .inl 0, .inl 0, .inl 0, .inl 0, .inl 0, .inl 0, nu0, nu0, nu0, nu0, nu0, nu0, .inl 0, .inl 0]))
  have y2 : (ab_mn τ1 4 7).2 57 = some (.inl (10, [.inl 0, rf 58, .inl 0, .inl 0, .inl 0, .inl (-1), .inl 0, .inl 0, .inl 0, rf 59, nu0, nu0, .inl 0, .inl 0, nu0, nu0, nu0, nu0, .inl 0, nu0, .inl 0, .inl 0, .inl 0, .inl 0, .inl 0, .inl 0, .inl 0, nu0, nu0, nu0, nu0, nu0, nu0, .inl 0, .inl 0])) := (ab_mn_n (σ := τ1) (N := 4) (M := 7) (a := 57) (Or.inl (show (57 : Nat) < 60 by decide))).trans st_s
  let τ2 : ab_H := ab_st (ab_mn τ1 4 7) 57 (.inl (10, [.inl 0, rf 58, .inl 0, .inl 0, .inl 0, .inl (-1), .inl 0, .inl 0, .inl 0, rf 59, rf 60, nu0, .inl 0, .inl 0, nu0, nu0, nu0, nu0, .inl 0, nu0, .inl 0, .inl 0, .inl 0, .inl 0, .inl 0, .inl 0, .inl 0, nu0, nu0, nu0, nu0, nu0, nu0, .inl 0, .inl 0]))
  let q3 : ab_C := .inr (.inl (0, 7, fun _ => 0))
  have y3 : (ab_nw τ2 q3).2 57 = some (.inl (10, [.inl 0, rf 58, .inl 0, .inl 0, .inl 0, .inl (-1), .inl 0, .inl 0, .inl 0, rf 59, rf 60, nu0, .inl 0, .inl 0, nu0, nu0, nu0, nu0, .inl 0, nu0, .inl 0, .inl 0, .inl 0, .inl 0, .inl 0, .inl 0, .inl 0, nu0, nu0, nu0, nu0, nu0, nu0, .inl 0, .inl 0])) := nw_e (show (57 : Nat) ≠ 65 by decide) st_s
  let τ3 : ab_H := ab_st (ab_nw τ2 q3) 57 (.inl (10, [.inl 0, rf 58, .inl 0, .inl 0, .inl 0, .inl (-1), .inl 0, .inl 0, .inl 0, rf 59, rf 60, rf 65, .inl 0, .inl 0, nu0, nu0, nu0, nu0, .inl 0, nu0, .inl 0, .inl 0, .inl 0, .inl 0, .inl 0, .inl 0, .inl 0, nu0, nu0, nu0, nu0, nu0, nu0, .inl 0, .inl 0]))
  have y4 : (ab_mn τ3 4 1500).2 57 = some (.inl (10, [.inl 0, rf 58, .inl 0, .inl 0, .inl 0, .inl (-1), .inl 0, .inl 0, .inl 0, rf 59, rf 60, rf 65, .inl 0, .inl 0, nu0, nu0, nu0, nu0, .inl 0, nu0, .inl 0, .inl 0, .inl 0, .inl 0, .inl 0, .inl 0, .inl 0, nu0, nu0, nu0, nu0, nu0, nu0, .inl 0, .inl 0])) := (ab_mn_n (σ := τ3) (N := 4) (M := 1500) (a := 57) (Or.inl (show (57 : Nat) < 66 by decide))).trans st_s
  let τ4 : ab_H := ab_st (ab_mn τ3 4 1500) 57 (.inl (10, [.inl 0, rf 58, .inl 0, .inl 0, .inl 0, .inl (-1), .inl 0, .inl 0, .inl 0, rf 59, rf 60, rf 65, .inl 0, .inl 0, rf 66, nu0, nu0, nu0, .inl 0, nu0, .inl 0, .inl 0, .inl 0, .inl 0, .inl 0, .inl 0, .inl 0, nu0, nu0, nu0, nu0, nu0, nu0, .inl 0, .inl 0]))
  let q5 : ab_C := .inr (.inl (1, 1500, fun _ => 0))
  have y5 : (ab_nw τ4 q5).2 57 = some (.inl (10, [.inl 0, rf 58, .inl 0, .inl 0, .inl 0, .inl (-1), .inl 0, .inl 0, .inl 0, rf 59, rf 60, rf 65, .inl 0, .inl 0, rf 66, nu0, nu0, nu0, .inl 0, nu0, .inl 0, .inl 0, .inl 0, .inl 0, .inl 0, .inl 0, .inl 0, nu0, nu0, nu0, nu0, nu0, nu0, .inl 0, .inl 0])) := nw_e (show (57 : Nat) ≠ 71 by decide) st_s
  let τ5 : ab_H := ab_st (ab_nw τ4 q5) 57 (.inl (10, [.inl 0, rf 58, .inl 0, .inl 0, .inl 0, .inl (-1), .inl 0, .inl 0, .inl 0, rf 59, rf 60, rf 65, .inl 0, .inl 0, rf 66, rf 71, nu0, nu0, .inl 0, nu0, .inl 0, .inl 0, .inl 0, .inl 0, .inl 0, .inl 0, .inl 0, nu0, nu0, nu0, nu0, nu0, nu0, .inl 0, .inl 0]))
  have y6 : (ab_mn τ5 6 100).2 57 = some (.inl (10, [.inl 0, rf 58, .inl 0, .inl 0, .inl 0, .inl (-1), .inl 0, .inl 0, .inl 0, rf 59, rf 60, rf 65, .inl 0, .inl 0, rf 66, rf 71, nu0, nu0, .inl 0, nu0, .inl 0, .inl 0, .inl 0, .inl 0, .inl 0, .inl 0, .inl 0, nu0, nu0, nu0, nu0, nu0, nu0, .inl 0, .inl 0])) := (ab_mn_n (σ := τ5) (N := 6) (M := 100) (a := 57) (Or.inl (show (57 : Nat) < 72 by decide))).trans st_s
  let τ6 : ab_H := ab_st (ab_mn τ5 6 100) 57 (.inl (10, [.inl 0, rf 58, .inl 0, .inl 0, .inl 0, .inl (-1), .inl 0, .inl 0, .inl 0, rf 59, rf 60, rf 65, .inl 0, .inl 0, rf 66, rf 71, rf 72, nu0, .inl 0, nu0, .inl 0, .inl 0, .inl 0, .inl 0, .inl 0, .inl 0, .inl 0, nu0, nu0, nu0, nu0, nu0, nu0, .inl 0, .inl 0]))
  have y7 : (ab_mn τ6 200 4).2 57 = some (.inl (10, [.inl 0, rf 58, .inl 0, .inl 0, .inl 0, .inl (-1), .inl 0, .inl 0, .inl 0, rf 59, rf 60, rf 65, .inl 0, .inl 0, rf 66, rf 71, rf 72, nu0, .inl 0, nu0, .inl 0, .inl 0, .inl 0, .inl 0, .inl 0, .inl 0, .inl 0, nu0, nu0, nu0, nu0, nu0, nu0, .inl 0, .inl 0])) := (ab_mn_n (σ := τ6) (N := 200) (M := 4) (a := 57) (Or.inl (show (57 : Nat) < 79 by decide))).trans st_s
  let τ7 : ab_H := ab_st (ab_mn τ6 200 4) 57 (.inl (10, [.inl 0, rf 58, .inl 0, .inl 0, .inl 0, .inl (-1), .inl 0, .inl 0, .inl 0, rf 59, rf 60, rf 65, .inl 0, .inl 0, rf 66, rf 71, rf 72, rf 79, .inl 0, nu0, .inl 0, .inl 0, .inl 0, .inl 0, .inl 0, .inl 0, .inl 0, nu0, nu0, nu0, nu0, nu0, nu0, .inl 0, .inl 0]))
  have y8 : (ab_mn τ7 32 100).2 57 = some (.inl (10, [.inl 0, rf 58, .inl 0, .inl 0, .inl 0, .inl (-1), .inl 0, .inl 0, .inl 0, rf 59, rf 60, rf 65, .inl 0, .inl 0, rf 66, rf 71, rf 72, rf 79, .inl 0, nu0, .inl 0, .inl 0, .inl 0, .inl 0, .inl 0, .inl 0, .inl 0, nu0, nu0, nu0, nu0, nu0, nu0, .inl 0, .inl 0])) := (ab_mn_n (σ := τ7) (N := 32) (M := 100) (a := 57) (Or.inl (show (57 : Nat) < 280 by decide))).trans st_s
  let τ8 : ab_H := ab_st (ab_mn τ7 32 100) 57 (.inl (10, [.inl 0, rf 58, .inl 0, .inl 0, .inl 0, .inl (-1), .inl 0, .inl 0, .inl 0, rf 59, rf 60, rf 65, .inl 0, .inl 0, rf 66, rf 71, rf 72, rf 79, .inl 0, rf 280, .inl 0, .inl 0, .inl 0, .inl 0, .inl 0, .inl 0, .inl 0, nu0, nu0, nu0, nu0, nu0, nu0, .inl 0, .inl 0]))
  let q9 : ab_C := .inr (.inl (0, 100, fun _ => 0))
  have y9 : (ab_nw τ8 q9).2 57 = some (.inl (10, [.inl 0, rf 58, .inl 0, .inl 0, .inl 0, .inl (-1), .inl 0, .inl 0, .inl 0, rf 59, rf 60, rf 65, .inl 0, .inl 0, rf 66, rf 71, rf 72, rf 79, .inl 0, rf 280, .inl 0, .inl 0, .inl 0, .inl 0, .inl 0, .inl 0, .inl 0, nu0, nu0, nu0, nu0, nu0, nu0, .inl 0, .inl 0])) := nw_e (show (57 : Nat) ≠ 313 by decide) st_s
  let τ9 : ab_H := ab_st (ab_nw τ8 q9) 57 (.inl (10, [.inl 0, rf 58, .inl 0, .inl 0, .inl 0, .inl (-1), .inl 0, .inl 0, .inl 0, rf 59, rf 60, rf 65, .inl 0, .inl 0, rf 66, rf 71, rf 72, rf 79, .inl 0, rf 280, .inl 0, .inl 0, .inl 0, .inl 0, .inl 0, .inl 0, .inl 0, rf 313, nu0, nu0, nu0, nu0, nu0, .inl 0, .inl 0]))
  let q10 : ab_C := .inr (.inl (0, 100, fun _ => 0))
  have y10 : (ab_nw τ9 q10).2 57 = some (.inl (10, [.inl 0, rf 58, .inl 0, .inl 0, .inl 0, .inl (-1), .inl 0, .inl 0, .inl 0, rf 59, rf 60, rf 65, .inl 0, .inl 0, rf 66, rf 71, rf 72, rf 79, .inl 0, rf 280, .inl 0, .inl 0, .inl 0, .inl 0, .inl 0, .inl 0, .inl 0, rf 313, nu0, nu0, nu0, nu0, nu0, .inl 0, .inl 0])) := nw_e (show (57 : Nat) ≠ 314 by decide) st_s
  let τ10 : ab_H := ab_st (ab_nw τ9 q10) 57 (.inl (10, [.inl 0, rf 58, .inl 0, .inl 0, .inl 0, .inl (-1), .inl 0, .inl 0, .inl 0, rf 59, rf 60, rf 65, .inl 0, .inl 0, rf 66, rf 71, rf 72, rf 79, .inl 0, rf 280, .inl 0, .inl 0, .inl 0, .inl 0, .inl 0, .inl 0, .inl 0, rf 313, rf 314, nu0, nu0, nu0, nu0, .inl 0, .inl 0]))
  let q11 : ab_C := .inr (.inl (0, 200, fun _ => 0))
  have y11 : (ab_nw τ10 q11).2 57 = some (.inl (10, [.inl 0, rf 58, .inl 0, .inl 0, .inl 0, .inl (-1), .inl 0, .inl 0, .inl 0, rf 59, rf 60, rf 65, .inl 0, .inl 0, rf 66, rf 71, rf 72, rf 79, .inl 0, rf 280, .inl 0, .inl 0, .inl 0, .inl 0, .inl 0, .inl 0, .inl 0, rf 313, rf 314, nu0, nu0, nu0, nu0, .inl 0, .inl 0])) := nw_e (show (57 : Nat) ≠ 315 by decide) st_s
  let τ11 : ab_H := ab_st (ab_nw τ10 q11) 57 (.inl (10, [.inl 0, rf 58, .inl 0, .inl 0, .inl 0, .inl (-1), .inl 0, .inl 0, .inl 0, rf 59, rf 60, rf 65, .inl 0, .inl 0, rf 66, rf 71, rf 72, rf 79, .inl 0, rf 280, .inl 0, .inl 0, .inl 0, .inl 0, .inl 0, .inl 0, .inl 0, rf 313, rf 314, rf 315, nu0, nu0, nu0, .inl 0, .inl 0]))
  let q12 : ab_C := .inr (.inl (0, 1500, fun _ => 0))
  have y12 : (ab_nw τ11 q12).2 57 = some (.inl (10, [.inl 0, rf 58, .inl 0, .inl 0, .inl 0, .inl (-1), .inl 0, .inl 0, .inl 0, rf 59, rf 60, rf 65, .inl 0, .inl 0, rf 66, rf 71, rf 72, rf 79, .inl 0, rf 280, .inl 0, .inl 0, .inl 0, .inl 0, .inl 0, .inl 0, .inl 0, rf 313, rf 314, rf 315, nu0, nu0, nu0, .inl 0, .inl 0])) := nw_e (show (57 : Nat) ≠ 316 by decide) st_s
  let τ12 : ab_H := ab_st (ab_nw τ11 q12) 57 (.inl (10, [.inl 0, rf 58, .inl 0, .inl 0, .inl 0, .inl (-1), .inl 0, .inl 0, .inl 0, rf 59, rf 60, rf 65, .inl 0, .inl 0, rf 66, rf 71, rf 72, rf 79, .inl 0, rf 280, .inl 0, .inl 0, .inl 0, .inl 0, .inl 0, .inl 0, .inl 0, rf 313, rf 314, rf 315, rf 316, nu0, nu0, .inl 0, .inl 0]))
  let q13 : ab_C := .inr (.inl (0, 4, fun _ => 0))
  have y13 : (ab_nw τ12 q13).2 57 = some (.inl (10, [.inl 0, rf 58, .inl 0, .inl 0, .inl 0, .inl (-1), .inl 0, .inl 0, .inl 0, rf 59, rf 60, rf 65, .inl 0, .inl 0, rf 66, rf 71, rf 72, rf 79, .inl 0, rf 280, .inl 0, .inl 0, .inl 0, .inl 0, .inl 0, .inl 0, .inl 0, rf 313, rf 314, rf 315, rf 316, nu0, nu0, .inl 0, .inl 0])) := nw_e (show (57 : Nat) ≠ 317 by decide) st_s
  let τ13 : ab_H := ab_st (ab_nw τ12 q13) 57 (.inl (10, [.inl 0, rf 58, .inl 0, .inl 0, .inl 0, .inl (-1), .inl 0, .inl 0, .inl 0, rf 59, rf 60, rf 65, .inl 0, .inl 0, rf 66, rf 71, rf 72, rf 79, .inl 0, rf 280, .inl 0, .inl 0, .inl 0, .inl 0, .inl 0, .inl 0, .inl 0, rf 313, rf 314, rf 315, rf 316, rf 317, nu0, .inl 0, .inl 0]))
  let q14 : ab_C := .inr (.inl (0, 4, fun _ => 0))
  have y14 : (ab_nw τ13 q14).2 57 = some (.inl (10, [.inl 0, rf 58, .inl 0, .inl 0, .inl 0, .inl (-1), .inl 0, .inl 0, .inl 0, rf 59, rf 60, rf 65, .inl 0, .inl 0, rf 66, rf 71, rf 72, rf 79, .inl 0, rf 280, .inl 0, .inl 0, .inl 0, .inl 0, .inl 0, .inl 0, .inl 0, rf 313, rf 314, rf 315, rf 316, rf 317, nu0, .inl 0, .inl 0])) := nw_e (show (57 : Nat) ≠ 318 by decide) st_s
  let τ14 : ab_H := ab_st (ab_nw τ13 q14) 57 (.inl (10, [.inl 0, rf 58, .inl 0, .inl 0, .inl 0, .inl (-1), .inl 0, .inl 0, .inl 0, rf 59, rf 60, rf 65, .inl 0, .inl 0, rf 66, rf 71, rf 72, rf 79, .inl 0, rf 280, .inl 0, .inl 0, .inl 0, .inl 0, .inl 0, .inl 0, .inl 0, rf 313, rf 314, rf 315, rf 316, rf 317, rf 318, .inl 0, .inl 0]))
  refine eX10_init rfl (fun At hA => ?_)
  refine hA 0 _ rfl _ _ _ _ _ ?_
  refine And.intro rfl (And.intro (by decide) ?_)
  refine And.intro (by first | decide | omega) ?_
  refine Exists.intro _ (And.intro (y0) ?_)
  refine Exists.intro _ (And.intro (z0) ?_)
  refine And.intro (by first | decide | omega) ?_
  refine Exists.intro _ (And.intro (y1) ?_)
  refine And.intro (by first | decide | omega) ?_
  refine Exists.intro _ (And.intro (y2) ?_)
  refine And.intro (by first | decide | omega) ?_
  refine Exists.intro _ (And.intro (y3) ?_)
  refine And.intro (by first | decide | omega) ?_
  refine Exists.intro _ (And.intro (y4) ?_)
  refine And.intro (by first | decide | omega) ?_
  refine Exists.intro _ (And.intro (y5) ?_)
  refine And.intro (by first | decide | omega) ?_
  refine Exists.intro _ (And.intro (y6) ?_)
  refine And.intro (by first | decide | omega) ?_
  refine Exists.intro _ (And.intro (y7) ?_)
  refine And.intro (by first | decide | omega) ?_
  refine Exists.intro _ (And.intro (y8) ?_)
  refine And.intro (by first | decide | omega) ?_
  refine Exists.intro _ (And.intro (y9) ?_)
  refine And.intro (by first | decide | omega) ?_
  refine Exists.intro _ (And.intro (y10) ?_)
  refine And.intro (by first | decide | omega) ?_
  refine Exists.intro _ (And.intro (y11) ?_)
  refine And.intro (by first | decide | omega) ?_
  refine Exists.intro _ (And.intro (y12) ?_)
  refine And.intro (by first | decide | omega) ?_
  refine Exists.intro _ (And.intro (y13) ?_)
  refine And.intro (by first | decide | omega) ?_
  refine Exists.intro _ (And.intro (y14) ?_)
  have w14 : ∀ a, a < 319 → a ≠ 57 → τ14.2 a = τ14.2 a := fun _ _ _ => rfl
  have w13 : ∀ a, a < 318 → a ≠ 57 → τ14.2 a = τ13.2 a := fun a h k => (w14 a (by omega) k).trans ((st_n k).trans (ab_up_n (show a ≠ 318 by omega)))
  have w12 : ∀ a, a < 317 → a ≠ 57 → τ14.2 a = τ12.2 a := fun a h k => (w13 a (by omega) k).trans ((st_n k).trans (ab_up_n (show a ≠ 317 by omega)))
  have w11 : ∀ a, a < 316 → a ≠ 57 → τ14.2 a = τ11.2 a := fun a h k => (w12 a (by omega) k).trans ((st_n k).trans (ab_up_n (show a ≠ 316 by omega)))
  have w10 : ∀ a, a < 315 → a ≠ 57 → τ14.2 a = τ10.2 a := fun a h k => (w11 a (by omega) k).trans ((st_n k).trans (ab_up_n (show a ≠ 315 by omega)))
  have w9 : ∀ a, a < 314 → a ≠ 57 → τ14.2 a = τ9.2 a := fun a h k => (w10 a (by omega) k).trans ((st_n k).trans (ab_up_n (show a ≠ 314 by omega)))
  have w8 : ∀ a, a < 313 → a ≠ 57 → τ14.2 a = τ8.2 a := fun a h k => (w9 a (by omega) k).trans ((st_n k).trans (ab_up_n (show a ≠ 313 by omega)))
  have w7 : ∀ a, a < 280 → a ≠ 57 → τ14.2 a = τ7.2 a := fun a h k => (w8 a (by omega) k).trans ((st_n k).trans (ab_mn_n (σ := τ7) (N := 32) (M := 100) (Or.inl (show a < 280 by omega))))
  have w6 : ∀ a, a < 79 → a ≠ 57 → τ14.2 a = τ6.2 a := fun a h k => (w7 a (by omega) k).trans ((st_n k).trans (ab_mn_n (σ := τ6) (N := 200) (M := 4) (Or.inl (show a < 79 by omega))))
  have w5 : ∀ a, a < 72 → a ≠ 57 → τ14.2 a = τ5.2 a := fun a h k => (w6 a (by omega) k).trans ((st_n k).trans (ab_mn_n (σ := τ5) (N := 6) (M := 100) (Or.inl (show a < 72 by omega))))
  have w4 : ∀ a, a < 71 → a ≠ 57 → τ14.2 a = τ4.2 a := fun a h k => (w5 a (by omega) k).trans ((st_n k).trans (ab_up_n (show a ≠ 71 by omega)))
  have w3 : ∀ a, a < 66 → a ≠ 57 → τ14.2 a = τ3.2 a := fun a h k => (w4 a (by omega) k).trans ((st_n k).trans (ab_mn_n (σ := τ3) (N := 4) (M := 1500) (Or.inl (show a < 66 by omega))))
  have w2 : ∀ a, a < 65 → a ≠ 57 → τ14.2 a = τ2.2 a := fun a h k => (w3 a (by omega) k).trans ((st_n k).trans (ab_up_n (show a ≠ 65 by omega)))
  have w1 : ∀ a, a < 60 → a ≠ 57 → τ14.2 a = τ1.2 a := fun a h k => (w2 a (by omega) k).trans ((st_n k).trans (ab_mn_n (σ := τ1) (N := 4) (M := 7) (Or.inl (show a < 60 by omega))))
  have w0 : ∀ a, a < 59 → a ≠ 57 → τ14.2 a = τ0.2 a := fun a h k => (w1 a (by omega) k).trans ((st_n k).trans (ab_up_n (show a ≠ 59 by omega)))
  have wz : ∀ a, a < 57 → τ14.2 a = g a := fun a h => (w0 a (by omega) (by omega)).trans ((st_n (show a ≠ 57 by omega)).trans ((st_n (show a ≠ 57 by omega)).trans (ab_up_n (show a ≠ 58 by omega))))
  have v0 : τ14.2 58 = some q0 := (w0 58 (by decide) (by decide)).trans ((st_n (show (58 : Nat) ≠ 57 by decide)).trans ((st_n (show (58 : Nat) ≠ 57 by decide)).trans (nw_s (σ := ((58, g) : ab_H)))))
  have v1 : τ14.2 59 = some q1 := (w1 59 (by decide) (by decide)).trans ((st_n (show (59 : Nat) ≠ 57 by decide)).trans (nw_s (σ := τ0)))
  have v2 : τ14.2 60 = some (rfs 61 4) := (w2 60 (by decide) (by decide)).trans ((st_n (show (60 : Nat) ≠ 57 by decide)).trans (ab_mn_s (σ := τ1) (N := 4) (M := 7)))
  have u2 : ∀ j, j < 4 → τ14.2 (61 + j) = some (iar 7 (fun _ => 0)) := fun j hj => (w2 (61 + j) (by omega) (by omega)).trans ((st_n (show 61 + j ≠ 57 by omega)).trans (ab_mn_r (σ := τ1) (N := 4) (M := 7) hj))
  have v3 : τ14.2 65 = some q3 := (w3 65 (by decide) (by decide)).trans ((st_n (show (65 : Nat) ≠ 57 by decide)).trans (nw_s (σ := τ2)))
  have v4 : τ14.2 66 = some (rfs 67 4) := (w4 66 (by decide) (by decide)).trans ((st_n (show (66 : Nat) ≠ 57 by decide)).trans (ab_mn_s (σ := τ3) (N := 4) (M := 1500)))
  have u4 : ∀ j, j < 4 → τ14.2 (67 + j) = some (iar 1500 (fun _ => 0)) := fun j hj => (w4 (67 + j) (by omega) (by omega)).trans ((st_n (show 67 + j ≠ 57 by omega)).trans (ab_mn_r (σ := τ3) (N := 4) (M := 1500) hj))
  have v5 : τ14.2 71 = some q5 := (w5 71 (by decide) (by decide)).trans ((st_n (show (71 : Nat) ≠ 57 by decide)).trans (nw_s (σ := τ4)))
  have v6 : τ14.2 72 = some (rfs 73 6) := (w6 72 (by decide) (by decide)).trans ((st_n (show (72 : Nat) ≠ 57 by decide)).trans (ab_mn_s (σ := τ5) (N := 6) (M := 100)))
  have u6 : ∀ j, j < 6 → τ14.2 (73 + j) = some (iar 100 (fun _ => 0)) := fun j hj => (w6 (73 + j) (by omega) (by omega)).trans ((st_n (show 73 + j ≠ 57 by omega)).trans (ab_mn_r (σ := τ5) (N := 6) (M := 100) hj))
  have v7 : τ14.2 79 = some (rfs 80 200) := (w7 79 (by decide) (by decide)).trans ((st_n (show (79 : Nat) ≠ 57 by decide)).trans (ab_mn_s (σ := τ6) (N := 200) (M := 4)))
  have u7 : ∀ j, j < 200 → τ14.2 (80 + j) = some (iar 4 (fun _ => 0)) := fun j hj => (w7 (80 + j) (by omega) (by omega)).trans ((st_n (show 80 + j ≠ 57 by omega)).trans (ab_mn_r (σ := τ6) (N := 200) (M := 4) hj))
  have v8 : τ14.2 280 = some (rfs 281 32) := (w8 280 (by decide) (by decide)).trans ((st_n (show (280 : Nat) ≠ 57 by decide)).trans (ab_mn_s (σ := τ7) (N := 32) (M := 100)))
  have u8 : ∀ j, j < 32 → τ14.2 (281 + j) = some (iar 100 (fun _ => 0)) := fun j hj => (w8 (281 + j) (by omega) (by omega)).trans ((st_n (show 281 + j ≠ 57 by omega)).trans (ab_mn_r (σ := τ7) (N := 32) (M := 100) hj))
  have v9 : τ14.2 313 = some q9 := (w9 313 (by decide) (by decide)).trans ((st_n (show (313 : Nat) ≠ 57 by decide)).trans (nw_s (σ := τ8)))
  have v10 : τ14.2 314 = some q10 := (w10 314 (by decide) (by decide)).trans ((st_n (show (314 : Nat) ≠ 57 by decide)).trans (nw_s (σ := τ9)))
  have v11 : τ14.2 315 = some q11 := (w11 315 (by decide) (by decide)).trans ((st_n (show (315 : Nat) ≠ 57 by decide)).trans (nw_s (σ := τ10)))
  have v12 : τ14.2 316 = some q12 := (w12 316 (by decide) (by decide)).trans ((st_n (show (316 : Nat) ≠ 57 by decide)).trans (nw_s (σ := τ11)))
  have v13 : τ14.2 317 = some q13 := (w13 317 (by decide) (by decide)).trans ((st_n (show (317 : Nat) ≠ 57 by decide)).trans (nw_s (σ := τ12)))
  have v14 : τ14.2 318 = some q14 := (w14 318 (by decide) (by decide)).trans ((st_n (show (318 : Nat) ≠ 57 by decide)).trans (nw_s (σ := τ13)))
  have v57 : τ14.2 57 = some (m10 (ab_up (fun _ => 0) 5 (-1))) := st_s
  exact ⟨rfl, rfl, i_fin (ω := τ14) wz v57 v0 v1 v2 u2 v3 v4 u4 v5 v6 u6 v7 u7 v8 u8 v9 v10 v11 v12 v13 v14⟩
end Mmade
