section Made
variable {σ : ab_H} {K : Nat → CT} {va : Nat → Nat → Nat} {ad : Nat → Nat}
set_option maxRecDepth 100000 in
set_option maxHeartbeats 1000000 in
theorem i_class (h0 : σ.2 0 = some (.inl (9, [nu0, nu0, nu0, nu0, nu0, nu0, nu0, nu0, nu0, nu0, .inl 0, .inl 0, .inl 0]))) (hs : σ.1 = 1) : ab_call 6 56 4800 yX9_init [rf 0] σ (fun r σ' => r = .inl none ∧ σ'.1 = 57 ∧ CI (320, σ'.2) 0 0 K va ad (fun _ _ => 0) (fun _ => 0) 0 (-1) (0, 0, 0) (fun _ => 0)) := by
  obtain ⟨s, g⟩ := σ
  have hs : s = 1 := hs
  subst hs
  have hN0 : ab_N 0 = 4 := rfl
  have hN1 : ab_N 1 = 7 := rfl
  have hN2 : ab_N 2 = 1 := rfl
  have hN4 : ab_N 4 = 4 := rfl
  have hN5 : ab_N 5 = 6 := rfl
  have hN6 : ab_N 6 = 9 := rfl
  have hN7 : ab_N 7 = 7 := rfl
  have hN8 : ab_N 8 = 1 := rfl
  refine eX9_init rfl (fun At hA => ?_)
  have c1 := i_tape (σ := ab_nw (1, g) (.inl (7, [nu0, .inl 0, .inl 0, .inl 0, .inl 0, .inl 0, .inl 0]))) (nw_s (σ := (1, g))) rfl
  refine hA 0 _ rfl _ _ _ _ _ ?_
  refine And.intro rfl (And.intro (by decide) ?_)
  refine And.intro ⟨by omega, by first | decide | omega⟩ ?_
  refine And.intro rfl (ab_inv_of c1 (by first | decide | omega) (by omega) (by omega) ?_)
  intro r υ1 hpost
  obtain ⟨rfl, s1, a1, a2, p1⟩ := hpost
  obtain ⟨s, υ1⟩ := υ1
  have s1 : s = 3 := s1
  subst s1
  have z1 : ((3, υ1) : ab_H).2 0 = some (.inl (9, [nu0, nu0, nu0, nu0, nu0, nu0, nu0, nu0, nu0, nu0, .inl 0, .inl 0, .inl 0])) := (p1 0 (by decide)).trans (nw_e (show (0 : Nat) ≠ 1 by decide) h0)
  let τ1 : ab_H := ab_st (3, υ1) 0 (.inl (9, [rf 1, nu0, nu0, nu0, nu0, nu0, nu0, nu0, nu0, nu0, .inl 0, .inl 0, .inl 0]))
  have c2 := i_tab (K := K) (va := va) (ad := ad) (σ := ab_nw τ1 (.inl (6, [nu0, nu0, nu0, nu0, nu0, nu0, nu0, .inl 0, .inl 0]))) (nw_s (σ := τ1)) rfl
  refine Exists.intro _ (And.intro (by first | assumption | exact st_s | exact st_e (by decide) (by assumption) | exact st_e (by omega) (by assumption) | exact st_e (by decide) st_s | exact st_e (by omega) st_s | exact st_e (by decide) (st_e (by decide) (by assumption)) | exact st_e (by omega) (st_e (by omega) (by assumption))) ?_)
  refine And.intro ⟨by omega, by first | decide | omega⟩ ?_
  refine And.intro rfl (ab_inv_of c2 (by first | decide | omega) (by omega) (by omega) ?_)
  intro r υ2 hpost
  obtain ⟨rfl, s2, b1, b2, p2⟩ := hpost
  obtain ⟨s, υ2⟩ := υ2
  have s2 : s = 26 := s2
  subst s2
  have z2 : ((26, υ2) : ab_H).2 0 = some (.inl (9, [rf 1, nu0, nu0, nu0, nu0, nu0, nu0, nu0, nu0, nu0, .inl 0, .inl 0, .inl 0])) := (p2 0 (by decide)).trans (nw_e (show (0 : Nat) ≠ 3 by decide) st_s)
  let τ2 : ab_H := ab_st (26, υ2) 0 (.inl (9, [rf 1, rf 3, nu0, nu0, nu0, nu0, nu0, nu0, nu0, nu0, .inl 0, .inl 0, .inl 0]))
  let κ2 : ab_H := ab_nw τ2 (.inl (4, [nu0, nu0, .inl 0, .inl 0]))
  have y2 : κ2.2 0 = some (.inl (9, [rf 1, rf 3, nu0, nu0, nu0, nu0, nu0, nu0, nu0, nu0, .inl 0, .inl 0, .inl 0])) := nw_e (show (0 : Nat) ≠ 26 by decide) st_s
  have c3 := i_colt (σ := κ2) (nw_s (σ := τ2)) rfl
  refine Exists.intro _ (And.intro (by first | assumption | exact st_s | exact st_e (by decide) (by assumption) | exact st_e (by omega) (by assumption) | exact st_e (by decide) st_s | exact st_e (by omega) st_s | exact st_e (by decide) (st_e (by decide) (by assumption)) | exact st_e (by omega) (st_e (by omega) (by assumption))) ?_)
  refine And.intro ⟨by omega, by first | decide | omega⟩ ?_
  refine Exists.intro _ (And.intro (by first | assumption | exact st_s | exact st_e (by decide) (by assumption) | exact st_e (by omega) (by assumption) | exact st_e (by decide) st_s | exact st_e (by omega) st_s | exact st_e (by decide) (st_e (by decide) (by assumption)) | exact st_e (by omega) (st_e (by omega) (by assumption))) ?_)
  refine And.intro rfl (ab_inv_of c3 (by first | decide | omega) (by omega) (by omega) ?_)
  intro r υ3 hpost
  obtain ⟨rfl, s3, d1, d2, p3⟩ := hpost
  obtain ⟨s, υ3⟩ := υ3
  have s3 : s = 28 := s3
  subst s3
  have z3 : ((28, υ3) : ab_H).2 0 = some (.inl (9, [rf 1, rf 3, nu0, nu0, nu0, nu0, nu0, nu0, nu0, nu0, .inl 0, .inl 0, .inl 0])) := (p3 0 (by decide)).trans y2
  let τ3 : ab_H := ab_st (28, υ3) 0 (.inl (9, [rf 1, rf 3, rf 26, nu0, nu0, nu0, nu0, nu0, nu0, nu0, .inl 0, .inl 0, .inl 0]))
  let κ3 : ab_H := ab_nw τ3 (.inl (8, [nu0]))
  have y3 : κ3.2 0 = some (.inl (9, [rf 1, rf 3, rf 26, nu0, nu0, nu0, nu0, nu0, nu0, nu0, .inl 0, .inl 0, .inl 0])) := nw_e (show (0 : Nat) ≠ 28 by decide) st_s
  have c4 := i_word (σ := κ3) (nw_s (σ := τ3))
  let υ4 : ab_H := ab_st κ3 28 (.inl (8, [rf 1]))
  have z4 : υ4.2 0 = some (.inl (9, [rf 1, rf 3, rf 26, nu0, nu0, nu0, nu0, nu0, nu0, nu0, .inl 0, .inl 0, .inl 0])) := st_e (by decide) y3
  let τ4 : ab_H := ab_st υ4 0 (.inl (9, [rf 1, rf 3, rf 26, rf 28, nu0, nu0, nu0, nu0, nu0, nu0, .inl 0, .inl 0, .inl 0]))
  let κ4 : ab_H := ab_nw τ4 (.inl (5, [nu0, nu0, nu0, nu0, nu0, .inl 0]))
  have y4 : κ4.2 0 = some (.inl (9, [rf 1, rf 3, rf 26, rf 28, nu0, nu0, nu0, nu0, nu0, nu0, .inl 0, .inl 0, .inl 0])) := nw_e (show (0 : Nat) ≠ 29 by decide) st_s
  have c5 := i_que (σ := κ4) (nw_s (σ := τ4)) rfl
  refine Exists.intro _ (And.intro (by first | assumption | exact st_s | exact st_e (by decide) (by assumption) | exact st_e (by omega) (by assumption) | exact st_e (by decide) st_s | exact st_e (by omega) st_s | exact st_e (by decide) (st_e (by decide) (by assumption)) | exact st_e (by omega) (st_e (by omega) (by assumption))) ?_)
  refine And.intro ⟨by omega, by first | decide | omega⟩ ?_
  refine Exists.intro _ (And.intro (by first | assumption | exact st_s | exact st_e (by decide) (by assumption) | exact st_e (by omega) (by assumption) | exact st_e (by decide) st_s | exact st_e (by omega) st_s | exact st_e (by decide) (st_e (by decide) (by assumption)) | exact st_e (by omega) (st_e (by omega) (by assumption))) ?_)
  refine And.intro rfl (ab_inv_ev c4 (by first | decide | omega) (by first | exact Nat.le_refl _ | omega) (by first | exact Nat.le_refl _ | omega) ?_)
  refine Exists.intro _ (And.intro (by first | assumption | exact st_s | exact st_e (by decide) (by assumption) | exact st_e (by omega) (by assumption) | exact st_e (by decide) st_s | exact st_e (by omega) st_s | exact st_e (by decide) (st_e (by decide) (by assumption)) | exact st_e (by omega) (st_e (by omega) (by assumption))) ?_)
  refine And.intro ⟨by omega, by first | decide | omega⟩ ?_
  refine Exists.intro _ (And.intro (by first | assumption | exact st_s | exact st_e (by decide) (by assumption) | exact st_e (by omega) (by assumption) | exact st_e (by decide) st_s | exact st_e (by omega) st_s | exact st_e (by decide) (st_e (by decide) (by assumption)) | exact st_e (by omega) (st_e (by omega) (by assumption))) ?_)
  refine Exists.intro _ (And.intro (by first | assumption | exact st_s | exact st_e (by decide) (by assumption) | exact st_e (by omega) (by assumption) | exact st_e (by decide) st_s | exact st_e (by omega) st_s | exact st_e (by decide) (st_e (by decide) (by assumption)) | exact st_e (by omega) (st_e (by omega) (by assumption))) ?_)
  refine And.intro rfl (ab_inv_of c5 (by first | decide | omega) (by omega) (by omega) ?_)
  intro r υ5 hpost
  obtain ⟨rfl, s5, e1, e2, e3, e4, p5⟩ := hpost
  obtain ⟨s, υ5⟩ := υ5
  have s5 : s = 33 := s5
  subst s5
  have z5 : ((33, υ5) : ab_H).2 0 = some (.inl (9, [rf 1, rf 3, rf 26, rf 28, nu0, nu0, nu0, nu0, nu0, nu0, .inl 0, .inl 0, .inl 0])) := (p5 0 (by decide)).trans y4
  let τ5 : ab_H := ab_st (33, υ5) 0 (.inl (9, [rf 1, rf 3, rf 26, rf 28, rf 29, nu0, nu0, nu0, nu0, nu0, .inl 0, .inl 0, .inl 0]))
  let κ5 : ab_H := ab_nw τ5 (.inl (0, [nu0, nu0, nu0, nu0]))
  have y5 : κ5.2 0 = some (.inl (9, [rf 1, rf 3, rf 26, rf 28, rf 29, nu0, nu0, nu0, nu0, nu0, .inl 0, .inl 0, .inl 0])) := nw_e (show (0 : Nat) ≠ 33 by decide) st_s
  have c6 := i_ans (σ := κ5) (nw_s (σ := τ5)) rfl
  refine Exists.intro _ (And.intro (by first | assumption | exact st_s | exact st_e (by decide) (by assumption) | exact st_e (by omega) (by assumption) | exact st_e (by decide) st_s | exact st_e (by omega) st_s | exact st_e (by decide) (st_e (by decide) (by assumption)) | exact st_e (by omega) (st_e (by omega) (by assumption))) ?_)
  refine And.intro ⟨by omega, by first | decide | omega⟩ ?_
  refine Exists.intro _ (And.intro (by first | assumption | exact st_s | exact st_e (by decide) (by assumption) | exact st_e (by omega) (by assumption) | exact st_e (by decide) st_s | exact st_e (by omega) st_s | exact st_e (by decide) (st_e (by decide) (by assumption)) | exact st_e (by omega) (st_e (by omega) (by assumption))) ?_)
  refine And.intro rfl (ab_inv_of c6 (by first | decide | omega) (by omega) (by omega) ?_)
  intro r υ6 hpost
  obtain ⟨rfl, s6, f1, p6⟩ := hpost
  obtain ⟨s, υ6⟩ := υ6
  have s6 : s = 50 := s6
  subst s6
  have z6 : ((50, υ6) : ab_H).2 0 = some (.inl (9, [rf 1, rf 3, rf 26, rf 28, rf 29, nu0, nu0, nu0, nu0, nu0, .inl 0, .inl 0, .inl 0])) := (p6 0 (by decide)).trans y5
  let τ6 : ab_H := ab_st (50, υ6) 0 (.inl (9, [rf 1, rf 3, rf 26, rf 28, rf 29, rf 33, nu0, nu0, nu0, nu0, .inl 0, .inl 0, .inl 0]))
  have c7 := i_sea (σ := ab_nw τ6 (.inl (1, [nu0, nu0, .inl 0, .inl 0, .inl 0, .inl 0, .inl 0]))) (nw_s (σ := τ6)) rfl
  refine Exists.intro _ (And.intro (by first | assumption | exact st_s | exact st_e (by decide) (by assumption) | exact st_e (by omega) (by assumption) | exact st_e (by decide) st_s | exact st_e (by omega) st_s | exact st_e (by decide) (st_e (by decide) (by assumption)) | exact st_e (by omega) (st_e (by omega) (by assumption))) ?_)
  refine And.intro ⟨by omega, by first | decide | omega⟩ ?_
  refine And.intro rfl (ab_inv_of c7 (by first | decide | omega) (by omega) (by omega) ?_)
  intro r υ7 hpost
  obtain ⟨rfl, s7, g1, g2, g3, p7⟩ := hpost
  obtain ⟨s, υ7⟩ := υ7
  have s7 : s = 53 := s7
  subst s7
  have z7 : ((53, υ7) : ab_H).2 0 = some (.inl (9, [rf 1, rf 3, rf 26, rf 28, rf 29, rf 33, nu0, nu0, nu0, nu0, .inl 0, .inl 0, .inl 0])) := (p7 0 (by decide)).trans (nw_e (show (0 : Nat) ≠ 50 by decide) st_s)
  let τ7 : ab_H := ab_st (53, υ7) 0 (.inl (9, [rf 1, rf 3, rf 26, rf 28, rf 29, rf 33, rf 50, nu0, nu0, nu0, .inl 0, .inl 0, .inl 0]))
  have c8 := c_bmInit (σ := ab_nw τ7 (.inl (2, [nu0]))) (h := 53) (nw_s (σ := τ7)) rfl
  refine Exists.intro _ (And.intro (by first | assumption | exact st_s | exact st_e (by decide) (by assumption) | exact st_e (by omega) (by assumption) | exact st_e (by decide) st_s | exact st_e (by omega) st_s | exact st_e (by decide) (st_e (by decide) (by assumption)) | exact st_e (by omega) (st_e (by omega) (by assumption))) ?_)
  refine And.intro ⟨by omega, by first | decide | omega⟩ ?_
  refine And.intro rfl (ab_inv_of c8 (by first | decide | omega) (by omega) (by omega) ?_)
  intro r υ8 hpost
  obtain ⟨rfl, s8, h1, p8⟩ := hpost
  obtain ⟨s, υ8⟩ := υ8
  have s8 : s = 55 := s8
  subst s8
  have z8 : ((55, υ8) : ab_H).2 0 = some (.inl (9, [rf 1, rf 3, rf 26, rf 28, rf 29, rf 33, rf 50, nu0, nu0, nu0, .inl 0, .inl 0, .inl 0])) := (p8 0 (by decide)).trans (nw_e (show (0 : Nat) ≠ 53 by decide) st_s)
  let τ8 : ab_H := ab_st (55, υ8) 0 (.inl (9, [rf 1, rf 3, rf 26, rf 28, rf 29, rf 33, rf 50, rf 53, nu0, nu0, .inl 0, .inl 0, .inl 0]))
  let q4 : ab_C := .inr (.inl (0, 4, fun _ => 0))
  let q3 : ab_C := .inr (.inl (0, 3, fun _ => 0))
  have y8 : (ab_nw τ8 q4).2 0 = some (.inl (9, [rf 1, rf 3, rf 26, rf 28, rf 29, rf 33, rf 50, rf 53, nu0, nu0, .inl 0, .inl 0, .inl 0])) := nw_e (show (0 : Nat) ≠ 55 by decide) st_s
  let τ9 : ab_H := ab_st (ab_nw τ8 q4) 0 (.inl (9, [rf 1, rf 3, rf 26, rf 28, rf 29, rf 33, rf 50, rf 53, rf 55, nu0, .inl 0, .inl 0, .inl 0]))
  have y9 : (ab_nw τ9 q3).2 0 = some (.inl (9, [rf 1, rf 3, rf 26, rf 28, rf 29, rf 33, rf 50, rf 53, rf 55, nu0, .inl 0, .inl 0, .inl 0])) := nw_e (show (0 : Nat) ≠ 56 by decide) st_s
  refine Exists.intro _ (And.intro (by first | assumption | exact st_s | exact st_e (by decide) (by assumption) | exact st_e (by omega) (by assumption) | exact st_e (by decide) st_s | exact st_e (by omega) st_s | exact st_e (by decide) (st_e (by decide) (by assumption)) | exact st_e (by omega) (st_e (by omega) (by assumption))) ?_)
  refine And.intro (by omega) ?_
  refine Exists.intro _ (And.intro (by first | assumption | exact st_s | exact st_e (by decide) (by assumption) | exact st_e (by omega) (by assumption) | exact st_e (by decide) st_s | exact st_e (by omega) st_s | exact st_e (by decide) (st_e (by decide) (by assumption)) | exact st_e (by omega) (st_e (by omega) (by assumption))) ?_)
  refine And.intro (by omega) ?_
  refine Exists.intro _ (And.intro (by first | assumption | exact st_s | exact st_e (by decide) (by assumption) | exact st_e (by omega) (by assumption) | exact st_e (by decide) st_s | exact st_e (by omega) st_s | exact st_e (by decide) (st_e (by decide) (by assumption)) | exact st_e (by omega) (st_e (by omega) (by assumption))) ?_)
  refine ⟨rfl, rfl, ?_⟩
  let ω : ab_H := ab_st (ab_nw τ9 q3) 0 (c9 (fun _ => 0))
  show CI (320, ω.2) 0 0 K va ad (fun _ _ => 0) (fun _ => 0) 0 (-1) (0, 0, 0) (fun _ => 0)
  have w8 : ∀ a, 1 ≤ a → a < 55 → ω.2 a = υ8 a := fun a k1 k2 => (st_n (by omega)).trans ((ab_up_n (show a ≠ 56 by omega)).trans ((st_n (by omega)).trans ((ab_up_n (show a ≠ 55 by omega)).trans (st_n (by omega)))))
  have w7 : ∀ a, 1 ≤ a → a < 53 → ω.2 a = υ7 a := fun a k1 k2 => (w8 a k1 (by omega)).trans ((p8 a k2).trans ((ab_up_n (show a ≠ 53 by omega)).trans (st_n (by omega))))
  have w6 : ∀ a, 1 ≤ a → a < 50 → ω.2 a = υ6 a := fun a k1 k2 => (w7 a k1 (by omega)).trans ((p7 a k2).trans ((ab_up_n (show a ≠ 50 by omega)).trans (st_n (by omega))))
  have w5 : ∀ a, 1 ≤ a → a < 33 → ω.2 a = υ5 a := fun a k1 k2 => (w6 a k1 (by omega)).trans ((p6 a k2).trans ((ab_up_n (show a ≠ 33 by omega)).trans (st_n (by omega))))
  have w4 : ∀ a, 1 ≤ a → a < 29 → ω.2 a = υ4.2 a := fun a k1 k2 => (w5 a k1 (by omega)).trans ((p5 a k2).trans ((ab_up_n (show a ≠ 29 by omega)).trans (st_n (by omega))))
  have w3 : ∀ a, 1 ≤ a → a < 28 → ω.2 a = υ3 a := fun a k1 k2 => (w4 a k1 (by omega)).trans ((st_n (by omega)).trans ((ab_up_n (show a ≠ 28 by omega)).trans (st_n (by omega))))
  have w2 : ∀ a, 1 ≤ a → a < 26 → ω.2 a = υ2 a := fun a k1 k2 => (w3 a k1 (by omega)).trans ((p3 a k2).trans ((ab_up_n (show a ≠ 26 by omega)).trans (st_n (by omega))))
  have w1 : ∀ a, 1 ≤ a → a < 3 → ω.2 a = υ1 a := fun a k1 k2 => (w2 a k1 (by omega)).trans ((p2 a k2).trans ((ab_up_n (show a ≠ 3 by omega)).trans (st_n (by omega))))
  have G2 : gr (fun a => a = 0 ∨ (26 ≤ a ∧ a < 320)) (320, υ2) (320, ω.2) := ⟨Nat.le_refl _, fun a k1 k2 => by
    have k1 : a < 320 := k1
    exact w2 a (by omega) (by omega)⟩
  have G6 : gr (fun a => a = 0 ∨ (50 ≤ a ∧ a < 320)) (320, υ6) (320, ω.2) := ⟨Nat.le_refl _, fun a k1 k2 => by
    have k1 : a < 320 := k1
    exact w6 a (by omega) (by omega)⟩
  have T2 : TBL (320, υ2) 0 0 K va ad (fun _ _ => 0) := by
    obtain ⟨t1, t2, t3, ⟨i1, i2, i3⟩, t5, t6⟩ := b1
    exact ⟨t1, t2, t3, ⟨i1, i2, fun d hd => absurd hd (Nat.not_lt_zero _)⟩, t5, t6⟩
  have S2' : SCR (320, υ2) := b2
  have A6 : ANS (320, υ6) := f1
  have v1 : ∀ a, a ≠ 0 → ω.2 a = (ab_nw τ9 q3).2 a := fun a k1 => st_n k1
  have v2 : ∀ a, a ≠ 56 → (ab_nw τ9 q3).2 a = τ9.2 a := fun a k1 => ab_up_n (show a ≠ 56 from k1)
  have v3 : ∀ a, a ≠ 0 → τ9.2 a = (ab_nw τ8 q4).2 a := fun a k1 => st_n k1
  have x55 : ω.2 55 = some q4 := (v1 55 (by decide)).trans ((v2 55 (by decide)).trans ((v3 55 (by decide)).trans (nw_s (σ := τ8))))
  have x56 : ω.2 56 = some q3 := (v1 56 (by decide)).trans (nw_s (σ := τ9))
  refine ⟨(st_s : ω.2 0 = some (c9 (fun _ => 0))), ⟨⟨0, 0, 0, 0, (w1 1 (by decide) (by decide)).trans a1⟩, (w1 2 (by decide) (by decide)).trans a2, fun i => ⟨Int.le_refl 0, (by decide : (0 : Int) < 256)⟩, Nat.zero_le _⟩, T2.gr G2 (Nat.le_refl _) (fun a _ => by omega), S2'.gr G2 (Nat.le_refl _) (fun a _ _ => by omega), ⟨⟨0, 0, _, (w3 26 (by decide) (by decide)).trans d1, (w3 27 (by decide) (by decide)).trans d2⟩, (w4 28 (by decide) (by decide)).trans (st_s (σ := κ3)), ⟨0, _, _, _, Nat.zero_le _, (w5 29 (by decide) (by decide)).trans e1, (w5 30 (by decide) (by decide)).trans e2, (w5 31 (by decide) (by decide)).trans e3, (w5 32 (by decide) (by decide)).trans e4, fun h => by cases h⟩⟩, A6.gr G6 (Nat.le_refl _) (fun a _ _ => by omega), ⟨⟨0, 0, 0, 0, 0, (w7 50 (by decide) (by decide)).trans g1⟩, ⟨fun _ => 0, (w7 51 (by decide) (by decide)).trans g2⟩, ⟨fun _ => 0, (w7 52 (by decide) (by decide)).trans g3⟩⟩, ⟨_, (w8 53 (by decide) (by decide)).trans h1.1, (w8 54 (by decide) (by decide)).trans h1.2.1, h1.2.2⟩, ⟨fun _ => 0, ?_⟩, ⟨fun _ => 0, ?_, rfl, rfl, rfl⟩, Nat.le_refl _⟩
  · exact x55
  · exact x56
/-- what happens elsewhere leaves the class as it is -/
theorem CI.keep {cc rows : Nat} {R : Nat → V1} {f : Nat → Int} {n : Nat} {pl : Int} {c : C3} {r : Nat → Nat} (h : CI σ cc rows K va ad R f n pl c r) {A : Nat → Prop} {σ' : ab_H} (hf : gr A σ σ') (hA : ∀ a, a ≤ 56 ∨ 320 ≤ a → ¬ A a) : CI σ' cc rows K va ad R f n pl c r := by
  have hs := h.s
  obtain ⟨h0, h1, h2, h3, h4, h5, h6⟩ := h
  exact ⟨(hf.2 0 (by omega) (hA _ (by omega))).trans h0, h1.gr hf hs ⟨hA _ (by omega), hA _ (by omega)⟩, h2.gr hf hs (fun a _ => hA a (by omega)), h3.gr hf hs (fun a _ _ => hA a (by omega)), h4.gr hf hs (fun a _ _ => hA a (by omega)), h5.gr hf hs (fun a _ _ => hA a (by omega)), h6.gr hf (fun a _ _ => hA a (by omega))⟩
theorem CS.keep {S : St} {r : Nat → Nat} (h : CS σ S r) {A : Nat → Prop} {σ' : ab_H} (hf : gr A σ σ') (hA : ∀ a, a ≤ 56 ∨ 320 ≤ a → ¬ A a) : CS σ' S r := by
  obtain ⟨cc, rows, K, va, R, f, n, pl, c⟩ := S
  obtain ⟨ad, h⟩ := h
  exact ⟨ad, h.keep hf hA⟩
end Made
