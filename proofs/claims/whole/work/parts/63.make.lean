-- ===== how the class is made =====
section Make
variable {σ : ab_H} {cc rows : Nat} {K : Nat → CT} {va : Nat → Nat → Nat} {ad : Nat → Nat} {R : Nat → V1} {f : Nat → Int} {n : Nat} {pl : Int} {c : C3} {r : Nat → Nat}
/-- a call that changes nothing, told like the others -/
def stq (S : St) (o : Int ⊕ Nat) : (Int × St) ⊕ Nat := match o with
  | .inl x => .inl (x, S)
  | .inr i => .inr i
theorem pure_st {o : Int ⊕ Nat} {z : ab_O} {σ' : ab_H} (h : pureP σ cc rows K va ad R f n pl c r o z σ') : stP σ (cc, rows, K, va, R, f, n, pl, c) r (stq (cc, rows, K, va, R, f, n, pl, c) o) z σ' := by
  obtain ⟨h1, h2⟩ := h
  refine ⟨h1, ?_⟩
  cases o with
  | inl x => exact ⟨h2.1, ad, h2.2⟩
  | inr i => exact ⟨h2.1, ad, h2.2⟩
abbrev nu0 : ab_V := .inr (.inl none)
set_option maxRecDepth 100000 in
set_option maxHeartbeats 1000000 in
theorem i_tape (h0 : σ.2 1 = some (.inl (7, [nu0, .inl 0, .inl 0, .inl 0, .inl 0, .inl 0, .inl 0]))) (hs : σ.1 = 2) : ab_call 2 1 400 yX7_init [rf 1] σ (fun r σ' => r = .inl none ∧ σ'.1 = 3 ∧ σ'.2 1 = some (tpc 0 0 0 0 0 (-1)) ∧ σ'.2 2 = some (bya (fun _ => 0)) ∧ ∀ a, a < 1 → σ'.2 a = σ.2 a) := by
  obtain ⟨s, g⟩ := σ
  have hs : s = 2 := hs
  subst hs
  have n0 := nw_e (σ := (2, g)) (x := .inr (.inl (0, 400, fun _ => 0))) (show (1 : Nat) ≠ 2 by decide) h0
  refine eX7_init rfl (fun At hA => ?_)
  refine hA 0 _ rfl _ _ _ _ _ ?_
  refine And.intro rfl (And.intro (by decide) ?_)
  refine And.intro (by omega) ?_
  refine Exists.intro _ (And.intro (by first | assumption | exact st_s | exact st_e (by decide) (by assumption) | exact st_e (by omega) (by assumption) | exact st_e (by decide) st_s | exact st_e (by omega) st_s | exact st_e (by decide) (st_e (by decide) (by assumption)) | exact st_e (by omega) (st_e (by omega) (by assumption))) ?_)
  refine Exists.intro _ (And.intro (by first | assumption | exact st_s | exact st_e (by decide) (by assumption) | exact st_e (by omega) (by assumption) | exact st_e (by decide) st_s | exact st_e (by omega) st_s | exact st_e (by decide) (st_e (by decide) (by assumption)) | exact st_e (by omega) (st_e (by omega) (by assumption))) ?_)
  exact ⟨rfl, rfl, st_s, st_e (by decide) (st_e (by decide) nw_s), fun a ha => (st_n (by omega)).trans ((st_n (by omega)).trans (ab_up_n (by omega)))⟩
set_option maxRecDepth 100000 in
set_option maxHeartbeats 1000000 in
theorem i_word (h0 : σ.2 28 = some (.inl (8, [nu0]))) : ab_ev 1 yX8_init [rf 28, rf 1] σ none (ab_st σ 28 (.inl (8, [rf 1]))) := by
  refine eX8_init rfl (fun At hA => ?_)
  refine hA 0 _ rfl _ _ _ _ _ ?_
  refine And.intro rfl (And.intro (by decide) ?_)
  refine Exists.intro _ (And.intro (by first | assumption | exact st_s | exact st_e (by decide) (by assumption) | exact st_e (by omega) (by assumption) | exact st_e (by decide) st_s | exact st_e (by omega) st_s | exact st_e (by decide) (st_e (by decide) (by assumption)) | exact st_e (by omega) (st_e (by omega) (by assumption))) ?_)
  exact ⟨rfl, rfl⟩
set_option maxRecDepth 100000 in
set_option maxHeartbeats 1000000 in
theorem i_colt (h0 : σ.2 26 = some (.inl (4, [nu0, nu0, .inl 0, .inl 0]))) (hs : σ.1 = 27) : ab_call 2 1 4 yX4_init [rf 26, rf 1] σ (fun r σ' => r = .inl none ∧ σ'.1 = 28 ∧ σ'.2 26 = some (ctc 0 0) ∧ σ'.2 27 = some (.inr (.inl (0, 4, fun _ => 0))) ∧ ∀ a, a < 26 → σ'.2 a = σ.2 a) := by
  obtain ⟨s, g⟩ := σ
  have hs : s = 27 := hs
  subst hs
  have n0 := nw_e (σ := (27, g)) (x := .inr (.inl (0, 4, fun _ => 0))) (show (26 : Nat) ≠ 27 by decide) h0
  refine eX4_init rfl (fun At hA => ?_)
  refine hA 0 _ rfl _ _ _ _ _ ?_
  refine And.intro rfl (And.intro (by decide) ?_)
  refine And.intro (by omega) ?_
  refine Exists.intro _ (And.intro (by first | assumption | exact st_s | exact st_e (by decide) (by assumption) | exact st_e (by omega) (by assumption) | exact st_e (by decide) st_s | exact st_e (by omega) st_s | exact st_e (by decide) (st_e (by decide) (by assumption)) | exact st_e (by omega) (st_e (by omega) (by assumption))) ?_)
  refine Exists.intro _ (And.intro (by first | assumption | exact st_s | exact st_e (by decide) (by assumption) | exact st_e (by omega) (by assumption) | exact st_e (by decide) st_s | exact st_e (by omega) st_s | exact st_e (by decide) (st_e (by decide) (by assumption)) | exact st_e (by omega) (st_e (by omega) (by assumption))) ?_)
  exact ⟨rfl, rfl, st_s, st_e (by decide) (st_e (by decide) nw_s), fun a ha => (st_n (by omega)).trans ((st_n (by omega)).trans (ab_up_n (by omega)))⟩
set_option maxRecDepth 100000 in
set_option maxHeartbeats 1000000 in
theorem i_sea (h0 : σ.2 50 = some (.inl (1, [nu0, nu0, .inl 0, .inl 0, .inl 0, .inl 0, .inl 0]))) (hs : σ.1 = 51) : ab_call 2 2 8 yX1_init [rf 50] σ (fun r σ' => r = .inl none ∧ σ'.1 = 53 ∧ σ'.2 50 = some (sec 0 0 0 0 0) ∧ σ'.2 51 = some (.inr (.inl (0, 4, fun _ => 0))) ∧ σ'.2 52 = some (.inr (.inl (0, 4, fun _ => 0))) ∧ ∀ a, a < 50 → σ'.2 a = σ.2 a) := by
  obtain ⟨s, g⟩ := σ
  have hs : s = 51 := hs
  subst hs
  have n0 := nw_e (σ := (51, g)) (x := .inr (.inl (0, 4, fun _ => 0))) (show (50 : Nat) ≠ 51 by decide) h0
  let τ := ab_st (ab_nw (51, g) (.inr (.inl (0, 4, fun _ => 0)))) 50 (.inl (1, [rf 51, nu0, .inl 0, .inl 0, .inl 0, .inl 0, .inl 0]))
  have n1 : τ.2 50 = some (.inl (1, [rf 51, nu0, .inl 0, .inl 0, .inl 0, .inl 0, .inl 0])) := st_s
  have n2 := nw_e (σ := τ) (x := .inr (.inl (0, 4, fun _ => 0))) (show (50 : Nat) ≠ 52 by decide) n1
  refine eX1_init rfl (fun At hA => ?_)
  refine hA 0 _ rfl _ _ _ _ _ ?_
  refine And.intro rfl (And.intro (by decide) ?_)
  refine And.intro (by omega) ?_
  refine Exists.intro _ (And.intro (by first | assumption | exact st_s | exact st_e (by decide) (by assumption) | exact st_e (by omega) (by assumption) | exact st_e (by decide) st_s | exact st_e (by omega) st_s | exact st_e (by decide) (st_e (by decide) (by assumption)) | exact st_e (by omega) (st_e (by omega) (by assumption))) ?_)
  refine And.intro (by omega) ?_
  refine Exists.intro _ (And.intro (by first | assumption | exact st_s | exact st_e (by decide) (by assumption) | exact st_e (by omega) (by assumption) | exact st_e (by decide) st_s | exact st_e (by omega) st_s | exact st_e (by decide) (st_e (by decide) (by assumption)) | exact st_e (by omega) (st_e (by omega) (by assumption))) ?_)
  refine ⟨rfl, rfl, st_s, st_e (by decide) (nw_e (show (51 : Nat) ≠ 52 by decide) (st_e (by decide) ?_)), st_e (by decide) nw_s, fun a ha => (st_n (by omega)).trans ((ab_up_n (by show a ≠ 52; omega)).trans ((st_n (by omega)).trans (ab_up_n (by show a ≠ 51; omega))))⟩
  exact nw_s
set_option maxRecDepth 100000 in
set_option maxHeartbeats 1000000 in
theorem i_que (h0 : σ.2 29 = some (.inl (5, [nu0, nu0, nu0, nu0, nu0, .inl 0]))) (hs : σ.1 = 30) : ab_call 2 3 600 yX5_init [rf 29, rf 1, rf 3] σ (fun r σ' => r = .inl none ∧ σ'.1 = 33 ∧ σ'.2 29 = some (qsc 0) ∧ σ'.2 30 = some (.inr (.inl (0, 200, fun _ => 0))) ∧ σ'.2 31 = some (.inr (.inl (0, 200, fun _ => 0))) ∧ σ'.2 32 = some (.inr (.inl (0, 200, fun _ => 0))) ∧ ∀ a, a < 29 → σ'.2 a = σ.2 a) := by
  obtain ⟨s, g⟩ := σ
  have hs : s = 30 := hs
  subst hs
  let z : ab_C := .inr (.inl (0, 200, fun _ => 0))
  have n0 := nw_e (σ := (30, g)) (x := z) (show (29 : Nat) ≠ 30 by decide) h0
  let τ1 := ab_st (ab_nw (30, g) z) 29 (.inl (5, [nu0, nu0, rf 30, nu0, nu0, .inl 0]))
  have n1 := nw_e (σ := τ1) (x := z) (show (29 : Nat) ≠ 31 by decide) st_s
  let τ2 := ab_st (ab_nw τ1 z) 29 (.inl (5, [nu0, nu0, rf 30, rf 31, nu0, .inl 0]))
  have n2 := nw_e (σ := τ2) (x := z) (show (29 : Nat) ≠ 32 by decide) st_s
  refine eX5_init rfl (fun At hA => ?_)
  refine hA 0 _ rfl _ _ _ _ _ ?_
  refine And.intro rfl (And.intro (by decide) ?_)
  refine And.intro (by omega) ?_
  refine Exists.intro _ (And.intro (by first | assumption | exact st_s | exact st_e (by decide) (by assumption) | exact st_e (by omega) (by assumption) | exact st_e (by decide) st_s | exact st_e (by omega) st_s | exact st_e (by decide) (st_e (by decide) (by assumption)) | exact st_e (by omega) (st_e (by omega) (by assumption))) ?_)
  refine And.intro (by omega) ?_
  refine Exists.intro _ (And.intro (by first | assumption | exact st_s | exact st_e (by decide) (by assumption) | exact st_e (by omega) (by assumption) | exact st_e (by decide) st_s | exact st_e (by omega) st_s | exact st_e (by decide) (st_e (by decide) (by assumption)) | exact st_e (by omega) (st_e (by omega) (by assumption))) ?_)
  refine And.intro (by omega) ?_
  refine Exists.intro _ (And.intro (by first | assumption | exact st_s | exact st_e (by decide) (by assumption) | exact st_e (by omega) (by assumption) | exact st_e (by decide) st_s | exact st_e (by omega) st_s | exact st_e (by decide) (st_e (by decide) (by assumption)) | exact st_e (by omega) (st_e (by omega) (by assumption))) ?_)
  refine Exists.intro _ (And.intro (by first | assumption | exact st_s | exact st_e (by decide) (by assumption) | exact st_e (by omega) (by assumption) | exact st_e (by decide) st_s | exact st_e (by omega) st_s | exact st_e (by decide) (st_e (by decide) (by assumption)) | exact st_e (by omega) (st_e (by omega) (by assumption))) ?_)
  refine Exists.intro _ (And.intro (by first | assumption | exact st_s | exact st_e (by decide) (by assumption) | exact st_e (by omega) (by assumption) | exact st_e (by decide) st_s | exact st_e (by omega) st_s | exact st_e (by decide) (st_e (by decide) (by assumption)) | exact st_e (by omega) (st_e (by omega) (by assumption))) ?_)
  have w30 : (ab_nw (30, g) z).2 30 = some z := nw_s
  have w31 : (ab_nw τ1 z).2 31 = some z := nw_s
  have w32 : (ab_nw τ2 z).2 32 = some z := nw_s
  have y30 : (ab_nw τ2 z).2 30 = some z := nw_e (show (30 : Nat) ≠ 32 by decide) (st_e (by decide) (nw_e (show (30 : Nat) ≠ 31 by decide) (st_e (by decide) w30)))
  have y31 : (ab_nw τ2 z).2 31 = some z := nw_e (show (31 : Nat) ≠ 32 by decide) (st_e (by decide) w31)
  have yf : ∀ a, a < 29 → (ab_nw τ2 z).2 a = g a := fun a ha => (ab_up_n (by show a ≠ 32; omega)).trans ((st_n (by omega)).trans ((ab_up_n (by show a ≠ 31; omega)).trans ((st_n (by omega)).trans (ab_up_n (by show a ≠ 30; omega)))))
  exact ⟨rfl, rfl, st_s, st_e (by decide) (st_e (by decide) (st_e (by decide) y30)), st_e (by decide) (st_e (by decide) (st_e (by decide) y31)), st_e (by decide) (st_e (by decide) (st_e (by decide) w32)), fun a ha => (st_n (by omega)).trans ((st_n (by omega)).trans ((st_n (by omega)).trans (yf a ha)))⟩
end Make
