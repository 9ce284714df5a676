-- ===== how the class is made =====
section Make
variable {σ : ab_H} {cc rows : Nat} {K : Nat → CT} {va : Nat → Nat → Nat} {ad : Nat → Nat} {R : Nat → V1} {f : Nat → Int} {n : Nat} {pl : Int} {c : C3} {r : Nat → Nat}
/-- a call that changes nothing, told like the others -/
def stq (S : St) (o : Int ⊕ Nat) : (Int × St) ⊕ Nat := match o with
  | .inl x => .inl (x, S)
  | .inr i => .inr i
theorem pure_st {o : Int ⊕ Nat} {z : ab_O} {σ' : ab_H} (h : pureP σ cc rows K va ad R f n pl c r o z σ') : stP σ (cc, rows, K, va, R, f, n, pl, c) r (stq (cc, rows, K, va, R, f, n, pl, c) o) z σ' := by
  obtain ⟨h1, h2⟩ := h
  refine ⟨h1, ?_⟩
  cases o with
  | inl x => exact ⟨h2.1, ad, h2.2⟩
  | inr i => exact ⟨h2.1, ad, h2.2⟩
abbrev nu0 : ab_V := .inr (.inl none)
set_option maxRecDepth 100000 in
set_option maxHeartbeats 1000000 in
theorem i_tape (h0 : σ.2 1 = some (.inl (7, [nu0, .inl 0, .inl 0, .inl 0, .inl 0, .inl 0, .inl 0]))) (hs : σ.1 = 2) : ab_call 2 1 400 yX7_init [rf 1] σ (fun r σ' => r = .inl none ∧ σ'.1 = 3 ∧ σ'.2 1 = some (tpc 0 0 0 0 0 (-1)) ∧ σ'.2 2 = some (bya (fun _ => 0)) ∧ ∀ a, a < 1 → σ'.2 a = σ.2 a) := by
  obtain ⟨s, g⟩ := σ
  have hs : s = 2 := hs
  subst hs
  have n0 := nw_e (σ := (2, g)) (x := .inr (.inl (0, 400, fun _ => 0))) (show (1 : Nat) ≠ 2 by decide) h0
  refine eX7_init rfl (fun At hA => ?_)
  refine hA 0 _ rfl _ _ _ _ _ ?_
  refine And.intro rfl (And.intro (by decide) ?_)
  refine And.intro (by omega) ?_
  refine Exists.intro _ (And.intro (by first | assumption | exact st_s | exact st_e (by decide) (by assumption) | exact st_e (by omega) (by assumption) | exact st_e (by decide) st_s | exact st_e (by omega) st_s | exact st_e (by decide) (st_e (by decide) (by assumption)) | exact st_e (by omega) (st_e (by omega) (by assumption))) ?_)
  refine Exists.intro _ (And.intro (by first | assumption | exact st_s | exact st_e (by decide) (by assumption) | exact st_e (by omega) (by assumption) | exact st_e (by decide) st_s | exact st_e (by omega) st_s | exact st_e (by decide) (st_e (by decide) (by assumption)) | exact st_e (by omega) (st_e (by omega) (by assumption))) ?_)
  exact ⟨rfl, rfl, st_s, st_e (by decide) (st_e (by decide) nw_s), fun a ha => (st_n (by omega)).trans ((st_n (by omega)).trans (ab_up_n (by omega)))⟩
set_option maxRecDepth 100000 in
set_option maxHeartbeats 1000000 in
theorem i_word (h0 : σ.2 28 = some (.inl (8, [nu0]))) : ab_ev 1 yX8_init [rf 28, rf 1] σ none (ab_st σ 28 (.inl (8, [rf 1]))) := by
  refine eX8_init rfl (fun At hA => ?_)
  refine hA 0 _ rfl _ _ _ _ _ ?_
  refine And.intro rfl (And.intro (by decide) ?_)
  refine Exists.intro _ (And.intro (by first | assumption | exact st_s | exact st_e (by decide) (by assumption) | exact st_e (by omega) (by assumption) | exact st_e (by decide) st_s | exact st_e (by omega) st_s | exact st_e (by decide) (st_e (by decide) (by assumption)) | exact st_e (by omega) (st_e (by omega) (by assumption))) ?_)
  exact ⟨rfl, rfl⟩
set_option maxRecDepth 100000 in
set_option maxHeartbeats 1000000 in
theorem i_colt (h0 : σ.2 26 = some (.inl (4, [nu0, nu0, .inl 0, .inl 0]))) (hs : σ.1 = 27) : ab_call 2 1 4 yX4_init [rf 26, rf 1] σ (fun r σ' => r = .inl none ∧ σ'.1 = 28 ∧ σ'.2 26 = some (ctc 0 0) ∧ σ'.2 27 = some (.inr (.inl (0, 4, fun _ => 0))) ∧ ∀ a, a < 26 → σ'.2 a = σ.2 a) := by
  obtain ⟨s, g⟩ := σ
  have hs : s = 27 := hs
  subst hs
  have n0 := nw_e (σ := (27, g)) (x := .inr (.inl (0, 4, fun _ => 0))) (show (26 : Nat) ≠ 27 by decide) h0
  refine eX4_init rfl (fun At hA => ?_)
  refine hA 0 _ rfl _ _ _ _ _ ?_
  refine And.intro rfl (And.intro (by decide) ?_)
  refine And.intro (by omega) ?_
  refine Exists.intro _ (And.intro (by first | assumption | exact st_s | exact st_e (by decide) (by assumption) | exact st_e (by omega) (by assumption) | exact st_e (by decide) st_s | exact st_e (by omega) st_s | exact st_e (by decide) (st_e (by decide) (by assumption)) | exact st_e (by omega) (st_e (by omega) (by assumption))) ?_)
  refine Exists.intro _ (And.intro (by first | assumption | exact st_s | exact st_e (by decide) (by assumption) | exact st_e (by omega) (by assumption) | exact st_e (by decide) st_s | exact st_e (by omega) st_s | exact st_e (by decide) (st_e (by decide) (by assumption)) | exact st_e (by omega) (st_e (by omega) (by assumption))) ?_)
  exact ⟨rfl, rfl, st_s, st_e (by decide) (st_e (by decide) nw_s), fun a ha => (st_n (by omega)).trans ((st_n (by omega)).trans (ab_up_n (by omega)))⟩
set_option maxRecDepth 100000 in
set_option maxHeartbeats 1000000 in
theorem i_sea (h0 : σ.2 50 = some (.inl (1, [nu0, nu0, .inl 0, .inl 0, .inl 0, .inl 0, .inl 0]))) (hs : σ.1 = 51) : ab_call 2 2 8 yX1_init [rf 50] σ (fun r σ' => r = .inl none ∧ σ'.1 = 53 ∧ σ'.2 50 = some (sec 0 0 0 0 0) ∧ σ'.2 51 = some (.inr (.inl (0, 4, fun _ => 0))) ∧ σ'.2 52 = some (.inr (.inl (0, 4, fun _ => 0))) ∧ ∀ a, a < 50 → σ'.2 a = σ.2 a) := by
  obtain ⟨s, g⟩ := σ
  have hs : s = 51 := hs
  subst hs
  have n0 := nw_e (σ := (51, g)) (x := .inr (.inl (0, 4, fun _ => 0))) (show (50 : Nat) ≠ 51 by decide) h0
  let τ := ab_st (ab_nw (51, g) (.inr (.inl (0, 4, fun _ => 0)))) 50 (.inl (1, [rf 51, nu0, .inl 0, .inl 0, .inl 0, .inl 0, .inl 0]))
  have n1 : τ.2 50 = some (.inl (1, [rf 51, nu0, .inl 0, .inl 0, .inl 0, .inl 0, .inl 0])) := st_s
  have n2 := nw_e (σ := τ) (x := .inr (.inl (0, 4, fun _ => 0))) (show (50 : Nat) ≠ 52 by decide) n1
  refine eX1_init rfl (fun At hA => ?_)
  refine hA 0 _ rfl _ _ _ _ _ ?_
  refine And.intro rfl (And.intro (by decide) ?_)
  refine And.intro (by omega) ?_
  refine Exists.intro _ (And.intro (by first | assumption | exact st_s | exact st_e (by decide) (by assumption) | exact st_e (by omega) (by assumption) | exact st_e (by decide) st_s | exact st_e (by omega) st_s | exact st_e (by decide) (st_e (by decide) (by assumption)) | exact st_e (by omega) (st_e (by omega) (by assumption))) ?_)
  refine And.intro (by omega) ?_
  refine Exists.intro _ (And.intro (by first | assumption | exact st_s | exact st_e (by decide) (by assumption) | exact st_e (by omega) (by assumption) | exact st_e (by decide) st_s | exact st_e (by omega) st_s | exact st_e (by decide) (st_e (by decide) (by assumption)) | exact st_e (by omega) (st_e (by omega) (by assumption))) ?_)
  refine ⟨rfl, rfl, st_s, st_e (by decide) (nw_e (show (51 : Nat) ≠ 52 by decide) (st_e (by decide) ?_)), st_e (by decide) nw_s, fun a ha => (st_n (by omega)).trans ((ab_up_n (by show a ≠ 52; omega)).trans ((st_n (by omega)).trans (ab_up_n (by show a ≠ 51; omega))))⟩
  exact nw_s
set_option maxRecDepth 100000 in
set_option maxHeartbeats 1000000 in
theorem i_que (h0 : σ.2 29 = some (.inl (5, [nu0, nu0, nu0, nu0, nu0, .inl 0]))) (hs : σ.1 = 30) : ab_call 2 3 600 yX5_init [rf 29, rf 1, rf 3] σ (fun r σ' => r = .inl none ∧ σ'.1 = 33 ∧ σ'.2 29 = some (qsc 0) ∧ σ'.2 30 = some (.inr (.inl (0, 200, fun _ => 0))) ∧ σ'.2 31 = some (.inr (.inl (0, 200, fun _ => 0))) ∧ σ'.2 32 = some (.inr (.inl (0, 200, fun _ => 0))) ∧ ∀ a, a < 29 → σ'.2 a = σ.2 a) := by
  obtain ⟨s, g⟩ := σ
  have hs : s = 30 := hs
  subst hs
  let z : ab_C := .inr (.inl (0, 200, fun _ => 0))
  have n0 := nw_e (σ := (30, g)) (x := z) (show (29 : Nat) ≠ 30 by decide) h0
  let τ1 := ab_st (ab_nw (30, g) z) 29 (.inl (5, [nu0, nu0, rf 30, nu0, nu0, .inl 0]))
  have n1 := nw_e (σ := τ1) (x := z) (show (29 : Nat) ≠ 31 by decide) st_s
  let τ2 := ab_st (ab_nw τ1 z) 29 (.inl (5, [nu0, nu0, rf 30, rf 31, nu0, .inl 0]))
  have n2 := nw_e (σ := τ2) (x := z) (show (29 : Nat) ≠ 32 by decide) st_s
  refine eX5_init rfl (fun At hA => ?_)
  refine hA 0 _ rfl _ _ _ _ _ ?_
  refine And.intro rfl (And.intro (by decide) ?_)
  refine And.intro (by omega) ?_
  refine Exists.intro _ (And.intro (by first | assumption | exact st_s | exact st_e (by decide) (by assumption) | exact st_e (by omega) (by assumption) | exact st_e (by decide) st_s | exact st_e (by omega) st_s | exact st_e (by decide) (st_e (by decide) (by assumption)) | exact st_e (by omega) (st_e (by omega) (by assumption))) ?_)
  refine And.intro (by omega) ?_
  refine Exists.intro _ (And.intro (by first | assumption | exact st_s | exact st_e (by decide) (by assumption) | exact st_e (by omega) (by assumption) | exact st_e (by decide) st_s | exact st_e (by omega) st_s | exact st_e (by decide) (st_e (by decide) (by assumption)) | exact st_e (by omega) (st_e (by omega) (by assumption))) ?_)
  refine And.intro (by omega) ?_
  refine Exists.intro _ (And.intro (by first | assumption | exact st_s | exact st_e (by decide) (by assumption) | exact st_e (by omega) (by assumption) | exact st_e (by decide) st_s | exact st_e (by omega) st_s | exact st_e (by decide) (st_e (by decide) (by assumption)) | exact st_e (by omega) (st_e (by omega) (by assumption))) ?_)
  refine Exists.intro _ (And.intro (by first | assumption | exact st_s | exact st_e (by decide) (by assumption) | exact st_e (by omega) (by assumption) | exact st_e (by decide) st_s | exact st_e (by omega) st_s | exact st_e (by decide) (st_e (by decide) (by assumption)) | exact st_e (by omega) (st_e (by omega) (by assumption))) ?_)
  refine Exists.intro _ (And.intro (by first | assumption | exact st_s | exact st_e (by decide) (by assumption) | exact st_e (by omega) (by assumption) | exact st_e (by decide) st_s | exact st_e (by omega) st_s | exact st_e (by decide) (st_e (by decide) (by assumption)) | exact st_e (by omega) (st_e (by omega) (by assumption))) ?_)
  have w30 : (ab_nw (30, g) z).2 30 = some z := nw_s
  have w31 : (ab_nw τ1 z).2 31 = some z := nw_s
  have w32 : (ab_nw τ2 z).2 32 = some z := nw_s
  have y30 : (ab_nw τ2 z).2 30 = some z := nw_e (show (30 : Nat) ≠ 32 by decide) (st_e (by decide) (nw_e (show (30 : Nat) ≠ 31 by decide) (st_e (by decide) w30)))
  have y31 : (ab_nw τ2 z).2 31 = some z := nw_e (show (31 : Nat) ≠ 32 by decide) (st_e (by decide) w31)
  have yf : ∀ a, a < 29 → (ab_nw τ2 z).2 a = g a := fun a ha => (ab_up_n (by show a ≠ 32; omega)).trans ((st_n (by omega)).trans ((ab_up_n (by show a ≠ 31; omega)).trans ((st_n (by omega)).trans (ab_up_n (by show a ≠ 30; omega)))))
  exact ⟨rfl, rfl, st_s, st_e (by decide) (st_e (by decide) (st_e (by decide) y30)), st_e (by decide) (st_e (by decide) (st_e (by decide) y31)), st_e (by decide) (st_e (by decide) (st_e (by decide) w32)), fun a ha => (st_n (by omega)).trans ((st_n (by omega)).trans ((st_n (by omega)).trans (yf a ha)))⟩
set_option maxRecDepth 100000 in
set_option maxHeartbeats 1000000 in
theorem i_ans (h0 : σ.2 33 = some (.inl (0, [nu0, nu0, nu0, nu0]))) (hs : σ.1 = 34) : ab_call 3 16 716 yX0_init [rf 33, rf 3] σ (fun r σ' => r = .inl none ∧ σ'.1 = 50 ∧ ANS σ' ∧ ∀ a, a < 33 → σ'.2 a = σ.2 a) := by
  refine hq_call (post := fun r σ' => r = .inl none ∧ σ'.1 = 50 ∧ (∀ a, a < 33 → σ'.2 a = σ.2 a) ∧ ∃ f5 : Nat → Option Nat, (∀ i, i < 6 → f5 i = some (38 + 2 * i)) ∧ σ'.2 33 = some anc ∧ σ'.2 34 = some (.inr (.inr (0, 6, f5))) ∧ σ'.2 37 = some (.inr (.inl (0, 3, fun _ => 0))) ∧ IsB σ' 35 (fun _ => 0) ∧ ∀ i, i < 6 → IsB σ' (38 + 2 * i) (fun _ => 0)) ?_ ?_
  · obtain ⟨s, g⟩ := σ
    have hs : s = 34 := hs
    subst hs
    refine eX0_init rfl (fun At hA => ?_)
    have loop : ∀ (m i : Nat) (τ : ab_H) (k n : Nat), i + m = 6 → k ≤ 4 + 2 * i → n ≤ 110 + 101 * i → τ.1 = 38 + 2 * i → (∀ a, a < 33 → τ.2 a = g a) → (∃ f5 : Nat → Option Nat, (∀ j, j < i → f5 j = some (38 + 2 * j)) ∧ τ.2 33 = some anc ∧ τ.2 34 = some (.inr (.inr (0, 6, f5))) ∧ τ.2 37 = some (.inr (.inl (0, 3, fun _ => 0))) ∧ IsB τ 35 (fun _ => 0) ∧ ∀ j, j < i → IsB τ (38 + 2 * j) (fun _ => 0)) →
        At 1 [some (rf 33), some (rf 3), some (.inl i)] [] τ k n := by
      intro m
      induction m with
      | zero =>
        intro i τ k n hi hk hn hs hN hq
        have hi : i = 6 := by omega
        subst hi
        obtain ⟨f5, q4, k0, k5, k7, k3, k6⟩ := hq
        refine hA 1 _ rfl _ _ _ _ _ ?_
        refine Exists.intro _ (And.intro (by first | assumption | exact st_s | exact st_e (by decide) (by assumption) | exact st_e (by omega) (by assumption) | exact st_e (by decide) st_s | exact st_e (by omega) st_s | exact st_e (by decide) (st_e (by decide) (by assumption)) | exact st_e (by omega) (st_e (by omega) (by assumption))) ?_)
        refine Exists.intro _ (Exists.intro _ (And.intro (by first | assumption | exact st_s | exact st_e (by decide) (by assumption) | exact st_e (by omega) (by assumption) | exact st_e (by decide) st_s | exact st_e (by omega) st_s | exact st_e (by decide) (st_e (by decide) (by assumption)) | exact st_e (by omega) (st_e (by omega) (by assumption))) ?_))
        refine And.intro (And.intro (by first | assumption | exact b2i_R _ | exact rR (by omega) (by omega) | exact rR (by simp only [Int.toNat_natCast]; omega) (by simp only [Int.toNat_natCast]; omega)) (by first | assumption | exact b2i_R _ | exact rR (by omega) (by omega) | exact rR (by simp only [Int.toNat_natCast]; omega) (by simp only [Int.toNat_natCast]; omega))) (And.intro (fun q => ?_) (fun q => ?_))
        · refine hA 3 _ rfl _ _ _ _ _ ?_
          exact ⟨rfl, hs, hN, f5, q4, k0, k5, k7, k3, k6⟩
        · omega
      | succ m ih =>
        intro i τ k n hi hk hn hs hN hq
        obtain ⟨f5, q4, k0, k5, k7, k3, k6⟩ := hq
        refine hA 1 _ rfl _ _ _ _ _ ?_
        refine Exists.intro _ (And.intro (by first | assumption | exact st_s | exact st_e (by decide) (by assumption) | exact st_e (by omega) (by assumption) | exact st_e (by decide) st_s | exact st_e (by omega) st_s | exact st_e (by decide) (st_e (by decide) (by assumption)) | exact st_e (by omega) (st_e (by omega) (by assumption))) ?_)
        refine Exists.intro _ (Exists.intro _ (And.intro (by first | assumption | exact st_s | exact st_e (by decide) (by assumption) | exact st_e (by omega) (by assumption) | exact st_e (by decide) st_s | exact st_e (by omega) st_s | exact st_e (by decide) (st_e (by decide) (by assumption)) | exact st_e (by omega) (st_e (by omega) (by assumption))) ?_))
        refine And.intro (And.intro (by first | assumption | exact b2i_R _ | exact rR (by omega) (by omega) | exact rR (by simp only [Int.toNat_natCast]; omega) (by simp only [Int.toNat_natCast]; omega)) (by first | assumption | exact b2i_R _ | exact rR (by omega) (by omega) | exact rR (by simp only [Int.toNat_natCast]; omega) (by simp only [Int.toNat_natCast]; omega))) (And.intro (fun q => ?_) (fun q => ?_))
        · omega
        · refine hA 2 _ rfl _ _ _ _ _ ?_
          refine Exists.intro _ (And.intro (k0) ?_)
          refine And.intro ⟨by omega, by show n + 1 ≤ _; omega⟩ ?_
          have hcall := c_bmInit (σ := ab_nw τ (.inl (2, [.inr (.inl none)]))) (h := τ.1) nw_s rfl
          refine And.intro rfl (ab_inv_of hcall (by decide) (by omega) (by show n + 1 + 100 ≤ _; omega) ?_)
          intro r υ hpost
          obtain ⟨rfl, p1, p2, p3⟩ := hpost
          rw [hs] at p1 p2 p3
          have p4 : ∀ a, a < 38 + 2 * i → υ.2 a = τ.2 a := fun a ha => (p3 a ha).trans (ab_up_n (by omega))
          have r5 := (p4 34 (by omega)).trans k5
          refine Exists.intro _ (Exists.intro _ (Exists.intro _ (And.intro r5 (And.intro (by rw [hs]; exact p2.1) (And.intro (by omega) ?_)))))
          rw [hs]
          refine ih (i + 1) _ _ _ (by omega) (by omega) (by show n + 1 + 100 ≤ _; omega) (by show υ.1 = _; omega) (fun a ha => ?_) ⟨ab_up f5 i (some (38 + 2 * i)), fun j hj => ?_, ?_, st_s, ?_, ?_, fun j hj => ?_⟩
          · rw [st_n (by omega), p4 a (by omega)]
            exact hN a ha
          · by_cases e : j = i
            · rw [e, ab_up_s]
            · rw [ab_up_n e]; exact q4 j (by omega)
          · rw [st_n (by omega), p4 33 (by omega)]; exact k0
          · rw [st_n (by omega), p4 37 (by omega)]; exact k7
          · exact IsB.ne ⟨(p4 _ (by omega)).trans k3.1, (p4 _ (by omega)).trans k3.2.1, k3.2.2⟩ (by omega) (by omega)
          · by_cases e : j = i
            · subst e; exact p2.ne (by omega) (by omega)
            · have := k6 j (by omega)
              exact IsB.ne ⟨(p4 _ (by omega)).trans this.1, (p4 _ (by omega)).trans this.2.1, this.2.2⟩ (by omega) (by omega)
    let z6 : ab_C := .inr (.inr (0, 6, fun _ => none))
    let τ1 := ab_st (ab_nw (34, g) z6) 33 (.inl (0, [nu0, rf 34, nu0, nu0]))
    let τ2 := ab_nw τ1 (.inl (2, [nu0]))
    have m33 : τ2.2 33 = some (.inl (0, [nu0, rf 34, nu0, nu0])) := nw_e (show (33 : Nat) ≠ 35 by decide) st_s
    have m34 : τ2.2 34 = some z6 := nw_e (show (34 : Nat) ≠ 35 by decide) (st_e (by decide) (nw_s (σ := (34, g))))
    have mf : ∀ a, a < 33 → τ2.2 a = g a := fun a ha => (ab_up_n (show a ≠ 35 by omega)).trans ((st_n (by omega)).trans (ab_up_n (show a ≠ 34 by omega)))
    have hcall := c_bmInit (σ := τ2) (h := 35) (nw_s (σ := τ1)) rfl
    have n0 := nw_e (σ := (34, g)) (x := z6) (show (33 : Nat) ≠ 34 by decide) h0
    have hN2 : ab_N 2 = 1 := rfl
    refine hA 0 _ rfl _ _ _ _ _ ?_
    refine And.intro rfl (And.intro (by decide) ?_)
    refine And.intro (by omega) ?_
    refine Exists.intro _ (And.intro (by first | assumption | exact st_s | exact st_e (by decide) (by assumption) | exact st_e (by omega) (by assumption) | exact st_e (by decide) st_s | exact st_e (by omega) st_s | exact st_e (by decide) (st_e (by decide) (by assumption)) | exact st_e (by omega) (st_e (by omega) (by assumption))) ?_)
    refine And.intro ⟨by omega, by first | decide | omega⟩ ?_
    refine And.intro rfl (ab_inv_of hcall (by first | decide | omega) (by omega) (by omega) ?_)
    intro r υ hpost
    obtain ⟨rfl, p1, p2, p3⟩ := hpost
    obtain ⟨s, v⟩ := υ
    have p1 : s = 37 := p1
    subst p1
    have v33 := (p3 33 (by decide)).trans m33
    have v34 := (p3 34 (by decide)).trans m34
    let z3 : ab_C := .inr (.inl (0, 3, fun _ => 0))
    let υ1 : ab_H := ab_st (37, v) 33 (.inl (0, [nu0, rf 34, rf 35, nu0]))
    have u33 : (ab_nw υ1 z3).2 33 = some (.inl (0, [nu0, rf 34, rf 35, nu0])) := nw_e (show (33 : Nat) ≠ 37 by decide) st_s
    refine Exists.intro _ (And.intro (by first | assumption | exact st_s | exact st_e (by decide) (by assumption) | exact st_e (by omega) (by assumption) | exact st_e (by decide) st_s | exact st_e (by omega) st_s | exact st_e (by decide) (st_e (by decide) (by assumption)) | exact st_e (by omega) (st_e (by omega) (by assumption))) ?_)
    refine And.intro (by omega) ?_
    refine Exists.intro _ (And.intro (by first | assumption | exact st_s | exact st_e (by decide) (by assumption) | exact st_e (by omega) (by assumption) | exact st_e (by decide) st_s | exact st_e (by omega) st_s | exact st_e (by decide) (st_e (by decide) (by assumption)) | exact st_e (by omega) (st_e (by omega) (by assumption))) ?_)
    refine Exists.intro _ (And.intro (by first | assumption | exact st_s | exact st_e (by decide) (by assumption) | exact st_e (by omega) (by assumption) | exact st_e (by decide) st_s | exact st_e (by omega) st_s | exact st_e (by decide) (st_e (by decide) (by assumption)) | exact st_e (by omega) (st_e (by omega) (by assumption))) ?_)
    refine loop 6 0 _ _ _ rfl (by decide) (by decide) rfl (fun a ha => ?_) ⟨fun _ => none, fun j hj => by omega, st_s, ?_, ?_, ?_, fun j hj => by omega⟩
    · exact (st_n (by omega)).trans ((st_n (by omega)).trans ((ab_up_n (show a ≠ 37 by omega)).trans ((st_n (by omega)).trans ((p3 a (by omega)).trans (mf a (by omega))))))
    · exact st_e (by decide) (st_e (by decide) (nw_e (show (34 : Nat) ≠ 37 by decide) (st_e (by decide) v34)))
    · exact st_e (by decide) (st_e (by decide) nw_s)
    · have h2 : ∀ a, 35 ≤ a → a < 37 → (ab_nw υ1 z3).2 a = v a := fun a h1 h2 => (ab_up_n (show a ≠ 37 by omega)).trans (st_n (by omega))
      exact ((IsB.ne (σ := ab_nw υ1 z3) ⟨(h2 35 (by decide) (by decide)).trans p2.1, (h2 36 (by decide) (by decide)).trans p2.2.1, p2.2.2⟩ (by decide) (by decide)).ne (by decide) (by decide))
  · rintro r σ' ⟨rfl, q1, q2, f5, q4, k0, k5, k7, k3, k6⟩
    refine ⟨ab_st σ' 34 (.inr (.inr (0, 6, fun i => some (38 + 2 * i)))), hq_set k5 (hq_refs q4), rfl, q1, ⟨st_e (by decide) k0, st_s, ⟨_, st_e (by decide) k7⟩, ⟨fun _ => fun _ => 0, fun i hi => (k6 i hi).ne (by omega) (by omega)⟩, ⟨_, k3.ne (by decide) (by decide)⟩⟩, fun a ha => (st_n (by omega)).trans (q2 a ha)⟩
/-- the table's cells, but for the results -/
def tb0 (σ' : ab_H) (f5 : Nat → Option Nat) : Prop := σ'.2 3 = some (tbc 0 0) ∧ σ'.2 4 = some (.inr (.inr (1, 4, fun _ => none))) ∧ σ'.2 5 = some (.inr (.inr (0, 7, f5))) ∧ σ'.2 8 = some (.inr (.inl (0, 200, fun _ => 0))) ∧ σ'.2 9 = some (.inr (.inl (0, 1500, fun _ => 0))) ∧ σ'.2 10 = some (.inr (.inl (0, 200, fun _ => 0))) ∧ σ'.2 11 = some (.inr (.inl (0, 200, fun _ => 0))) ∧ IsB σ' 6 (fun _ => 0)
theorem tb0.ne {σ : ab_H} {f5 : Nat → Option Nat} (h : tb0 σ f5) {υ : ab_H} (hf : ∀ a, a < 12 → a ≠ 5 → υ.2 a = σ.2 a) {g5 : Nat → Option Nat} (h5 : υ.2 5 = some (.inr (.inr (0, 7, g5)))) : tb0 υ g5 := by
  obtain ⟨k3, k4, k5, k8, k9, k10, k11, k6⟩ := h
  exact ⟨(hf 3 (by decide) (by decide)).trans k3, (hf 4 (by decide) (by decide)).trans k4, h5, (hf 8 (by decide) (by decide)).trans k8, (hf 9 (by decide) (by decide)).trans k9, (hf 10 (by decide) (by decide)).trans k10, (hf 11 (by decide) (by decide)).trans k11, (hf 6 (by decide) (by decide)).trans k6.1, (hf 7 (by decide) (by decide)).trans k6.2.1, k6.2.2⟩
set_option maxRecDepth 100000 in
set_option maxHeartbeats 1000000 in
theorem i_tab (h0 : σ.2 3 = some (.inl (6, [nu0, nu0, nu0, nu0, nu0, nu0, nu0, .inl 0, .inl 0]))) (hs : σ.1 = 4) : ab_call 3 22 2919 yX6_init [rf 3] σ (fun r σ' => r = .inl none ∧ σ'.1 = 26 ∧ TBL σ' 0 0 K va ad (fun _ _ => 0) ∧ SCR σ' ∧ ∀ a, a < 3 → σ'.2 a = σ.2 a) := by
  refine hq_call (post := fun r σ' => r = .inl none ∧ σ'.1 = 26 ∧ (∀ a, a < 3 → σ'.2 a = σ.2 a) ∧ ∃ f5 : Nat → Option Nat, (∀ i, i < 7 → f5 i = some (12 + 2 * i)) ∧ tb0 σ' f5 ∧ ∀ i, i < 7 → IsB σ' (12 + 2 * i) (fun _ => 0)) ?_ ?_
  · obtain ⟨s, g⟩ := σ
    have hs : s = 4 := hs
    subst hs
    refine eX6_init rfl (fun At hA => ?_)
    have loop : ∀ (m i : Nat) (τ : ab_H) (k n : Nat), i + m = 7 → k ≤ 8 + 2 * i → n ≤ 2212 + 101 * i → τ.1 = 12 + 2 * i → (∀ a, a < 3 → τ.2 a = g a) → (∃ f5 : Nat → Option Nat, (∀ j, j < i → f5 j = some (12 + 2 * j)) ∧ tb0 τ f5 ∧ ∀ j, j < i → IsB τ (12 + 2 * j) (fun _ => 0)) →
        At 1 [some (rf 3), some (.inl i)] [] τ k n := by
      intro m
      induction m with
      | zero =>
        intro i τ k n hi hk hn hs hN hq
        have hi : i = 7 := by omega
        subst hi
        obtain ⟨f5, q4, hT, k6⟩ := hq
        obtain ⟨k0, -, k5, -⟩ := id hT
        refine hA 1 _ rfl _ _ _ _ _ ?_
        refine Exists.intro _ (And.intro (by first | assumption | exact st_s | exact st_e (by decide) (by assumption) | exact st_e (by omega) (by assumption) | exact st_e (by decide) st_s | exact st_e (by omega) st_s | exact st_e (by decide) (st_e (by decide) (by assumption)) | exact st_e (by omega) (st_e (by omega) (by assumption))) ?_)
        refine Exists.intro _ (Exists.intro _ (And.intro (by first | assumption | exact st_s | exact st_e (by decide) (by assumption) | exact st_e (by omega) (by assumption) | exact st_e (by decide) st_s | exact st_e (by omega) st_s | exact st_e (by decide) (st_e (by decide) (by assumption)) | exact st_e (by omega) (st_e (by omega) (by assumption))) ?_))
        refine And.intro (And.intro (by first | assumption | exact b2i_R _ | exact rR (by omega) (by omega) | exact rR (by simp only [Int.toNat_natCast]; omega) (by simp only [Int.toNat_natCast]; omega)) (by first | assumption | exact b2i_R _ | exact rR (by omega) (by omega) | exact rR (by simp only [Int.toNat_natCast]; omega) (by simp only [Int.toNat_natCast]; omega))) (And.intro (fun q => ?_) (fun q => ?_))
        · refine hA 3 _ rfl _ _ _ _ _ ?_
          exact ⟨rfl, hs, hN, f5, q4, hT, k6⟩
        · omega
      | succ m ih =>
        intro i τ k n hi hk hn hs hN hq
        obtain ⟨f5, q4, hT, k6⟩ := hq
        obtain ⟨k0, -, k5, -⟩ := id hT
        refine hA 1 _ rfl _ _ _ _ _ ?_
        refine Exists.intro _ (And.intro (by first | assumption | exact st_s | exact st_e (by decide) (by assumption) | exact st_e (by omega) (by assumption) | exact st_e (by decide) st_s | exact st_e (by omega) st_s | exact st_e (by decide) (st_e (by decide) (by assumption)) | exact st_e (by omega) (st_e (by omega) (by assumption))) ?_)
        refine Exists.intro _ (Exists.intro _ (And.intro (by first | assumption | exact st_s | exact st_e (by decide) (by assumption) | exact st_e (by omega) (by assumption) | exact st_e (by decide) st_s | exact st_e (by omega) st_s | exact st_e (by decide) (st_e (by decide) (by assumption)) | exact st_e (by omega) (st_e (by omega) (by assumption))) ?_))
        refine And.intro (And.intro (by first | assumption | exact b2i_R _ | exact rR (by omega) (by omega) | exact rR (by simp only [Int.toNat_natCast]; omega) (by simp only [Int.toNat_natCast]; omega)) (by first | assumption | exact b2i_R _ | exact rR (by omega) (by omega) | exact rR (by simp only [Int.toNat_natCast]; omega) (by simp only [Int.toNat_natCast]; omega))) (And.intro (fun q => ?_) (fun q => ?_))
        · omega
        · refine hA 2 _ rfl _ _ _ _ _ ?_
          refine Exists.intro _ (And.intro (k0) ?_)
          refine And.intro ⟨by omega, by show n + 1 ≤ _; omega⟩ ?_
          have hcall := c_bmInit (σ := ab_nw τ (.inl (2, [.inr (.inl none)]))) (h := τ.1) nw_s rfl
          refine And.intro rfl (ab_inv_of hcall (by decide) (by omega) (by show n + 1 + 100 ≤ _; omega) ?_)
          intro r υ hpost
          obtain ⟨rfl, p1, p2, p3⟩ := hpost
          rw [hs] at p1 p2 p3
          have p4 : ∀ a, a < 12 + 2 * i → υ.2 a = τ.2 a := fun a ha => (p3 a ha).trans (ab_up_n (by omega))
          have r5 := (p4 5 (by omega)).trans k5
          refine Exists.intro _ (Exists.intro _ (Exists.intro _ (And.intro r5 (And.intro (by rw [hs]; exact p2.1) (And.intro (by omega) ?_)))))
          rw [hs]
          refine ih (i + 1) _ _ _ (by omega) (by omega) (by show n + 1 + 100 ≤ _; omega) (by show υ.1 = _; omega) (fun a ha => ?_) ⟨ab_up f5 i (some (12 + 2 * i)), fun j hj => ?_, hT.ne (fun a h1 h2 => (st_n h2).trans (p4 a (by omega))) st_s, fun j hj => ?_⟩
          · rw [st_n (by omega), p4 a (by omega)]
            exact hN a ha
          · by_cases e : j = i
            · rw [e, ab_up_s]
            · rw [ab_up_n e]; exact q4 j (by omega)
          · by_cases e : j = i
            · subst e; exact p2.ne (by omega) (by omega)
            · have := k6 j (by omega)
              exact IsB.ne ⟨(p4 _ (by omega)).trans this.1, (p4 _ (by omega)).trans this.2.1, this.2.2⟩ (by omega) (by omega)
    let z4 : ab_C := .inr (.inr (1, 4, fun _ => none))
    let z5 : ab_C := .inr (.inr (0, 7, fun _ => none))
    let z8 : ab_C := .inr (.inl (0, 200, fun _ => 0))
    let z9 : ab_C := .inr (.inl (0, 1500, fun _ => 0))
    have n0 := nw_e (σ := (4, g)) (x := z4) (show (3 : Nat) ≠ 4 by decide) h0
    let τ1 := ab_st (ab_nw (4, g) z4) 3 (.inl (6, [rf 4, nu0, nu0, nu0, nu0, nu0, nu0, .inl 0, .inl 0]))
    have n1 := nw_e (σ := τ1) (x := z5) (show (3 : Nat) ≠ 5 by decide) st_s
    let τ2 := ab_st (ab_nw τ1 z5) 3 (.inl (6, [rf 4, rf 5, nu0, nu0, nu0, nu0, nu0, .inl 0, .inl 0]))
    let τ3 := ab_nw τ2 (.inl (2, [nu0]))
    have m3 : τ3.2 3 = some (.inl (6, [rf 4, rf 5, nu0, nu0, nu0, nu0, nu0, .inl 0, .inl 0])) := nw_e (show (3 : Nat) ≠ 6 by decide) st_s
    have m5 : τ3.2 5 = some z5 := nw_e (show (5 : Nat) ≠ 6 by decide) (st_e (by decide) (nw_s (σ := τ1)))
    have m4 : τ3.2 4 = some z4 := nw_e (show (4 : Nat) ≠ 6 by decide) (st_e (by decide) (nw_e (show (4 : Nat) ≠ 5 by decide) (st_e (by decide) (nw_s (σ := (4, g))))))
    have mf : ∀ a, a < 3 → τ3.2 a = g a := fun a ha => (ab_up_n (show a ≠ 6 by omega)).trans ((st_n (by omega)).trans ((ab_up_n (show a ≠ 5 by omega)).trans ((st_n (by omega)).trans (ab_up_n (show a ≠ 4 by omega)))))
    have hcall := c_bmInit (σ := τ3) (h := 6) (nw_s (σ := τ2)) rfl
    have hN2 : ab_N 2 = 1 := rfl
    refine hA 0 _ rfl _ _ _ _ _ ?_
    refine And.intro rfl (And.intro (by decide) ?_)
    refine And.intro (by omega) ?_
    refine Exists.intro _ (And.intro (by first | assumption | exact st_s | exact st_e (by decide) (by assumption) | exact st_e (by omega) (by assumption) | exact st_e (by decide) st_s | exact st_e (by omega) st_s | exact st_e (by decide) (st_e (by decide) (by assumption)) | exact st_e (by omega) (st_e (by omega) (by assumption))) ?_)
    refine And.intro (by omega) ?_
    refine Exists.intro _ (And.intro (by first | assumption | exact st_s | exact st_e (by decide) (by assumption) | exact st_e (by omega) (by assumption) | exact st_e (by decide) st_s | exact st_e (by omega) st_s | exact st_e (by decide) (st_e (by decide) (by assumption)) | exact st_e (by omega) (st_e (by omega) (by assumption))) ?_)
    refine And.intro ⟨by omega, by first | decide | omega⟩ ?_
    refine And.intro rfl (ab_inv_of hcall (by first | decide | omega) (by omega) (by omega) ?_)
    intro r υ hpost
    obtain ⟨rfl, p1, p2, p3⟩ := hpost
    obtain ⟨s, v⟩ := υ
    have p1 : s = 8 := p1
    subst p1
    have v3 := (p3 3 (by decide)).trans m3
    have v4 := (p3 4 (by decide)).trans m4
    have v5 := (p3 5 (by decide)).trans m5
    let υ1 : ab_H := ab_st (8, v) 3 (.inl (6, [rf 4, rf 5, rf 6, nu0, nu0, nu0, nu0, .inl 0, .inl 0]))
    have u1 := nw_e (σ := υ1) (x := z8) (show (3 : Nat) ≠ 8 by decide) st_s
    let υ2 : ab_H := ab_st (ab_nw υ1 z8) 3 (.inl (6, [rf 4, rf 5, rf 6, rf 8, nu0, nu0, nu0, .inl 0, .inl 0]))
    have u2 := nw_e (σ := υ2) (x := z9) (show (3 : Nat) ≠ 9 by decide) st_s
    let υ3 : ab_H := ab_st (ab_nw υ2 z9) 3 (.inl (6, [rf 4, rf 5, rf 6, rf 8, rf 9, nu0, nu0, .inl 0, .inl 0]))
    have u3 := nw_e (σ := υ3) (x := z8) (show (3 : Nat) ≠ 10 by decide) st_s
    let υ4 : ab_H := ab_st (ab_nw υ3 z8) 3 (.inl (6, [rf 4, rf 5, rf 6, rf 8, rf 9, rf 10, nu0, .inl 0, .inl 0]))
    have u4 := nw_e (σ := υ4) (x := z8) (show (3 : Nat) ≠ 11 by decide) st_s
    let υ5 : ab_H := ab_st (ab_nw υ4 z8) 3 (tbc 0 0)
    have w : ∀ a, a ≠ 3 → a < 8 → υ5.2 a = v a := fun a h1 h2 => (st_n h1).trans ((ab_up_n (show a ≠ 11 by omega)).trans ((st_n h1).trans ((ab_up_n (show a ≠ 10 by omega)).trans ((st_n h1).trans ((ab_up_n (show a ≠ 9 by omega)).trans ((st_n h1).trans ((ab_up_n (show a ≠ 8 by omega)).trans (st_n h1))))))))
    have w11 : υ5.2 11 = some z8 := st_e (by decide) (nw_s (σ := υ4))
    have w10 : υ5.2 10 = some z8 := st_e (by decide) (nw_e (show (10 : Nat) ≠ 11 by decide) (st_e (by decide) (nw_s (σ := υ3))))
    have w9 : υ5.2 9 = some z9 := st_e (by decide) (nw_e (show (9 : Nat) ≠ 11 by decide) (st_e (by decide) (nw_e (show (9 : Nat) ≠ 10 by decide) (st_e (by decide) (nw_s (σ := υ2))))))
    have w8 : υ5.2 8 = some z8 := st_e (by decide) (nw_e (show (8 : Nat) ≠ 11 by decide) (st_e (by decide) (nw_e (show (8 : Nat) ≠ 10 by decide) (st_e (by decide) (nw_e (show (8 : Nat) ≠ 9 by decide) (st_e (by decide) (nw_s (σ := υ1))))))))
    have hT : tb0 υ5 (fun _ => none) := ⟨st_s, (w 4 (by decide) (by decide)).trans v4, (w 5 (by decide) (by decide)).trans v5, w8, w9, w10, w11, (w 6 (by decide) (by decide)).trans p2.1, (w 7 (by decide) (by decide)).trans p2.2.1, p2.2.2⟩
    refine Exists.intro _ (And.intro (by first | assumption | exact st_s | exact st_e (by decide) (by assumption) | exact st_e (by omega) (by assumption) | exact st_e (by decide) st_s | exact st_e (by omega) st_s | exact st_e (by decide) (st_e (by decide) (by assumption)) | exact st_e (by omega) (st_e (by omega) (by assumption))) ?_)
    refine And.intro (by omega) ?_
    refine Exists.intro _ (And.intro (by first | assumption | exact st_s | exact st_e (by decide) (by assumption) | exact st_e (by omega) (by assumption) | exact st_e (by decide) st_s | exact st_e (by omega) st_s | exact st_e (by decide) (st_e (by decide) (by assumption)) | exact st_e (by omega) (st_e (by omega) (by assumption))) ?_)
    refine And.intro (by omega) ?_
    refine Exists.intro _ (And.intro (by first | assumption | exact st_s | exact st_e (by decide) (by assumption) | exact st_e (by omega) (by assumption) | exact st_e (by decide) st_s | exact st_e (by omega) st_s | exact st_e (by decide) (st_e (by decide) (by assumption)) | exact st_e (by omega) (st_e (by omega) (by assumption))) ?_)
    refine And.intro (by omega) ?_
    refine Exists.intro _ (And.intro (by first | assumption | exact st_s | exact st_e (by decide) (by assumption) | exact st_e (by omega) (by assumption) | exact st_e (by decide) st_s | exact st_e (by omega) st_s | exact st_e (by decide) (st_e (by decide) (by assumption)) | exact st_e (by omega) (st_e (by omega) (by assumption))) ?_)
    refine And.intro (by omega) ?_
    refine Exists.intro _ (And.intro (by first | assumption | exact st_s | exact st_e (by decide) (by assumption) | exact st_e (by omega) (by assumption) | exact st_e (by decide) st_s | exact st_e (by omega) st_s | exact st_e (by decide) (st_e (by decide) (by assumption)) | exact st_e (by omega) (st_e (by omega) (by assumption))) ?_)
    exact loop 7 0 υ5 _ _ rfl (by decide) (by decide) rfl (fun a ha => (w a (by omega) (by omega)).trans ((p3 a (by omega)).trans (mf a ha))) ⟨fun _ => none, fun j hj => by omega, hT, fun j hj => by omega⟩
  · rintro r σ' ⟨rfl, q1, q2, f5, q4, ⟨k3, k4, k5, k8, k9, k10, k11, k6⟩, k12⟩
    refine ⟨ab_st σ' 5 rsc, hq_set k5 (hq_refs q4), rfl, q1, ⟨st_e (by decide) k3, Nat.zero_le _, st_s, ⟨Nat.zero_le _, ⟨_, st_e (by decide) k4, fun d hd => absurd hd (Nat.not_lt_zero _)⟩, fun d hd => absurd hd (Nat.not_lt_zero _)⟩, fun i hi => (k12 i hi).ne (by omega) (by omega), fun i _ x _ => Nat.zero_testBit _⟩, ⟨⟨_, k6.ne (by decide) (by decide)⟩, ⟨fun _ => 0, st_e (by decide) k8⟩, ⟨fun _ => 0, st_e (by decide) k9, fun _ => (by decide : (0 : Nat) < 1000)⟩, ⟨fun _ => 0, st_e (by decide) k10, fun _ => (by decide : (0 : Nat) < 32768)⟩, ⟨_, st_e (by decide) k11⟩⟩, fun a ha => (st_n (by omega)).trans (q2 a ha)⟩
end Make
