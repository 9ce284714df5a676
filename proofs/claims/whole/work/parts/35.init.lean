-- ===== making bitmaps and columns; the text of a column =====
theorem nw_n {σ : ab_H} {b n : Nat} {x : ab_C} (h : σ.1 = n) (hb : b ≠ n) : (ab_nw σ x).2 b = σ.2 b := ab_up_n (by rw [h]; exact hb)
theorem hq_tr {σ τ υ : ab_H} (h : hq_h σ τ) (k : hq_h τ υ) : hq_h σ υ := by
  refine ⟨h.1.trans k.1, fun a y hy => ?_⟩
  obtain ⟨x, hx, hxy⟩ := k.2 a y hy
  obtain ⟨z, hz, hzx⟩ := h.2 a x hx
  refine ⟨z, hz, ?_⟩
  rcases hxy with rfl | ⟨q, N, f, g, rfl, rfl, hfg⟩ | ⟨q, N, f, g, rfl, rfl, hfg⟩
  · exact hzx
  · rcases hzx with rfl | ⟨q', N', f', g', rfl, e, hfg'⟩ | ⟨q', N', f', g', rfl, e, hfg'⟩
    · exact Or.inr (Or.inl ⟨q, N, f, g, rfl, rfl, hfg⟩)
    · cases e
      exact Or.inr (Or.inl ⟨q, N, f', g, rfl, rfl, fun j hj => (hfg' j hj).trans (hfg j hj)⟩)
    · cases e
  · rcases hzx with rfl | ⟨q', N', f', g', rfl, e, hfg'⟩ | ⟨q', N', f', g', rfl, e, hfg'⟩
    · exact Or.inr (Or.inr ⟨q, N, f, g, rfl, rfl, hfg⟩)
    · cases e
    · cases e
      exact Or.inr (Or.inr ⟨q, N, f', g, rfl, rfl, fun j hj => (hfg' j hj).trans (hfg j hj)⟩)
theorem hq_set {σ : ab_H} {a : Nat} {x y : ab_C} (h : σ.2 a = some x) (hc : hq_c x y) : hq_h σ (ab_st σ a y) := by
  refine ⟨rfl, fun b z hz => ?_⟩
  by_cases e : b = a
  · subst e
    rw [st_s] at hz
    cases hz
    exact ⟨x, h, hc⟩
  · rw [st_n e] at hz
    exact ⟨z, hz, Or.inl rfl⟩
theorem hq_ints {k N : Nat} {f g : Nat → Int} (h : ∀ j, j < N → f j = g j) : hq_c (.inr (.inl (k, N, f))) (.inr (.inl (k, N, g))) := Or.inr (Or.inl ⟨k, N, f, g, rfl, rfl, h⟩)
theorem hq_refs {k N : Nat} {f g : Nat → Option Nat} (h : ∀ j, j < N → f j = g j) : hq_c (.inr (.inr (k, N, f))) (.inr (.inr (k, N, g))) := Or.inr (Or.inr ⟨k, N, f, g, rfl, rfl, h⟩)
section Init
variable {σ : ab_H}
set_option maxRecDepth 100000 in
set_option maxHeartbeats 1000000 in
theorem c_bmInit {h : Nat} (h0 : σ.2 h = some (.inl (2, [.inr (.inl none)]))) (hs : σ.1 = h + 1) : ab_call 2 1 100 yX2_init [rf h] σ (fun r σ' => r = .inl none ∧ σ'.1 = h + 2 ∧ IsB σ' h (fun _ => 0) ∧ ∀ a, a < h → σ'.2 a = σ.2 a) := by
  have hne : h ≠ σ.1 := by omega
  refine eX2_init rfl (fun At hA => ?_)
  refine hA 0 _ rfl _ _ _ _ _ ?_
  refine And.intro rfl (And.intro (by decide) ?_)
  refine And.intro (by omega) ?_
  refine Exists.intro _ (And.intro (nw_e hne h0) ?_)
  refine ⟨rfl, by show σ.1 + 1 = _; omega, ⟨?_, ?_, fun i => (by decide : (0 : Nat) < 32768)⟩, fun a ha => ?_⟩
  · rw [← hs]
    exact st_s
  · rw [← hs]
    exact st_e (by omega) nw_s
  · rw [st_n (by omega)]
    exact ab_up_n (by omega)
def N0 (σ τ : ab_H) (h : Nat) : Prop := ∀ a, a < h → τ.2 a = σ.2 a
set_option maxRecDepth 100000 in
set_option maxHeartbeats 1000000 in
theorem c_colInit {h : Nat} {ρ : Bool} {card parts : Nat} {b : Nat → Nat} {bb : Nat → Int} (h0 : σ.2 h = some (.inl (3, [.inl 0, .inl 0, .inl 0, .inr (.inl none), .inr (.inl none), .inr (.inl none), .inr (.inl none), .inr (.inl none)]))) (hs : σ.1 = h + 1) (hh : 27 < h) (hb : σ.2 27 = some (.inr (.inl (0, 4, bb)))) (hbb : ∀ p, p < parts → bb p = b p) (ho : okb card parts b) :
    ab_call 3 (6 + 2 * fsp ρ b parts) (1512 + 102 * fsp ρ b parts) yX3_init [rf h, .inl (b2i ρ), .inl card, .inl parts, rf 27] σ (fun r σ' => r = .inl none ∧ σ'.1 = h + 6 + 2 * fsp ρ b parts ∧ N0 σ σ' h ∧ IsC σ' h ρ card parts b (fun _ => 0) (fun _ _ => 0)) := by
  obtain ⟨o1, o2, o3, o4, o5, o6⟩ := id ho
  have hNle := fsp_le (rg := ρ) o3 parts
  refine hq_call (post := fun r σ' => r = .inl none ∧ σ'.1 = h + 6 + 2 * fsp ρ b parts ∧ N0 σ σ' h ∧ ∃ (f1 f2 f3 : Nat → Int) (f5 : Nat → Option Nat), (∀ p, p < parts → f1 p = b p ∧ f2 p = wtp b p ∧ f3 p = fsp ρ b p) ∧ (∀ i, i < fsp ρ b parts → f5 i = some (h + 6 + 2 * i)) ∧
    σ'.2 h = some (.inl (3, [.inl (b2i ρ), .inl card, .inl parts, rf (h + 1), rf (h + 2), rf (h + 3), rf (h + 5), rf (h + 4)])) ∧ σ'.2 (h + 1) = some (.inr (.inl (0, parts, f1))) ∧ σ'.2 (h + 2) = some (.inr (.inl (0, parts, f2))) ∧ σ'.2 (h + 3) = some (.inr (.inl (0, parts, f3))) ∧ σ'.2 (h + 4) = some (ints 1500 (fun _ => 0)) ∧ σ'.2 (h + 5) = some (.inr (.inr (0, fsp ρ b parts, f5))) ∧ ∀ i, i < fsp ρ b parts → IsB σ' (h + 6 + 2 * i) (fun _ => 0)) ?_ ?_
  · obtain ⟨s, f⟩ := σ
    have hs : s = h + 1 := hs
    subst hs
    refine eX3_init rfl (fun At hA => ?_)
    -- the bitmaps
    have loop2 : ∀ (m i : Nat) (τ : ab_H) (k n : Nat) (w : Int), i + m = fsp ρ b parts → k ≤ 5 + 2 * i → n ≤ 1500 + 3 * parts + fsp ρ b parts + 101 * i → τ.1 = h + 6 + 2 * i → N0 (h + 1, f) τ h → (∃ (f1 f2 f3 : Nat → Int) (f5 : Nat → Option Nat), (∀ p, p < parts → f1 p = b p ∧ f2 p = wtp b p ∧ f3 p = fsp ρ b p) ∧ (∀ j, j < i → f5 j = some (h + 6 + 2 * j)) ∧
        τ.2 h = some (.inl (3, [.inl (b2i ρ), .inl card, .inl parts, rf (h + 1), rf (h + 2), rf (h + 3), rf (h + 5), rf (h + 4)])) ∧ τ.2 (h + 1) = some (.inr (.inl (0, parts, f1))) ∧ τ.2 (h + 2) = some (.inr (.inl (0, parts, f2))) ∧ τ.2 (h + 3) = some (.inr (.inl (0, parts, f3))) ∧ τ.2 (h + 4) = some (ints 1500 (fun _ => 0)) ∧ τ.2 (h + 5) = some (.inr (.inr (0, fsp ρ b parts, f5))) ∧ ∀ j, j < i → IsB τ (h + 6 + 2 * j) (fun _ => 0)) →
        At 7 [some (rf h), some (.inl (b2i ρ)), some (.inl card), some (.inl parts), some (rf 27), some (.inl w), some (.inl (fsp ρ b parts)), some (.inl i)] [] τ k n := by
      intro m
      induction m with
      | zero =>
        intro i τ k n w hi hk hn hs hN hq
        have hi : i = fsp ρ b parts := by omega
        subst hi
        refine hA 7 _ rfl _ _ _ _ _ ?_
        refine And.intro (And.intro (by first | assumption | exact b2i_R _ | exact rR (by omega) (by omega) | exact rR (by simp only [Int.toNat_natCast]; omega) (by simp only [Int.toNat_natCast]; omega)) (by first | assumption | exact b2i_R _ | exact rR (by omega) (by omega) | exact rR (by simp only [Int.toNat_natCast]; omega) (by simp only [Int.toNat_natCast]; omega))) (And.intro (fun q => ?_) (fun q => ?_))
        · refine hA 9 _ rfl _ _ _ _ _ ?_
          exact ⟨rfl, hs, hN, hq⟩
        · omega
      | succ m ih =>
        intro i τ k n w hi hk hn hs hN hq
        obtain ⟨f1, f2, f3, f5, q3, q4, k0, k1, k2, k3, k4, k5, k6⟩ := hq
        refine hA 7 _ rfl _ _ _ _ _ ?_
        refine And.intro (And.intro (by first | assumption | exact b2i_R _ | exact rR (by omega) (by omega) | exact rR (by simp only [Int.toNat_natCast]; omega) (by simp only [Int.toNat_natCast]; omega)) (by first | assumption | exact b2i_R _ | exact rR (by omega) (by omega) | exact rR (by simp only [Int.toNat_natCast]; omega) (by simp only [Int.toNat_natCast]; omega))) (And.intro (fun q => ?_) (fun q => ?_))
        · omega
        · refine hA 8 _ rfl _ _ _ _ _ ?_
          refine Exists.intro _ (And.intro (k0) ?_)
          refine And.intro ⟨by omega, by show n + 1 ≤ _; omega⟩ ?_
          have hcall := c_bmInit (σ := ab_nw τ (.inl (2, [.inr (.inl none)]))) (h := τ.1) nw_s rfl
          refine And.intro rfl (ab_inv_of hcall (by decide) (by omega) (by show n + 1 + 100 ≤ _; omega) ?_)
          intro r υ hpost
          obtain ⟨rfl, p1, p2, p3⟩ := hpost
          rw [hs] at p1 p2 p3
          have p4 : ∀ a, a < h + 6 + 2 * i → υ.2 a = τ.2 a := fun a ha => (p3 a ha).trans (ab_up_n (by omega))
          have r5 := (p4 (h + 5) (by omega)).trans k5
          refine Exists.intro _ (Exists.intro _ (Exists.intro _ (And.intro r5 (And.intro (by rw [hs]; exact p2.1) (And.intro (by omega) ?_)))))
          rw [hs]
          refine ih (i + 1) _ _ _ w (by omega) (by omega) (by show n + 1 + 100 ≤ _; omega) (by show υ.1 = _; omega) (fun a ha => ?_) ⟨f1, f2, f3, ab_up f5 i (some (h + 6 + 2 * i)), q3, fun j hj => ?_, ?_, ?_, ?_, ?_, ?_, st_s, fun j hj => ?_⟩
          · rw [st_n (by omega), p4 a (by omega)]
            exact hN a ha
          · by_cases e : j = i
            · rw [e, ab_up_s]
            · rw [ab_up_n e]; exact q4 j (by omega)
          · rw [st_n (by omega), p4 h (by omega)]; exact k0
          · rw [st_n (by omega), p4 (h + 1) (by omega)]; exact k1
          · rw [st_n (by omega), p4 (h + 2) (by omega)]; exact k2
          · rw [st_n (by omega), p4 (h + 3) (by omega)]; exact k3
          · rw [st_n (by omega), p4 (h + 4) (by omega)]; exact k4
          · by_cases e : j = i
            · subst e; exact p2.ne (by omega) (by omega)
            · have := k6 j (by omega)
              exact IsB.ne ⟨(p4 _ (by omega)).trans this.1, (p4 _ (by omega)).trans this.2.1, this.2.2⟩ (by omega) (by omega)
    have loop1 : ∀ (m i : Nat) (τ : ab_H) (k n : Nat), i + m = parts → k ≤ 4 → n ≤ 1500 + 3 * parts → τ.1 = h + 5 → N0 (h + 1, f) τ h → (∃ (f1 f2 f3 : Nat → Int), (∀ p, p < i → f1 p = b p ∧ f2 p = wtp b p ∧ f3 p = fsp ρ b p) ∧
        τ.2 h = some (.inl (3, [.inl (b2i ρ), .inl card, .inl parts, rf (h + 1), rf (h + 2), rf (h + 3), .inr (.inl none), rf (h + 4)])) ∧ τ.2 (h + 1) = some (.inr (.inl (0, parts, f1))) ∧ τ.2 (h + 2) = some (.inr (.inl (0, parts, f2))) ∧ τ.2 (h + 3) = some (.inr (.inl (0, parts, f3))) ∧ τ.2 (h + 4) = some (ints 1500 (fun _ => 0))) →
        At 1 [some (rf h), some (.inl (b2i ρ)), some (.inl card), some (.inl parts), some (rf 27), some (.inl (wtp b i)), some (.inl (fsp ρ b i)), some (.inl i)] [] τ k n := by
      intro m
      induction m with
      | zero =>
        intro i τ k n hi hk hn hs hN hq
        have hi : i = parts := by omega
        subst hi
        obtain ⟨f1, f2, f3, q3, k0, k1, k2, k3, k4⟩ := hq
        refine hA 1 _ rfl _ _ _ _ _ ?_
        refine And.intro (And.intro (by first | assumption | exact b2i_R _ | exact rR (by omega) (by omega) | exact rR (by simp only [Int.toNat_natCast]; omega) (by simp only [Int.toNat_natCast]; omega)) (by first | assumption | exact b2i_R _ | exact rR (by omega) (by omega) | exact rR (by simp only [Int.toNat_natCast]; omega) (by simp only [Int.toNat_natCast]; omega))) (And.intro (fun q => ?_) (fun q => ?_))
        · refine hA 6 _ rfl _ _ _ _ _ ?_
          refine And.intro (by omega) ?_
          refine Exists.intro _ (And.intro ((nw_e (by omega) k0)) ?_)
          refine loop2 (fsp ρ b i) 0 _ _ _ _ (by omega) (by omega) (by simp only [Int.toNat_natCast]; omega) (by show τ.1 + 1 = _; omega) (fun a ha => ?_) ⟨f1, f2, f3, fun _ => none, q3, fun j hj => by omega, ?_, ?_, ?_, ?_, ?_, ?_, fun j hj => by omega⟩
          · rw [st_n (by omega)]
            exact (ab_up_n (by omega)).trans (hN a ha)
          · rw [hs]; exact st_s
          · exact st_e (by omega) (nw_e (by omega) k1)
          · exact st_e (by omega) (nw_e (by omega) k2)
          · exact st_e (by omega) (nw_e (by omega) k3)
          · exact st_e (by omega) (nw_e (by omega) k4)
          · refine st_e (by omega) ?_
            rw [← hs]
            exact nw_s
        · omega
      | succ m ih =>
        intro i τ k n hi hk hn hs hN hq
        obtain ⟨f1, f2, f3, q3, k0, k1, k2, k3, k4⟩ := hq
        have hb1 := o3 i
        have hbi := hbb i (by omega)
        have q27 : τ.2 27 = some (.inr (.inl (0, 4, bb))) := (hN 27 hh).trans hb
        refine hA 1 _ rfl _ _ _ _ _ ?_
        refine And.intro (And.intro (by first | assumption | exact b2i_R _ | exact rR (by omega) (by omega) | exact rR (by simp only [Int.toNat_natCast]; omega) (by simp only [Int.toNat_natCast]; omega)) (by first | assumption | exact b2i_R _ | exact rR (by omega) (by omega) | exact rR (by simp only [Int.toNat_natCast]; omega) (by simp only [Int.toNat_natCast]; omega))) (And.intro (fun q => ?_) (fun q => ?_))
        · omega
        · refine hA 2 _ rfl _ _ _ _ _ ?_
          refine Exists.intro _ (And.intro (k0) ?_)
          refine Exists.intro _ (Exists.intro _ (And.intro (q27) (And.intro (by omega) ?_)))
          refine Exists.intro _ (Exists.intro _ (And.intro (k1) (And.intro (by omega) ?_)))
          refine Exists.intro _ (And.intro (st_e (by omega) k0) ?_)
          refine Exists.intro _ (Exists.intro _ (And.intro (st_e (by omega) k2) (And.intro (by omega) ?_)))
          refine Exists.intro _ (And.intro (st_e (by omega) (st_e (by omega) k0)) ?_)
          refine Exists.intro _ (Exists.intro _ (And.intro (st_e (by omega) (st_e (by omega) k3)) (And.intro (by omega) ?_)))
          refine Exists.intro _ (Exists.intro _ (And.intro (st_e (by omega) (st_e (by omega) (st_e (by omega) q27))) (And.intro (by omega) ?_)))
          have k5 : ∀ z : Int, z = nbm ρ b i → At 5 [some (rf h), some (.inl (b2i ρ)), some (.inl card), some (.inl parts), some (rf 27), some (.inl (wtp b (i + 1))), some (.inl (fsp ρ b i)), some (.inl i)] [.inl z, .inl (fsp ρ b i)] (ab_st (ab_st (ab_st τ (h + 1) (.inr (.inl (0, parts, ab_up f1 i (b i))))) (h + 2) (.inr (.inl (0, parts, ab_up f2 i (wtp b i))))) (h + 3) (.inr (.inl (0, parts, ab_up f3 i (fsp ρ b i))))) k n := fun z hz => by
            subst hz
            refine hA 5 _ rfl _ _ _ _ _ ?_
            refine ih (i + 1) _ k n (by omega) hk hn hs (fun a ha => ?_) ⟨ab_up f1 i (b i), ab_up f2 i (wtp b i), ab_up f3 i (fsp ρ b i), fun p hp => ?_, st_e (by omega) (st_e (by omega) (st_e (by omega) k0)), st_e (by omega) (st_e (by omega) st_s), st_e (by omega) st_s, st_s, st_e (by omega) (st_e (by omega) (st_e (by omega) k4))⟩
            · rw [st_n (by omega), st_n (by omega), st_n (by omega)]
              exact hN a ha
            · by_cases e : p = i
              · subst e
                rw [ab_up_s, ab_up_s, ab_up_s]
                exact ⟨rfl, rfl, rfl⟩
              · rw [ab_up_n e, ab_up_n e, ab_up_n e]
                exact q3 p (by omega)
          have ew : ((wtp b i : Nat) : Int) * bb i = ((wtp b (i + 1) : Nat) : Int) := by
            rw [hbi]
            show _ = ((wtp b i * b i : Nat) : Int)
            rw [Int.natCast_mul]
          rw [← ew, ← hbi] at k5
          have hbR : ab_R (bb i) := by rw [hbi]; exact rR (by omega) (by omega)
          refine And.intro (b2i_R ρ) (And.intro (fun q => ?_) (fun q => ?_))
          · refine hA 4 _ rfl _ _ _ _ _ ?_
            refine Exists.intro _ (Exists.intro _ (And.intro (st_e (by omega) (st_e (by omega) (st_e (by omega) q27))) (And.intro (by omega) ?_)))
            refine k5 _ ?_
            show bb i = _
            rw [hbi, b2i_0 q]
            rfl
          · refine hA 3 _ rfl _ _ _ _ _ ?_
            refine Exists.intro _ (Exists.intro _ (And.intro (st_e (by omega) (st_e (by omega) (st_e (by omega) q27))) (And.intro (by omega) ?_)))
            refine k5 _ ?_
            show bb i - 1 = _
            rw [hbi, b2i_1 q]
            show _ = ((b i - 1 : Nat) : Int)
            omega
    refine hA 0 _ rfl _ _ _ _ _ ?_
    refine And.intro rfl (And.intro (by decide) ?_)
    refine Exists.intro _ (And.intro h0 (And.intro (b2i_01 ρ) ?_))
    refine Exists.intro _ (And.intro (st_s) ?_)
    refine Exists.intro _ (And.intro (st_s) ?_)
    refine And.intro (by omega) ?_
    refine Exists.intro _ (And.intro ((nw_e (by show h ≠ h + 1; omega) st_s)) ?_)
    refine And.intro (by omega) ?_
    refine Exists.intro _ (And.intro ((nw_e (by show h ≠ h + 1 + 1; omega) st_s)) ?_)
    refine And.intro (by omega) ?_
    refine Exists.intro _ (And.intro ((nw_e (by show h ≠ h + 1 + 1 + 1; omega) st_s)) ?_)
    refine And.intro (by omega) ?_
    refine Exists.intro _ (And.intro ((nw_e (by show h ≠ h + 1 + 1 + 1 + 1; omega) st_s)) ?_)
    refine loop1 parts 0 _ _ _ (by omega) (by omega) (by simp only [Int.toNat_natCast]; omega) rfl (fun a ha => ?_) ⟨fun _ => 0, fun _ => 0, fun _ => 0, fun p hp => by omega, ?_, ?_, ?_, ?_, ?_⟩
    · rw [st_n (by omega), nw_n (n := h + 4) rfl (by omega), st_n (by omega), nw_n (n := h + 3) rfl (by omega), st_n (by omega), nw_n (n := h + 2) rfl (by omega), st_n (by omega), nw_n (n := h + 1) rfl (by omega), st_n (by omega), st_n (by omega), st_n (by omega)]
    · exact st_s
    · exact st_e (by omega) (nw_e (by show h + 1 ≠ h + 1 + 1 + 1 + 1; omega) (st_e (by omega) (nw_e (by show h + 1 ≠ h + 1 + 1 + 1; omega) (st_e (by omega) (nw_e (by show h + 1 ≠ h + 1 + 1; omega) (st_e (by omega) nw_s))))))
    · exact st_e (by omega) (nw_e (by show h + 2 ≠ h + 1 + 1 + 1 + 1; omega) (st_e (by omega) (nw_e (by show h + 2 ≠ h + 1 + 1 + 1; omega) (st_e (by omega) nw_s))))
    · exact st_e (by omega) (nw_e (by show h + 3 ≠ h + 1 + 1 + 1 + 1; omega) (st_e (by omega) nw_s))
    · exact st_e (by omega) nw_s
  · rintro r σ' ⟨rfl, q1, q2, f1, f2, f3, f5, q3, q4, k0, k1, k2, k3, k4, k5, k6⟩
    refine ⟨ab_st (ab_st (ab_st (ab_st σ' (h + 1) (ints parts b)) (h + 2) (ints parts (wtp b))) (h + 3) (ints parts (fsp ρ b))) (h + 5) (.inr (.inr (0, fsp ρ b parts, fun i => some (h + 6 + 2 * i)))), ?_, rfl, q1, fun a ha => ?_, ?_⟩
    · refine hq_tr (hq_set k1 (hq_ints (fun j hj => (q3 j hj).1))) (hq_tr (hq_set (st_e (by omega) k2) (hq_ints (fun j hj => (q3 j hj).2.1))) (hq_tr (hq_set (st_e (by omega) (st_e (by omega) k3)) (hq_ints (fun j hj => (q3 j hj).2.2))) (hq_set (st_e (by omega) (st_e (by omega) (st_e (by omega) k5))) (hq_refs q4))))
    · rw [st_n (by omega), st_n (by omega), st_n (by omega), st_n (by omega)]
      exact q2 a ha
    · refine ⟨st_e (by omega) (st_e (by omega) (st_e (by omega) (st_e (by omega) k0))), st_e (by omega) (st_e (by omega) (st_e (by omega) st_s)), st_e (by omega) (st_e (by omega) st_s), st_e (by omega) st_s, st_e (by omega) (st_e (by omega) (st_e (by omega) (st_e (by omega) k4))), st_s, fun i hi => ((((k6 i hi).ne (by omega) (by omega)).ne (by omega) (by omega)).ne (by omega) (by omega)).ne (by omega) (by omega)⟩
end Init
