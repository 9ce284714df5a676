-- ===== the law: its loop and its start =====
theorem ab_and_R (x y : Int) : ab_R (ab_and x y) := by
  have h1 := Int32.toInt_lt (Int32.ofInt x &&& Int32.ofInt y)
  have h2 := Int32.le_toInt (Int32.ofInt x &&& Int32.ofInt y)
  unfold ab_R ab_and
  omega
section Loop
variable {At : Nat → ab_L → List ab_V → ab_H → Nat → Nat → Prop} {N0 : Nat} {sc : Nat → Int}
set_option maxRecDepth 100000 in
set_option maxHeartbeats 1000000 in
theorem lw_loop (hA : ab_ruleL N0 sc bL_law 30 601024 7293033 lwP At) (hsc : ∀ j, ab_R (sc j)) (hN : N0 ≤ 3072) : ∀ (m u : Nat) (σ : ab_H) (S : St) (r : Nat → Nat) (th : Int) (y5 y6 : Option ab_V) (k n : Nat), N0 < 6 * u + 6 * m + 6 → 6 * u ≤ N0 → LI σ S r th → k ≤ 400 + 4 * u + 2100 * S.1 → n ≤ 20000 + 24 * u + 110000 * S.1 → At 1 (LLs ((6 * u : Nat) : Int) y5 y6) [] σ k n := by
  skip
  intro m
  induction m with
  | zero =>
    intro u σ S r th y5 y6 k n h1 h2 hL hk hn
    refine hA 1 _ rfl _ _ _ _ _ ?_
    refine And.intro rfl (fun N hN0 hN => ?_)
    have hN := ab_Xs_n hN
    refine And.intro (And.intro (by first | assumption | exact b2i_R _ | exact rR (by omega) (by omega) | exact rR (by simp only [Int.toNat_natCast]; omega) (by simp only [Int.toNat_natCast]; omega)) (by first | assumption | exact b2i_R _ | exact rR (by omega) (by omega) | exact rR (by simp only [Int.toNat_natCast]; omega) (by simp only [Int.toNat_natCast]; omega))) (And.intro (fun q => ?_) (fun q => ?_))
    · refine hA 240 _ rfl _ _ _ _ _ ?_
      refine And.intro (by first | exact Or.inl rfl | exact Or.inr rfl | exact b2i_01 _) ?_
      exact rfl
    · omega
  | succ m ih =>
    intro u σ S r th y5 y6 k n h1 h2 hL hk hn
    have hcc : S.1 ≤ 4 := by
      obtain ⟨cc, rows, K, va, R, f, m9, pl, c⟩ := S
      exact (cs_wss hL.1).1
    refine hA 1 _ rfl _ _ _ _ _ ?_
    refine And.intro rfl (fun N hN0 hN => ?_)
    have hN := ab_Xs_n hN
    refine And.intro (And.intro (by first | assumption | exact b2i_R _ | exact rR (by omega) (by omega) | exact rR (by simp only [Int.toNat_natCast]; omega) (by simp only [Int.toNat_natCast]; omega)) (by first | assumption | exact b2i_R _ | exact rR (by omega) (by omega) | exact rR (by simp only [Int.toNat_natCast]; omega) (by simp only [Int.toNat_natCast]; omega))) (And.intro (fun q => ?_) (fun q => ?_))
    · refine hA 240 _ rfl _ _ _ _ _ ?_
      refine And.intro (by first | exact Or.inl rfl | exact Or.inr rfl | exact b2i_01 _) ?_
      exact rfl
    · have hi : 6 * u + 6 ≤ N0 := by omega
      have hN1 : N0 < 100000 := by omega
      have hx : LNx At (6 * u) S k n := fun σ' S' r' th' z5 z6 k' n' hL' hk' hn' => by
        have h := ih (u + 1) σ' S' r' th' z5 z6 k' n' (by omega) (by omega) hL' (by omega) (by omega)
        have e : ((6 * u : Nat) : Int) + 6 = ((6 * (u + 1) : Nat) : Int) := by omega
        rw [← e] at h
        refine hA 239 _ rfl _ _ _ _ _ ?_
        exact h
      refine hA 2 _ rfl _ _ _ _ _ ?_
      refine And.intro rfl (And.intro (And.intro (by omega) (fun N hN => by have hN := ab_Xs_n hN; omega)) (fun z hzR hz => ?_))
      refine And.intro (ab_and_R _ _) ?_
      refine And.intro (fun _ => c_feed hA hsc hi hN1 hL (by omega) (by omega) y5 y6 hx) (fun _ => ?_)
      refine And.intro (fun _ => c_column hA hsc hi hN1 hL (by omega) (by omega) y5 y6 hx) (fun _ => ?_)
      refine And.intro (fun _ => c_add hA hsc hi hN1 hL (by omega) (by omega) y5 y6 hx) (fun _ => ?_)
      refine And.intro (fun _ => c_many hA hsc hi hN1 hL (by omega) (by omega) y5 y6 hx) (fun _ => ?_)
      refine And.intro (fun _ => c_delete hA hsc hi hN1 hL (by omega) (by omega) y5 y6 hx) (fun _ => ?_)
      refine And.intro (fun _ => c_close hA hsc hi hN1 hL (by omega) (by omega) y5 y6 hx) (fun _ => ?_)
      refine And.intro (fun _ => c_ask hA hsc hi hN1 hL (by omega) (by omega) y5 y6 hx) (fun _ => ?_)
      refine And.intro (fun _ => c_load hA hsc hi hN1 hL (by omega) (by omega) y5 y6 hx) (fun _ => ?_)
      refine And.intro (fun _ => c_fault hA hsc hi hN1 hL (by omega) (by omega) y5 y6 hx) (fun _ => ?_)
      refine And.intro (fun _ => c_logic hA hsc hi hN1 hL (by omega) (by omega) y5 y6 hx) (fun _ => ?_)
      refine And.intro (fun _ => c_turn hA hsc hi hN1 hL (by omega) (by omega) y5 y6 hx) (fun _ => ?_)
      refine And.intro (fun _ => c_told hA hsc hi hN1 hL (by omega) (by omega) y5 y6 hx) (fun _ => ?_)
      refine And.intro (fun _ => c_columnOf hA hsc hi hN1 hL (by omega) (by omega) y5 y6 hx) (fun _ => ?_)
      refine And.intro (fun _ => c_base hA hsc hi hN1 hL (by omega) (by omega) y5 y6 hx) (fun _ => ?_)
      refine And.intro (fun _ => c_index hA hsc hi hN1 hL (by omega) (by omega) y5 y6 hx) (fun _ => ?_)
      refine And.intro (fun _ => c_indexWord hA hsc hi hN1 hL (by omega) (by omega) y5 y6 hx) (fun _ => ?_)
      refine And.intro (fun _ => c_result hA hsc hi hN1 hL (by omega) (by omega) y5 y6 hx) (fun _ => ?_)
      refine And.intro (fun _ => c_word hA hsc hi hN1 hL (by omega) (by omega) y5 y6 hx) (fun _ => ?_)
      refine And.intro (fun _ => c_has hA hsc hi hN1 hL (by omega) (by omega) y5 y6 hx) (fun _ => ?_)
      refine And.intro (fun _ => c_rank hA hsc hi hN1 hL (by omega) (by omega) y5 y6 hx) (fun _ => ?_)
      refine And.intro (fun _ => c_select hA hsc hi hN1 hL (by omega) (by omega) y5 y6 hx) (fun _ => ?_)
      refine And.intro (fun _ => c_next hA hsc hi hN1 hL (by omega) (by omega) y5 y6 hx) (fun _ => ?_)
      refine And.intro (fun _ => c_would hA hsc hi hN1 hL (by omega) (by omega) y5 y6 hx) (fun _ => ?_)
      refine And.intro (fun _ => c_within hA hsc hi hN1 hL (by omega) (by omega) y5 y6 hx) (fun _ => ?_)
      refine And.intro (fun _ => c_cost hA hsc hi hN1 hL (by omega) (by omega) y5 y6 hx) (fun _ => ?_)
      refine And.intro (fun _ => c_value hA hsc hi hN1 hL (by omega) (by omega) y5 y6 hx) (fun _ => ?_)
      refine And.intro (fun _ => c_sum hA hsc hi hN1 hL (by omega) (by omega) y5 y6 hx) (fun _ => ?_)
      refine And.intro (fun _ => c_kth hA hsc hi hN1 hL (by omega) (by omega) y5 y6 hx) (fun _ => ?_)
      refine And.intro (fun _ => c_mode hA hsc hi hN1 hL (by omega) (by omega) y5 y6 hx) (fun _ => ?_)
      refine And.intro (fun _ => c_unlike hA hsc hi hN1 hL (by omega) (by omega) y5 y6 hx) (fun _ => ?_)
      refine And.intro (fun _ => c_span hA hsc hi hN1 hL (by omega) (by omega) y5 y6 hx) (fun _ => ?_)
      refine And.intro (fun _ => c_foretold hA hsc hi hN1 hL (by omega) (by omega) y5 y6 hx) (fun _ => ?_)
      refine And.intro (fun _ => c_differ hA hsc hi hN1 hL (by omega) (by omega) y5 y6 hx) (fun _ => ?_)
      refine And.intro (fun _ => c_group hA hsc hi hN1 hL (by omega) (by omega) y5 y6 hx) (fun _ => ?_)
      refine And.intro (fun _ => c_widest hA hsc hi hN1 hL (by omega) (by omega) y5 y6 hx) (fun _ => ?_)
      refine And.intro (fun _ => c_heaviest hA hsc hi hN1 hL (by omega) (by omega) y5 y6 hx) (fun _ => ?_)
      refine And.intro (fun _ => c_ordered hA hsc hi hN1 hL (by omega) (by omega) y5 y6 hx) (fun _ => ?_)
      refine And.intro (fun _ => c_readings hA hsc hi hN1 hL (by omega) (by omega) y5 y6 hx) (fun _ => ?_)
      refine And.intro (fun _ => c_thrift hA hsc hi hN1 hL (by omega) (by omega) y5 y6 hx) (fun _ => ?_)
      refine And.intro (fun _ => c_swift hA hsc hi hN1 hL (by omega) (by omega) y5 y6 hx) (fun _ => ?_)
      refine And.intro (fun _ => c_status hA hsc hi hN1 hL (by omega) (by omega) y5 y6 hx) (fun _ => ?_)
      exact hx σ S r th y5 y6 k n hL (by omega) (by omega)
set_option maxRecDepth 100000 in
set_option maxHeartbeats 1000000 in
theorem lw_start (hA : ab_ruleL N0 sc bL_law 30 601024 7293033 lwP At) (hsc : ∀ j, ab_R (sc j)) (hN : N0 ≤ 3072) : At 0 [some lscr, none, none, none, none, none, none] [] ((0, fun _ => none) : ab_H) 0 0 := by
  let K : Nat → CT := fun _ => (false, 0, 0, fun _ => 0)
  let va : Nat → Nat → Nat := fun _ _ => 0
  let ad : Nat → Nat := fun _ => 0
  let σa : ab_H := ab_nw (0, fun _ => none) (.inl (9, [nu0, nu0, nu0, nu0, nu0, nu0, nu0, nu0, nu0, nu0, .inl 0, .inl 0, .inl 0]))
  have c1 := i_class (K := K) (va := va) (ad := ad) (σ := σa) (nw_s (σ := (0, fun _ => none))) rfl
  have e9 : ab_N 9 ≤ 100 := by decide +kernel
  have e10 : ab_N 10 ≤ 100 := by decide +kernel
  skip
  refine hA 0 _ rfl _ _ _ _ _ ?_
  refine And.intro ⟨by omega, by first | decide | omega⟩ ?_
  refine And.intro rfl (ab_inv_of c1 (by first | decide | omega) (by omega) (by omega) ?_)
  intro z σ1 hp
  obtain ⟨rfl, s1, hC⟩ := hp
  obtain ⟨s, g1⟩ := σ1
  have s1 : s = 57 := s1
  subst s1
  have hC : CI (320, g1) 0 0 K va ad (fun _ _ => 0) (fun _ => 0) 0 (-1) (0, 0, 0) (fun _ => 0) := hC
  let σb : ab_H := ab_nw (57, g1) m0c
  have c2 := i_model (K := K) (va := va) (σ := σb) (nw_s (σ := (57, g1))) rfl
  refine And.intro ⟨by omega, by first | decide | omega⟩ ?_
  refine And.intro rfl (ab_inv_of c2 (by first | decide | omega) (by omega) (by omega) ?_)
  intro z2 σ2 hp2
  obtain ⟨rfl, s2, e2, hM⟩ := hp2
  obtain ⟨s, g2⟩ := σ2
  have s2 : s = 319 := s2
  subst s2
  let σc : ab_H := ab_nw (319, g2) (lgc (fun _ => 0))
  have e3 : ∀ a, a ≠ 319 → σc.2 a = g2 a := fun a h => ab_up_n h
  have e1 : ∀ a, a < 57 → σc.2 a = g1 a := fun a h => (e3 a (by omega)).trans ((e2 a h).trans (ab_up_n (show a ≠ 57 by omega)))
  have hL : LI σc (0, 0, K, va, fun _ _ => 0, fun _ => 0, 0, -1, (0, 0, 0)) (fun _ => 0) 0 := ⟨⟨ad, hC.keep (A := fun a => 57 ≤ a ∧ a < 320) ⟨Nat.le_refl 320, fun a h1 h2 => by
      have h1 : a < 320 := h1
      exact e1 a (by omega)⟩ (fun a h => by omega)⟩, ⟨_, hM.keep (fun a h1 h2 => e3 a (by omega))⟩, fun _ => 0, nw_s (σ := (319, g2))⟩
  have hl := fun k n (h1 : k ≤ 400) (h2 : n ≤ 20000) => lw_loop hA hsc hN (N0 / 6 + 1) 0 σc _ _ _ none none k n (by omega) (Nat.zero_le _) hL (by show k ≤ 400 + 4 * 0 + 2100 * 0; omega) (by show n ≤ 20000 + 24 * 0 + 110000 * 0; omega)
  refine And.intro (by omega) ?_
  exact hl _ _ (by decide) (by decide)
end Loop
