-- ===== the model: the reading of questions =====
def RA (a : Nat) : Prop := a = 57 ∨ (80 ≤ a ∧ a < 280)
/-- the acts kept so far -/
def AC (τ : ab_H) (AL : List N4) (b : Bool) : Prop := ∀ i, i < 200 → ∃ g : Nat → Int, τ.2 (80 + i) = some (iar 4 g) ∧ (b = true → ∀ x, AL[i]? = some x → g 0 = (x.1 : Nat) ∧ g 1 = (x.2.1 : Nat) ∧ g 2 = (x.2.2.1 : Nat) ∧ g 3 = (x.2.2.2 : Nat))
def QM (σ0 : ab_H) (f : Nat → Int) (len : Nat) (u : Nat → Int) (τ : ab_H) (s : S2) (o : Nat) (AL : List N4) : Prop := fr RA σ0 τ ∧ AC τ AL (isR s) ∧ ∃ t : Nat → Int, τ.2 57 = some (m10 t) ∧ MT t f len s ∧ (∀ j, j ≠ 4 → j ≠ 6 → j ≠ 7 → j ≠ 8 → j ≠ 18 → t j = u j) ∧ (isR s = true → t 8 = (o : Nat)) ∧ ∃ L : Nat, t 18 = (L : Nat) ∧ L ≤ 200 ∧ (isR s = true → L = AL.length)
section Mques
variable {σ0 τ : ab_H} {f u : Nat → Int} {len : Nat} {s s' : S2} {o : Nat} {AL : List N4} {K : Nat → CT} {cc : Nat}
theorem QM.c57 (h : QM σ0 f len u τ s o AL) : ∃ t, τ.2 57 = some (m10 t) := by
  obtain ⟨-, -, t, h, -⟩ := h
  exact ⟨t, h⟩
theorem QM.le (h : QM σ0 f len u τ s o AL) : ∀ a, s = .inr a → a ≤ len := fun a e => by
  obtain ⟨-, -, t, -, hM, -⟩ := h
  subst e
  exact hM.2.1
theorem AC.lo {b b' : Bool} (h : AC τ AL b) (hb : b' = true → b = true) : AC τ AL b' := fun i hi => by
  obtain ⟨g, h1, h2⟩ := h i hi
  exact ⟨g, h1, fun q => h2 (hb q)⟩
theorem AC.st {b : Bool} (h : AC τ AL b) {t' : Nat → Int} : AC (ab_st τ 57 (m10 t')) AL b := fun i hi => by
  obtain ⟨g, h1, h2⟩ := h i hi
  exact ⟨g, st_e (by omega) h1, h2⟩
/-- a fault, whatever was kept -/
theorem QM.flt {e : Int × Int} {o' : Nat} {AL' : List N4} (h : QM σ0 f len u τ (.inl e) o AL) : QM σ0 f len u τ (.inl e) o' AL' := by
  obtain ⟨h1, h2, t, h3, h4, h5, h6, L, h7, h8, h9⟩ := h
  exact ⟨h1, fun i hi => by obtain ⟨g, k1, k2⟩ := h2 i hi; exact ⟨g, k1, fun q => absurd q Bool.false_ne_true⟩, t, h3, h4, h5, fun q => absurd q Bool.false_ne_true, L, h7, h8, fun q => absurd q Bool.false_ne_true⟩
theorem sgn_R {c : Nat} (h : isR (sgnT f len s c) = true) : isR s = true := by
  cases s with
  | inl e => exact absurd h Bool.false_ne_true
  | inr a => rfl
theorem num_R {lo hi : Int} (h : isR (numT f len s lo hi).2 = true) : isR s = true := by
  cases s with
  | inl e => exact absurd h Bool.false_ne_true
  | inr a => rfl
set_option maxRecDepth 100000 in
set_option maxHeartbeats 1000000 in
theorem q_mfine (h : QM σ0 f len u τ s o AL) : ab_ev 1 yX10_fine [rf 57] τ (some (.inl (b2i (isR s)))) τ := by
  obtain ⟨-, -, t, h3, h4, -⟩ := h
  exact m_fine h3 h4
set_option maxRecDepth 100000 in
set_option maxHeartbeats 1000000 in
theorem q_sign (h59 : σ0.2 59 = some (bya f)) (hf : byR f) (hl : len ≤ 200) (h : QM σ0 f len u τ s o AL) (c : Nat) (hc : c < 256) : ab_call 3 0 0 yX10_sign [rf 57, .inl c] τ (fun z σ' => z = .inl none ∧ QM σ0 f len u σ' (sgnT f len s c) o AL) := by
  obtain ⟨h1, h2, t, h3, h4, h5, h6, L, h7, h8, h9⟩ := h
  refine ab_call_mono (m_sign h3 ((h1.2 59 (by unfold RA; omega)).trans h59) hf (by omega) h4 c hc) (fun r υ hp => ?_)
  obtain ⟨rfl, t', rfl, hM, hU⟩ := hp
  refine ⟨rfl, h1.st (Or.inl rfl), (h2.lo sgn_R).st, t', st_s, hM, fun j a b c d e => (hU j a b c).trans (h5 j a b c d e), fun q => (hU 8 (by omega) (by omega) (by omega)).trans (h6 (sgn_R q)), L, (hU 18 (by omega) (by omega) (by omega)).trans h7, h8, fun q => h9 (sgn_R q)⟩
set_option maxRecDepth 100000 in
set_option maxHeartbeats 1000000 in
theorem q_number (h59 : σ0.2 59 = some (bya f)) (hf : byR f) (hl : len ≤ 200) (h : QM σ0 f len u τ s o AL) (lo hi : Int) (hlo : ab_R lo) (hhi : ab_R hi) (hlo2 : lo ≤ 999) (hhi2 : hi ≤ 999) : ab_call 4 0 0 yX10_number [rf 57, .inl lo, .inl hi] τ (fun z σ' => z = .inl (some (.inl (if isR (numT f len s lo hi).2 = true then (numT f len s lo hi).1 else 0))) ∧ QM σ0 f len u σ' (numT f len s lo hi).2 o AL) := by
  obtain ⟨h1, h2, t, h3, h4, h5, h6, L, h7, h8, h9⟩ := h
  refine ab_call_mono (m_number h3 ((h1.2 59 (by unfold RA; omega)).trans h59) hf (by omega) h4 lo hi hlo hhi hlo2 hhi2) (fun r υ hp => ?_)
  obtain ⟨rfl, t', rfl, hM, hU⟩ := hp
  refine ⟨rfl, h1.st (Or.inl rfl), (h2.lo num_R).st, t', st_s, hM, fun j a b c d e => (hU j a b c).trans (h5 j a b c d e), fun q => (hU 8 (by omega) (by omega) (by omega)).trans (h6 (num_R q)), L, (hU 18 (by omega) (by omega) (by omega)).trans h7, h8, fun q => h9 (num_R q)⟩
set_option maxRecDepth 100000 in
set_option maxHeartbeats 1000000 in
theorem q_mend (h59 : σ0.2 59 = some (bya f)) (hf : byR f) (hl : len ≤ 200) (h : QM σ0 f len u τ s o AL) : ab_call 3 0 0 yX10_end [rf 57] τ (fun z σ' => z = .inl none ∧ QM σ0 f len u σ' (endT f len s) o AL) := by
  have hR : isR (endT f len s) = true → isR s = true := fun h => by
    cases s with
    | inl e => exact absurd h Bool.false_ne_true
    | inr a => rfl
  obtain ⟨h1, h2, t, h3, h4, h5, h6, L, h7, h8, h9⟩ := h
  refine ab_call_mono (m_end h3 ((h1.2 59 (by unfold RA; omega)).trans h59) hf (by omega) h4) (fun r υ hp => ?_)
  obtain ⟨rfl, t', rfl, hM, hU⟩ := hp
  refine ⟨rfl, h1.st (Or.inl rfl), (h2.lo hR).st, t', st_s, hM, fun j a b c d e => (hU j a b c).trans (h5 j a b c d e), fun q => (hU 8 (by omega) (by omega) (by omega)).trans (h6 (hR q)), L, (hU 18 (by omega) (by omega) (by omega)).trans h7, h8, fun q => h9 (hR q)⟩
set_option maxRecDepth 100000 in
set_option maxHeartbeats 1000000 in
theorem q_opens (h59 : σ0.2 59 = some (bya f)) (hf : byR f) (hl : len ≤ 200) (h : QM σ0 f len u τ s o AL) (m : Nat) (hm : o + m = 5) : ab_call 4 0 0 yX10_opens [rf 57] τ (fun z σ' => z = .inl (some (.inl (b2i (isR (opnT f len m s))))) ∧ QM σ0 f len u σ' (opnT f len m s) (o + 1) AL) := by
  have hfi := q_mfine h
  obtain ⟨h1, h2, t, h3, h4, h5, h6, L, h7, h8, h9⟩ := id h
  cases s with
  | inl e =>
    have e1 : opnT f len m (.inl e) = .inl e := by cases m <;> rfl
    rw [e1]
    refine eX10_opens rfl (fun At hA => ?_)
    refine hA 0 _ rfl _ _ _ _ _ ?_
    refine Exists.intro _ (And.intro (by first | assumption | exact st_s | exact st_e (by decide) (by assumption) | exact st_e (by omega) (by assumption) | exact st_e (by decide) st_s | exact st_e (by omega) st_s | exact st_e (by decide) (st_e (by decide) (by assumption)) | exact st_e (by omega) (st_e (by omega) (by assumption))) (And.intro rfl (ab_inv_ev hfi (by first | decide | omega) (by first | exact Nat.le_refl _ | omega) (by first | exact Nat.le_refl _ | omega) ?_)))
    refine And.intro (by first | assumption | exact b2i_R _ | exact rR (by omega) (by omega) | exact rR (by simp only [Int.toNat_natCast]; omega) (by simp only [Int.toNat_natCast]; omega)) (And.intro (fun q => ?_) (fun q => ?_))
    · exact absurd rfl q
    · refine hA 1 _ rfl _ _ _ _ _ ?_
      refine And.intro (by first | exact Or.inl rfl | exact Or.inr rfl | exact b2i_01 _) ?_
      exact ⟨rfl, h.flt⟩
  | inr a =>
    have h6 := h6 rfl
    have h9 := h9 rfl
    have t59 := (h1.2 59 (by unfold RA; omega)).trans h59
    obtain ⟨k3, ka, k6, k7, x, hx, hsx, k4⟩ := id h4
    have hb := m_here h3 t59 hf k3 (by omega) x hx k4
    have hs := skB_sp f len x hx
    have hRb := byt_R hf len (skB f len x)
    have hMr := (h4.ia k4).1
    have e1 : opnT f len m (.inr a) = if byt f len (skB f len x) = 40 then (if o = 5 then .inl (3, (skB f len x : Nat)) else .inr (skB f len x + 1)) else .inl (1, (skB f len x : Nat)) := by
      cases m with
      | zero =>
        show (if byt f len (skB f len a) = 40 then (.inl (3, (skB f len a : Nat)) : S2) else .inl (1, (skB f len a : Nat))) = _
        rw [hsx, if_pos (show o = 5 by omega)]
      | succ m =>
        show signP f len a 40 = _
        unfold signP
        rw [hsx, if_neg (show ¬ o = 5 by omega)]
        by_cases hq : byt f len (skB f len a) = 40
        · have hq' : byt f len (skB f len a) = ((40 : Nat) : Int) := hq
          rw [if_pos hq, if_pos (beq_iff_eq.mpr hq')]
        · have hq' : ¬ byt f len (skB f len a) = ((40 : Nat) : Int) := hq
          rw [if_neg hq, if_neg (fun h => hq' (beq_iff_eq.mp h))]
    rw [e1]
    generalize skB f len x = b at hb hs hRb hMr
    have e4 : ab_up t 4 ((b : Nat) : Int) 4 = (b : Nat) := ab_up_s
    have e8 : ab_up t 4 ((b : Nat) : Int) 8 = (o : Nat) := by rw [ab_up_n (by omega)]; exact h6
    have e18 : ab_up t 4 ((b : Nat) : Int) 18 = (L : Nat) := by rw [ab_up_n (by omega)]; exact h7
    have eu : ∀ j, j ≠ 4 → j ≠ 6 → j ≠ 7 → j ≠ 8 → j ≠ 18 → ab_up t 4 ((b : Nat) : Int) j = u j := fun j a b c d e => by rw [ab_up_n a]; exact h5 j a b c d e
    generalize ab_up t 4 ((b : Nat) : Int) = v at hb hMr e4 e8 e18 eu
    have v57 : (ab_st τ 57 (m10 v)).2 57 = some (m10 v) := st_s
    have hv6 := hMr.fault
    have hflt : ∀ (k : Int), k ≠ 0 → ab_R k → QM σ0 f len u (ab_st τ 57 (m10 (wrT v k (v 4)))) (.inl (k, (b : Nat))) (o + 1) AL := fun k hk hkR => by
      have hMw := MT.wr hMr k (b : Nat) hk hkR
      rw [← e4] at hMw ⊢
      have hUw : MU v (wrT v k (v 4)) := (MU.rf v).wr _ _
      exact ⟨h1.st (Or.inl rfl), fun i hi => by obtain ⟨g, k1, k2⟩ := h2 i hi; exact ⟨g, st_e (by omega) k1, fun q => absurd q Bool.false_ne_true⟩, _, st_s, hMw, fun j a b c d e => (hUw j a b c).trans (eu j a b c d e), fun q => absurd q Bool.false_ne_true, L, (hUw 18 (by omega) (by omega) (by omega)).trans e18, h8, fun q => absurd q Bool.false_ne_true⟩
    refine eX10_opens rfl (fun At hA => ?_)
    have k6f : ∀ (k : Int), k ≠ 0 → ab_R k → (if byt f len b = 40 then (if o = 5 then (.inl (3, (b : Nat)) : S2) else .inr (b + 1)) else .inl (1, (b : Nat))) = .inl (k, (b : Nat)) → At 6 [some (rf 57)] [] (ab_st τ 57 (m10 (wrT v k (v 4)))) 0 0 := fun k hk hkR he => by
      have hQ := hflt k hk hkR
      have w57 : (ab_st τ 57 (m10 (wrT v k (v 4)))).2 57 = some (m10 (wrT v k (v 4))) := st_s
      refine hA 6 _ rfl _ _ _ _ _ ?_
      refine Exists.intro _ (And.intro (by first | assumption | exact st_s | exact st_e (by decide) (by assumption) | exact st_e (by omega) (by assumption) | exact st_e (by decide) st_s | exact st_e (by omega) st_s | exact st_e (by decide) (st_e (by decide) (by assumption)) | exact st_e (by omega) (st_e (by omega) (by assumption))) (And.intro rfl (ab_inv_ev (q_mfine hQ) (by first | decide | omega) (by first | exact Nat.le_refl _ | omega) (by first | exact Nat.le_refl _ | omega) ?_)))
      refine And.intro (by first | assumption | exact b2i_R _ | exact rR (by omega) (by omega) | exact rR (by simp only [Int.toNat_natCast]; omega) (by simp only [Int.toNat_natCast]; omega)) (And.intro (fun q => ?_) (fun q => ?_))
      · exact absurd rfl q
      · refine hA 7 _ rfl _ _ _ _ _ ?_
        refine And.intro (by first | exact Or.inl rfl | exact Or.inr rfl | exact b2i_01 _) ?_
        rw [he]
        exact ⟨rfl, hQ⟩
    refine hA 0 _ rfl _ _ _ _ _ ?_
    refine Exists.intro _ (And.intro (by first | assumption | exact st_s | exact st_e (by decide) (by assumption) | exact st_e (by omega) (by assumption) | exact st_e (by decide) st_s | exact st_e (by omega) st_s | exact st_e (by decide) (st_e (by decide) (by assumption)) | exact st_e (by omega) (st_e (by omega) (by assumption))) (And.intro rfl (ab_inv_ev hfi (by first | decide | omega) (by first | exact Nat.le_refl _ | omega) (by first | exact Nat.le_refl _ | omega) ?_)))
    refine And.intro (by first | assumption | exact b2i_R _ | exact rR (by omega) (by omega) | exact rR (by simp only [Int.toNat_natCast]; omega) (by simp only [Int.toNat_natCast]; omega)) (And.intro (fun q => ?_) (fun q => ?_))
    · refine hA 2 _ rfl _ _ _ _ _ ?_
      refine Exists.intro _ (And.intro (by first | assumption | exact st_s | exact st_e (by decide) (by assumption) | exact st_e (by omega) (by assumption) | exact st_e (by decide) st_s | exact st_e (by omega) st_s | exact st_e (by decide) (st_e (by decide) (by assumption)) | exact st_e (by omega) (st_e (by omega) (by assumption))) (And.intro rfl (ab_inv_ev hb (by first | decide | omega) (by first | exact Nat.le_refl _ | omega) (by first | exact Nat.le_refl _ | omega) ?_)))
      refine And.intro (And.intro (by first | assumption | exact b2i_R _ | exact rR (by omega) (by omega) | exact rR (by simp only [Int.toNat_natCast]; omega) (by simp only [Int.toNat_natCast]; omega)) (by first | assumption | exact b2i_R _ | exact rR (by omega) (by omega) | exact rR (by simp only [Int.toNat_natCast]; omega) (by simp only [Int.toNat_natCast]; omega))) (And.intro (fun q => ?_) (fun q => ?_))
      · have hq : byt f len b = 40 := by assumption
        refine hA 4 _ rfl _ _ _ _ _ ?_
        refine Exists.intro _ (And.intro (v57) ?_)
        refine And.intro (And.intro (show ab_R (v 8) from rR (by omega) (by omega)) (rR (by omega) (by omega))) (And.intro (fun q => ?_) (fun q => ?_))
        · have q : v 8 ≠ 5 := q
          have ho : ¬ o = 5 := by omega
          have hbl : b < len := by
            rcases Nat.lt_or_ge b len with h | h
            · exact h
            · rw [byt_ge h] at hq; omega
          have hfi2 := m_fine v57 hMr
          refine hA 6 _ rfl _ _ _ _ _ ?_
          refine Exists.intro _ (And.intro (by first | assumption | exact st_s | exact st_e (by decide) (by assumption) | exact st_e (by omega) (by assumption) | exact st_e (by decide) st_s | exact st_e (by omega) st_s | exact st_e (by decide) (st_e (by decide) (by assumption)) | exact st_e (by omega) (st_e (by omega) (by assumption))) (And.intro rfl (ab_inv_ev hfi2 (by first | decide | omega) (by first | exact Nat.le_refl _ | omega) (by first | exact Nat.le_refl _ | omega) ?_)))
          refine And.intro (by first | assumption | exact b2i_R _ | exact rR (by omega) (by omega) | exact rR (by simp only [Int.toNat_natCast]; omega) (by simp only [Int.toNat_natCast]; omega)) (And.intro (fun q => ?_) (fun q => ?_))
          · have w57 : (ab_st τ 57 (m10 (ab_up v 8 (v 8 + 1)))).2 57 = some (m10 (ab_up v 8 (v 8 + 1))) := st_s
            refine hA 8 _ rfl _ _ _ _ _ ?_
            refine Exists.intro _ (And.intro (v57) ?_)
            refine Exists.intro _ (And.intro (v57) ?_)
            rw [m10_s8, st_st]
            refine Exists.intro _ (And.intro (w57) ?_)
            refine Exists.intro _ (And.intro (w57) ?_)
            rw [m10_s4, st_st, if_pos hq, if_neg ho]
            refine And.intro (Or.inr rfl) ⟨rfl, h1.st (Or.inl rfl), h2.st, _, st_s, ⟨by rw [ab_up_n (by omega), ab_up_n (by omega)]; exact hMr.1, by omega, by rw [ab_up_n (by omega), ab_up_n (by omega)]; exact hMr.2.2.1, by rw [ab_up_n (by omega), ab_up_n (by omega)]; exact hMr.2.2.2.1, b + 1, by omega, rfl, by rw [ab_up_s, ab_up_n (by omega), e4]; rfl⟩, fun j a b c d e => by rw [ab_up_n a, ab_up_n d]; exact eu j a b c d e, fun _ => by rw [ab_up_n (by omega), ab_up_s, e8]; rfl, L, by rw [ab_up_n (by omega), ab_up_n (by omega)]; exact e18, h8, fun _ => h9⟩
          · exact absurd (show (1 : Int) = 0 from q) (by decide)
        · have q : v 8 = 5 := q
          have ho : o = 5 := by omega
          have hw := m_wrong v57 hv6.1 3 (v 4)
          rw [st_st] at hw
          have k9 := k6f 3 (by decide) (rR (by omega) (by omega)) (by rw [if_pos hq, if_pos ho])
          refine hA 5 _ rfl _ _ _ _ _ ?_
          refine Exists.intro _ (And.intro (by first | assumption | exact st_s | exact st_e (by decide) (by assumption) | exact st_e (by omega) (by assumption) | exact st_e (by decide) st_s | exact st_e (by omega) st_s | exact st_e (by decide) (st_e (by decide) (by assumption)) | exact st_e (by omega) (st_e (by omega) (by assumption))) ?_)
          refine Exists.intro _ (And.intro (by first | assumption | exact st_s | exact st_e (by decide) (by assumption) | exact st_e (by omega) (by assumption) | exact st_e (by decide) st_s | exact st_e (by omega) st_s | exact st_e (by decide) (st_e (by decide) (by assumption)) | exact st_e (by omega) (st_e (by omega) (by assumption))) (And.intro rfl (ab_inv_ev hw (by first | decide | omega) (by first | exact Nat.le_refl _ | omega) (by first | exact Nat.le_refl _ | omega) ?_)))
          exact k9
      · have hq : byt f len b ≠ 40 := by assumption
        have hw := m_wrong v57 hv6.1 1 (v 4)
        rw [st_st] at hw
        have k9 := k6f 1 (by decide) (rR (by omega) (by omega)) (by rw [if_neg hq])
        refine hA 3 _ rfl _ _ _ _ _ ?_
        refine Exists.intro _ (And.intro (by first | assumption | exact st_s | exact st_e (by decide) (by assumption) | exact st_e (by omega) (by assumption) | exact st_e (by decide) st_s | exact st_e (by omega) st_s | exact st_e (by decide) (st_e (by decide) (by assumption)) | exact st_e (by omega) (st_e (by omega) (by assumption))) ?_)
        refine Exists.intro _ (And.intro (by first | assumption | exact st_s | exact st_e (by decide) (by assumption) | exact st_e (by omega) (by assumption) | exact st_e (by decide) st_s | exact st_e (by omega) st_s | exact st_e (by decide) (st_e (by decide) (by assumption)) | exact st_e (by omega) (st_e (by omega) (by assumption))) (And.intro rfl (ab_inv_ev hw (by first | decide | omega) (by first | exact Nat.le_refl _ | omega) (by first | exact Nat.le_refl _ | omega) ?_)))
        exact k9
    · exact absurd (show (1 : Int) = 0 from q) (by decide)
set_option maxRecDepth 100000 in
set_option maxHeartbeats 1000000 in
theorem q_closesSign (h59 : σ0.2 59 = some (bya f)) (hf : byR f) (hl : len ≤ 200) (h : QM σ0 f len u τ s (o + 1) AL) : ab_call 4 0 0 yX10_closesSign [rf 57] τ (fun z σ' => z = .inl none ∧ QM σ0 f len u σ' (sgnT f len s 41) o AL) := by
  obtain ⟨t0, c57⟩ := h.c57
  refine eX10_closesSign rfl (fun At hA => ?_)
  refine hA 0 _ rfl _ _ _ _ _ ?_
  refine Exists.intro _ (And.intro (by first | assumption | exact st_s | exact st_e (by decide) (by assumption) | exact st_e (by omega) (by assumption) | exact st_e (by decide) st_s | exact st_e (by omega) st_s | exact st_e (by decide) (st_e (by decide) (by assumption)) | exact st_e (by omega) (st_e (by omega) (by assumption))) (And.intro rfl (ab_inv_of (q_sign h59 hf hl h 41 (by omega)) (by first | decide | omega) (by omega) (by omega) ?_)))
  intro z υ hpost
  obtain ⟨rfl, h1, h2, t, h3, h4, h5, h6, L, h7, h8, h9⟩ := hpost
  refine Exists.intro _ (And.intro (by first | assumption | exact st_s | exact st_e (by decide) (by assumption) | exact st_e (by omega) (by assumption) | exact st_e (by decide) st_s | exact st_e (by omega) st_s | exact st_e (by decide) (st_e (by decide) (by assumption)) | exact st_e (by omega) (st_e (by omega) (by assumption))) ?_)
  refine Exists.intro _ (And.intro (by first | assumption | exact st_s | exact st_e (by decide) (by assumption) | exact st_e (by omega) (by assumption) | exact st_e (by decide) st_s | exact st_e (by omega) st_s | exact st_e (by decide) (st_e (by decide) (by assumption)) | exact st_e (by omega) (st_e (by omega) (by assumption))) ?_)
  rw [m10_s8]
  refine ⟨rfl, h1.st (Or.inl rfl), h2.st, _, st_s, h4.op (fun j hj => ab_up_n (by omega)), fun j a b c d e => by rw [ab_up_n d]; exact h5 j a b c d e, fun q => by rw [ab_up_s, h6 q]; omega, L, by rw [ab_up_n (by omega)]; exact h7, h8, h9⟩
set_option maxRecDepth 100000 in
set_option maxHeartbeats 1000000 in
theorem q_addsAct (h79 : σ0.2 79 = some (rfs 80 200)) (h : QM σ0 f len u τ s o AL) (x : N4) (w a b c : Int) (hx : isR s = true → w = (x.1 : Nat) ∧ a = (x.2.1 : Nat) ∧ b = (x.2.2.1 : Nat) ∧ c = (x.2.2.2 : Nat) ∧ AL.length < 200) : ab_call 2 0 0 yX10_addsAct [rf 57, .inl w, .inl a, .inl b, .inl c] τ (fun z σ' => z = .inl none ∧ QM σ0 f len u σ' s o (AL ++ [x])) := by
  have hfi := q_mfine h
  cases s with
  | inl e =>
    obtain ⟨t0, c57⟩ := h.c57
    refine eX10_addsAct rfl (fun At hA => ?_)
    refine hA 0 _ rfl _ _ _ _ _ ?_
    refine Exists.intro _ (And.intro (by first | assumption | exact st_s | exact st_e (by decide) (by assumption) | exact st_e (by omega) (by assumption) | exact st_e (by decide) st_s | exact st_e (by omega) st_s | exact st_e (by decide) (st_e (by decide) (by assumption)) | exact st_e (by omega) (st_e (by omega) (by assumption))) (And.intro rfl (ab_inv_ev hfi (by first | decide | omega) (by first | exact Nat.le_refl _ | omega) (by first | exact Nat.le_refl _ | omega) ?_)))
    refine And.intro (by first | assumption | exact b2i_R _ | exact rR (by omega) (by omega) | exact rR (by simp only [Int.toNat_natCast]; omega) (by simp only [Int.toNat_natCast]; omega)) (And.intro (fun q => ?_) (fun q => ?_))
    · exact absurd rfl q
    · refine hA 1 _ rfl _ _ _ _ _ ?_
      exact ⟨rfl, h.flt⟩
  | inr y =>
    obtain ⟨h1, h2, t, h3, h4, h5, h6, L, h7, h8, h9⟩ := h
    obtain ⟨rfl, rfl, rfl, rfl, hlen⟩ := hx rfl
    have h9 := h9 rfl
    have t79 := (h1.2 79 (by unfold RA; omega)).trans h79
    have eL : (t 18).toNat = L := by omega
    obtain ⟨g, g1, -⟩ := h2 L (by omega)
    refine eX10_addsAct rfl (fun At hA => ?_)
    refine hA 0 _ rfl _ _ _ _ _ ?_
    refine Exists.intro _ (And.intro (by first | assumption | exact st_s | exact st_e (by decide) (by assumption) | exact st_e (by omega) (by assumption) | exact st_e (by decide) st_s | exact st_e (by omega) st_s | exact st_e (by decide) (st_e (by decide) (by assumption)) | exact st_e (by omega) (st_e (by omega) (by assumption))) (And.intro rfl (ab_inv_ev hfi (by first | decide | omega) (by first | exact Nat.le_refl _ | omega) (by first | exact Nat.le_refl _ | omega) ?_)))
    refine And.intro (by first | assumption | exact b2i_R _ | exact rR (by omega) (by omega) | exact rR (by simp only [Int.toNat_natCast]; omega) (by simp only [Int.toNat_natCast]; omega)) (And.intro (fun q => ?_) (fun q => ?_))
    · have q57 : ∀ y : ab_C, (ab_st τ (80 + L) y).2 57 = some (m10 t) := fun y => st_e (by omega) h3
      refine hA 2 _ rfl _ _ _ _ _ ?_
      refine Exists.intro _ (And.intro (h3) ?_)
      refine Exists.intro _ (And.intro (h3) ?_)
      refine Exists.intro _ (Exists.intro _ (And.intro (t79) (And.intro (by omega) ?_)))
      rw [eL]
      refine Exists.intro _ (Exists.intro _ (And.intro (g1) (And.intro (by omega) ?_)))
      refine Exists.intro _ (Exists.intro _ (And.intro (st_s) (And.intro (by omega) ?_)))
      rw [st_st]
      refine Exists.intro _ (Exists.intro _ (And.intro (st_s) (And.intro (by omega) ?_)))
      rw [st_st]
      refine Exists.intro _ (Exists.intro _ (And.intro (st_s) (And.intro (by omega) ?_)))
      rw [st_st]
      refine Exists.intro _ (And.intro (q57 _) ?_)
      refine Exists.intro _ (And.intro (q57 _) ?_)
      rw [m10_s18]
      refine ⟨rfl, (h1.st (a := 80 + L) (by unfold RA; omega)).st (Or.inl rfl), fun i hi => ?_, _, st_s, h4.op (fun j hj => ab_up_n (by omega)), fun j a b c d e => by rw [ab_up_n e]; exact h5 j a b c d e, fun q => by rw [ab_up_n (by omega)]; exact h6 q, L + 1, by rw [ab_up_s, h7]; rfl, by omega, fun _ => by rw [List.length_append, ← h9]; rfl⟩
      by_cases e : i = L
      · subst e
        refine ⟨_, st_e (by omega) st_s, fun _ x9 hx9 => ?_⟩
        rw [h9, List.getElem?_append_right (Nat.le_refl _), Nat.sub_self] at hx9
        have hx9 : some x = some x9 := hx9
        cases hx9
        exact ⟨rfl, rfl, rfl, rfl⟩
      · obtain ⟨g2, k1, k2⟩ := h2 i hi
        refine ⟨g2, st_e (by omega) (st_e (by omega) k1), fun _ x9 hx9 => k2 rfl x9 ?_⟩
        rcases Nat.lt_or_ge i L with hlt | hge
        · rw [List.getElem?_append_left (by omega)] at hx9
          exact hx9
        · rw [List.getElem?_append_right (by omega)] at hx9
          obtain ⟨d, hd⟩ : ∃ d, i - AL.length = d + 1 := ⟨i - AL.length - 1, by omega⟩
          rw [hd] at hx9
          have hx9 : (none : Option N4) = some x9 := hx9
          cases hx9
    · exact absurd (show (1 : Int) = 0 from q) (by decide)
set_option maxRecDepth 100000 in
set_option maxHeartbeats 1000000 in
theorem q_readsAsked (h59 : σ0.2 59 = some (bya f)) (h79 : σ0.2 79 = some (rfs 80 200)) (h12 : u 12 = (cc : Nat)) (hcc : cc ≤ 4) (hf : byR f) (hl : len ≤ 200) (i a : Nat) (hi : i ≤ 6) (h : QM σ0 f len u τ (.inr a) o AL) (hAL : AL.length ≤ a) : ab_call 5 0 0 yX10_readsAsked [rf 57, .inl i] τ (fun z σ' => z = .inl none ∧ QM σ0 f len u σ' (cmpT f len K cc i a).1 o (AL ++ (cmpT f len K cc i a).2.2)) := by
  have ha := h.le a rfl
  have e12 : ∀ {τ : ab_H} {s : S2} {AL : List N4}, QM σ0 f len u τ s o AL → ∃ t, τ.2 57 = some (m10 t) ∧ t 12 = (cc : Nat) := fun h => by
    obtain ⟨-, -, t, h3, -, h5, -⟩ := h
    exact ⟨t, h3, (h5 12 (by omega) (by omega) (by omega) (by omega) (by omega)).trans h12⟩
  have hcok := fun (a' : Nat) (h : (cmpT f len K cc i a).1 = .inr a') => cmpT_ok ha h
  obtain ⟨t0, c57, c12⟩ := e12 h
  refine eX10_readsAsked rfl (fun At hA => ?_)
  have hq1 := q_number h59 hf hl h 0 ((cc : Int) - 1) (rR (by omega) (by omega)) (rR (by omega) (by omega)) (by omega) (by omega)
  rw [← c12] at hq1
  refine hA 0 _ rfl _ _ _ _ _ ?_
  refine Exists.intro _ (And.intro (by first | assumption | exact st_s | exact st_e (by decide) (by assumption) | exact st_e (by omega) (by assumption) | exact st_e (by decide) st_s | exact st_e (by omega) st_s | exact st_e (by decide) (st_e (by decide) (by assumption)) | exact st_e (by omega) (st_e (by omega) (by assumption))) ?_)
  refine Exists.intro _ (And.intro (by first | assumption | exact st_s | exact st_e (by decide) (by assumption) | exact st_e (by omega) (by assumption) | exact st_e (by decide) st_s | exact st_e (by omega) st_s | exact st_e (by decide) (st_e (by decide) (by assumption)) | exact st_e (by omega) (st_e (by omega) (by assumption))) (And.intro rfl (ab_inv_of hq1 (by first | decide | omega) (by omega) (by omega) ?_)))
  intro z υ1 hpost
  rw [c12] at hpost
  obtain ⟨rfl, Q1⟩ := hpost
  have in1 := fun h => num_in (f := f) (len := len) (s := .inr a) (lo := 0) (hi := (cc : Int) - 1) h (fun y hy => by cases hy; exact ha)
  have R1 : ∀ y, (numT f len (.inr a) 0 ((cc : Int) - 1)).2 = .inr y → y ≤ len := Q1.le
  generalize hN1 : numT f len (.inr a) 0 ((cc : Int) - 1) = N1 at Q1 in1 R1
  obtain ⟨d0, d57⟩ := Q1.c57
  refine Exists.intro _ (And.intro (by first | assumption | exact st_s | exact st_e (by decide) (by assumption) | exact st_e (by omega) (by assumption) | exact st_e (by decide) st_s | exact st_e (by omega) st_s | exact st_e (by decide) (st_e (by decide) (by assumption)) | exact st_e (by omega) (st_e (by omega) (by assumption))) (And.intro rfl (ab_inv_of (q_sign h59 hf hl Q1 44 (by omega)) (by first | decide | omega) (by omega) (by omega) ?_)))
  intro z υ2 hpost
  obtain ⟨rfl, Q2⟩ := hpost
  have R2 := Q2.le
  obtain ⟨d0, d57⟩ := Q2.c57
  refine Exists.intro _ (And.intro (by first | assumption | exact st_s | exact st_e (by decide) (by assumption) | exact st_e (by omega) (by assumption) | exact st_e (by decide) st_s | exact st_e (by omega) st_s | exact st_e (by decide) (st_e (by decide) (by assumption)) | exact st_e (by omega) (st_e (by omega) (by assumption))) (And.intro rfl (ab_inv_of (q_number h59 hf hl Q2 0 999 (rR (by omega) (by omega)) (rR (by omega) (by omega)) (by omega) (by omega)) (by first | decide | omega) (by omega) (by omega) ?_)))
  intro z υ3 hpost
  obtain ⟨rfl, Q3⟩ := hpost
  have in3 := fun h => num_in (f := f) (len := len) (s := sgnT f len N1.2 44) (lo := 0) (hi := 999) h R2
  have b3 : isR (numT f len (sgnT f len N1.2 44) 0 999).2 = true → isR N1.2 = true := fun h => sgn_R (num_R h)
  have R3 := Q3.le
  have hcT : cmpT f len K cc i a = if i = 6 then ((numT f len (sgnT f len (numT f len (sgnT f len N1.2 44) 0 999).2 44) 0 999).2, btwN K N1.1.toNat (numT f len (sgnT f len N1.2 44) 0 999).1.toNat (numT f len (sgnT f len (numT f len (sgnT f len N1.2 44) 0 999).2 44) 0 999).1.toNat, [(6, N1.1.toNat, (numT f len (sgnT f len N1.2 44) 0 999).1.toNat, (numT f len (sgnT f len (numT f len (sgnT f len N1.2 44) 0 999).2 44) 0 999).1.toNat)]) else ((numT f len (sgnT f len N1.2 44) 0 999).2, cmpN K i N1.1.toNat (numT f len (sgnT f len N1.2 44) 0 999).1.toNat, [(i, N1.1.toNat, (numT f len (sgnT f len N1.2 44) 0 999).1.toNat, 0)]) := by
    unfold cmpT
    dsimp only
    rw [hN1]
  generalize hN3 : numT f len (sgnT f len N1.2 44) 0 999 = N3 at Q3 in3 b3 R3 hcT
  obtain ⟨d0, d57⟩ := Q3.c57
  have hRb : ∀ {s : S2} {y : Nat}, s = .inr y → isR s = true := fun h => by subst h; rfl
  refine And.intro (And.intro (by first | assumption | exact b2i_R _ | exact rR (by omega) (by omega) | exact rR (by simp only [Int.toNat_natCast]; omega) (by simp only [Int.toNat_natCast]; omega)) (by first | assumption | exact b2i_R _ | exact rR (by omega) (by omega) | exact rR (by simp only [Int.toNat_natCast]; omega) (by simp only [Int.toNat_natCast]; omega))) (And.intro (fun q => ?_) (fun q => ?_))
  · have hi6 : i ≠ 6 := by omega
    rw [if_neg hi6] at hcT
    rw [hcT] at hcok
    have hlen : isR N3.2 = true → AL.length < 200 := fun h => by
      cases hy : N3.2 with
      | inl e => rw [hy] at h; exact absurd h Bool.false_ne_true
      | inr y => have := hcok y hy; omega
    refine hA 2 _ rfl _ _ _ _ _ ?_
    refine Exists.intro _ (And.intro (by first | assumption | exact st_s | exact st_e (by decide) (by assumption) | exact st_e (by omega) (by assumption) | exact st_e (by decide) st_s | exact st_e (by omega) st_s | exact st_e (by decide) (st_e (by decide) (by assumption)) | exact st_e (by omega) (st_e (by omega) (by assumption))) (And.intro rfl (ab_inv_of (q_addsAct h79 Q3 (i, N1.1.toNat, N3.1.toNat, 0) i (if isR N1.2 = true then N1.1 else 0) (if isR N3.2 = true then N3.1 else 0) 0 (fun h => ⟨rfl, by rw [if_pos (b3 h)]; have := in1 (b3 h); show N1.1 = ((N1.1.toNat : Nat) : Int); omega, by rw [if_pos h]; have := in3 h; show N3.1 = ((N3.1.toNat : Nat) : Int); omega, rfl, hlen h⟩)) (by first | decide | omega) (by omega) (by omega) ?_)))
    intro z υ4 hpost
    obtain ⟨rfl, Q4⟩ := hpost
    
    rw [hcT]
    exact ⟨rfl, Q4⟩
  · have hi6 : i = 6 := by omega
    subst hi6
    rw [if_pos rfl] at hcT
    rw [hcT] at hcok
    refine hA 1 _ rfl _ _ _ _ _ ?_
    refine Exists.intro _ (And.intro (by first | assumption | exact st_s | exact st_e (by decide) (by assumption) | exact st_e (by omega) (by assumption) | exact st_e (by decide) st_s | exact st_e (by omega) st_s | exact st_e (by decide) (st_e (by decide) (by assumption)) | exact st_e (by omega) (st_e (by omega) (by assumption))) (And.intro rfl (ab_inv_of (q_sign h59 hf hl Q3 44 (by omega)) (by first | decide | omega) (by omega) (by omega) ?_)))
    intro z υ4 hpost
    obtain ⟨rfl, Q4⟩ := hpost
    have R4 := Q4.le
    obtain ⟨d0, d57⟩ := Q4.c57
    refine Exists.intro _ (And.intro (by first | assumption | exact st_s | exact st_e (by decide) (by assumption) | exact st_e (by omega) (by assumption) | exact st_e (by decide) st_s | exact st_e (by omega) st_s | exact st_e (by decide) (st_e (by decide) (by assumption)) | exact st_e (by omega) (st_e (by omega) (by assumption))) (And.intro rfl (ab_inv_of (q_number h59 hf hl Q4 0 999 (rR (by omega) (by omega)) (rR (by omega) (by omega)) (by omega) (by omega)) (by first | decide | omega) (by omega) (by omega) ?_)))
    intro z υ5 hpost
    obtain ⟨rfl, Q5⟩ := hpost
    have in5 := fun h => num_in (f := f) (len := len) (s := sgnT f len N3.2 44) (lo := 0) (hi := 999) h R4
    have b5 : isR (numT f len (sgnT f len N3.2 44) 0 999).2 = true → isR N3.2 = true := fun h => sgn_R (num_R h)
    generalize hN5 : numT f len (sgnT f len N3.2 44) 0 999 = N5 at Q5 in5 b5 hcT hcok
    obtain ⟨d0, d57⟩ := Q5.c57
    have hlen : isR N5.2 = true → AL.length < 200 := fun h => by
      cases hy : N5.2 with
      | inl e => rw [hy] at h; exact absurd h Bool.false_ne_true
      | inr y => have := hcok y hy; omega
    
    refine hA 2 _ rfl _ _ _ _ _ ?_
    refine Exists.intro _ (And.intro (by first | assumption | exact st_s | exact st_e (by decide) (by assumption) | exact st_e (by omega) (by assumption) | exact st_e (by decide) st_s | exact st_e (by omega) st_s | exact st_e (by decide) (st_e (by decide) (by assumption)) | exact st_e (by omega) (st_e (by omega) (by assumption))) (And.intro rfl (ab_inv_of (q_addsAct h79 Q5 (6, N1.1.toNat, N3.1.toNat, N5.1.toNat) 6 (if isR N1.2 = true then N1.1 else 0) (if isR N3.2 = true then N3.1 else 0) (if isR N5.2 = true then N5.1 else 0) (fun h => ⟨rfl, by rw [if_pos (b3 (b5 h))]; have := in1 (b3 (b5 h)); show N1.1 = ((N1.1.toNat : Nat) : Int); omega, by rw [if_pos (b5 h)]; have := in3 (b5 h); show N3.1 = ((N3.1.toNat : Nat) : Int); omega, by rw [if_pos h]; have := in5 h; show N5.1 = ((N5.1.toNat : Nat) : Int); omega, hlen h⟩)) (by first | decide | omega) (by omega) (by omega) ?_)))
    intro z υ6 hpost
    obtain ⟨rfl, Q6⟩ := hpost
    
    rw [hcT]
    exact ⟨rfl, Q6⟩
end Mques
