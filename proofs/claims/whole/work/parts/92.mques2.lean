-- ===== the model: questions within questions =====
theorem fst_lt {w : Int} {i : Nat} : ∀ (xs : List Int) (k : Nat), fstC w xs k = some i → i < k + xs.length := by
  intro xs
  induction xs with
  | nil => intro k h; cases h
  | cons x xs ih =>
    intro k h
    have h : (if w = x then some k else fstC w xs (k + 1)) = some i := h
    rw [List.length_cons]
    split at h
    · cases h; omega
    · have := ih (k + 1) h; omega
section Mques2
variable {σ0 τ υ : ab_H} {f u t : Nat → Int} {len : Nat} {s s' : S2} {o : Nat} {AL : List N4} {K : Nat → CT} {cc : Nat}
/-- the same, the object's fields named -/
def QT (σ0 : ab_H) (f : Nat → Int) (len : Nat) (u : Nat → Int) (τ : ab_H) (t : Nat → Int) (s : S2) (o : Nat) (AL : List N4) : Prop := fr RA σ0 τ ∧ AC τ AL (isR s) ∧ τ.2 57 = some (m10 t) ∧ MT t f len s ∧ (∀ j, j ≠ 4 → j ≠ 6 → j ≠ 7 → j ≠ 8 → j ≠ 18 → t j = u j) ∧ (isR s = true → t 8 = (o : Nat)) ∧ ∃ L : Nat, t 18 = (L : Nat) ∧ L ≤ 200 ∧ (isR s = true → L = AL.length)
theorem QM.qt (h : QM σ0 f len u τ s o AL) : ∃ t, QT σ0 f len u τ t s o AL := by
  obtain ⟨h1, h2, t, h3⟩ := h
  exact ⟨t, h1, h2, h3⟩
theorem QT.qm (h : QT σ0 f len u τ t s o AL) : QM σ0 f len u τ s o AL := ⟨h.1, h.2.1, t, h.2.2⟩
theorem QT.h57 (h : QT σ0 f len u τ t s o AL) : τ.2 57 = some (m10 t) := h.2.2.1
theorem q_here (h59 : σ0.2 59 = some (bya f)) (hf : byR f) (hl : len ≤ 200) {a : Nat} (h : QM σ0 f len u τ (.inr a) o AL) : ∃ (t : Nat → Int) (υ : ab_H), t 4 = (skB f len a : Nat) ∧ ab_ev 2 yX10_here [rf 57] τ (some (.inl (byt f len (skB f len a)))) υ ∧ QT σ0 f len u υ t (.inr a) o AL := by
  obtain ⟨h1, h2, t, h3, h4, h5, h6, L, h7, h8, h9⟩ := id h
  have t59 := (h1.2 59 (by unfold RA; omega)).trans h59
  obtain ⟨k3, ka, k6, k7, x, hx, hsx, k4⟩ := id h4
  have hb := m_here h3 t59 hf k3 (by omega) x hx k4
  have hMr := (h4.ia k4).1
  rw [hsx] at hb hMr
  refine ⟨_, _, ab_up_s, hb, h1.st (Or.inl rfl), h2.st, st_s, hMr, fun j a b c d e => by rw [ab_up_n a]; exact h5 j a b c d e, fun q => by rw [ab_up_n (by omega)]; exact h6 q, L, by rw [ab_up_n (by omega)]; exact h7, h8, h9⟩
/-- a step past the sign that is there -/
theorem q_step {a : Nat} (h : QT σ0 f len u υ t (.inr a) o AL) (h4 : t 4 = (skB f len a : Nat)) (c : Nat) (hc : c ≠ 0) (hb : byt f len (skB f len a) = (c : Nat)) : QM σ0 f len u (ab_st υ 57 (m10 (ab_up t 4 (t 4 + 1)))) (sgnT f len (.inr a) c) o AL := by
  obtain ⟨h1, h2, h3, k, h5, h6, L, h7, h8, h9⟩ := h
  have e1 : sgnT f len (.inr a) c = .inr (skB f len a + 1) := by
    show signP f len a c = _
    unfold signP
    rw [if_pos (beq_iff_eq.mpr hb)]
  have hbl : skB f len a < len := by
    rcases Nat.lt_or_ge (skB f len a) len with h | h
    · exact h
    · rw [byt_ge h] at hb; omega
  rw [e1]
  exact ⟨h1.st (Or.inl rfl), h2.st, _, st_s, ⟨by rw [ab_up_n (by omega)]; exact k.1, by omega, by rw [ab_up_n (by omega)]; exact k.2.2.1, by rw [ab_up_n (by omega)]; exact k.2.2.2.1, skB f len a + 1, by omega, rfl, by rw [ab_up_s, h4]; rfl⟩, fun j a b c d e => by rw [ab_up_n a]; exact h5 j a b c d e, fun _ => by rw [ab_up_n (by omega)]; exact h6 rfl, L, by rw [ab_up_n (by omega)]; exact h7, h8, fun _ => h9 rfl⟩
theorem q_stepF {e : Int × Int} (h : QT σ0 f len u υ t (.inl e) o AL) {x : Nat} (h4 : t 4 = x) (hx : x < len) : QM σ0 f len u (ab_st υ 57 (m10 (ab_up t 4 (t 4 + 1)))) (.inl e) o AL := by
  obtain ⟨h1, h2, h3, k, h5, h6, L, h7, h8, h9⟩ := h
  obtain ⟨k1, k2, k3, k4, k5, k6⟩ := k
  exact ⟨h1.st (Or.inl rfl), h2.st, _, st_s, ⟨by rw [ab_up_n (by omega)]; exact k1, k2, k3, by rw [ab_up_n (by omega)]; exact k4, by rw [ab_up_n (by omega)]; exact k5, x + 1, by omega, by rw [ab_up_s, h4]; rfl⟩, fun j a b c d e => by rw [ab_up_n a]; exact h5 j a b c d e, fun q => absurd q Bool.false_ne_true, L, by rw [ab_up_n (by omega)]; exact h7, h8, fun q => absurd q Bool.false_ne_true⟩
theorem q_wrong {a : Nat} (h : QT σ0 f len u υ t (.inr a) o AL) (k : Int) (hk : k ≠ 0) (hR : ab_R k) (p : Nat) : ab_ev 1 yX10_wrong [rf 57, .inl k, .inl p] υ none (ab_st υ 57 (m10 (wrT t k p))) ∧ wrT t k p 4 = t 4 ∧ QT σ0 f len u (ab_st υ 57 (m10 (wrT t k p))) (wrT t k p) (.inl (k, p)) o AL := by
  obtain ⟨h1, h2, h3, km, h5, h6, L, h7, h8, h9⟩ := h
  have hMw := MT.wr km k p hk hR
  have hUw : MU t (wrT t k p) := (MU.rf t).wr _ _
  refine ⟨m_wrong h3 km.fault.1 k p, ?_, h1.st (Or.inl rfl), (h2.lo (b' := false) (fun _ => rfl)).st, st_s, hMw, fun j a b c d e => (hUw j a b c).trans (h5 j a b c d e), fun q => absurd q Bool.false_ne_true, L, (hUw 18 (by omega) (by omega) (by omega)).trans h7, h8, fun q => absurd q Bool.false_ne_true⟩
  unfold wrT
  split
  · rw [ab_up_n (by omega), ab_up_n (by omega)]
  · rfl
/-- a question's reading, so many more may be open within it -/
abbrev HQ (σ0 : ab_H) (f : Nat → Int) (len : Nat) (u : Nat → Int) (K : Nat → CT) (cc d m o : Nat) : Prop := ∀ (τ : ab_H) (s : S2) (AL : List N4), QM σ0 f len u τ s o AL → (∀ a, s = .inr a → AL.length ≤ a) → ab_call d 0 0 yX10_readsQuestion [rf 57] τ (fun z σ' => z = .inl none ∧ QM σ0 f len u σ' (pqT f len K cc m s).1 o (AL ++ (pqT f len K cc m s).2.2))
theorem pq_add {c : Nat} (hle : ∀ a, s = .inr a → a ≤ len ∧ AL.length + c ≤ a) (m : Nat) : ∀ a', (pqT f len K cc m s).1 = .inr a' → (AL ++ (pqT f len K cc m s).2.2).length + c ≤ a' ∧ AL.length + c + 1 ≤ a' := fun a' h => by
  obtain ⟨a, h1, h2, h3, h4, h5⟩ := okq_of (pq_ok m) (fun a e => (hle a e).1) h
  have := (hle a h1).2
  rw [List.length_append]
  exact ⟨by omega, by omega⟩
theorem sg_ad {x c : Nat} (hle : ∀ a, s = .inr a → a ≤ len ∧ AL.length + c ≤ a) : ∀ a', sgnT f len s x = .inr a' → a' ≤ len ∧ AL.length + (c + 1) ≤ a' := fun a' h => by
  obtain ⟨z, hz, r1, r2⟩ := sgnT_ok h (fun w hw => (hle w hw).1)
  have := (hle z hz).2
  exact ⟨by omega, by omega⟩
theorem jnL_s (q : S2 → S2 × List N3 × List N4) (i most n k a : Nat) : jnL f len q i most (n + 1) k (.inr a) = if k < most ∧ (k = 1 ∨ byt f len (skB f len a) = 44) then ((jnL f len q i most n (k + 1) (q (sgnT f len (.inr a) 44)).1).1, (q (sgnT f len (.inr a) 44)).2.1 ++ (i, 0, 0) :: (jnL f len q i most n (k + 1) (q (sgnT f len (.inr a) 44)).1).2.1, (q (sgnT f len (.inr a) 44)).2.2 ++ (jnL f len q i most n (k + 1) (q (sgnT f len (.inr a) 44)).1).2.2) else if most = 4 ∧ byt f len (skB f len a) = 44 then (.inl (3, (skB f len a : Nat)), [], []) else (.inr a, [], [(i, k, 0, 0)]) := rfl
theorem jnT_eq (q : S2 → S2 × List N3 × List N4) (hq : okq q len) (i most : Nat) (hm : most = if i ≤ 8 then 4 else 2) (s : S2) : (jnT f len q i s).1 = (jnL f len q i most 3 2 (q (sgnT f len (q s).1 44)).1).1 ∧ (jnT f len q i s).2.2 = (q s).2.2 ++ ((q (sgnT f len (q s).1 44)).2.2 ++ (jnL f len q i most 3 2 (q (sgnT f len (q s).1 44)).1).2.2) := by
  subst hm
  unfold jnT
  dsimp only
  generalize hs1 : (q s).1 = s1
  have hmo : 1 < (if i ≤ 8 then 4 else 2) := by split <;> omega
  cases s1 with
  | inl e =>
    have e2 : q (sgnT f len (.inl e) 44) = (.inl e, [], []) := hq.1 e
    rw [e2]
    exact ⟨rfl, rfl⟩
  | inr a =>
    have e : jnL f len q i (if i ≤ 8 then 4 else 2) 4 1 (.inr a) = ((jnL f len q i (if i ≤ 8 then 4 else 2) 3 2 (q (sgnT f len (.inr a) 44)).1).1, (q (sgnT f len (.inr a) 44)).2.1 ++ (i, 0, 0) :: (jnL f len q i (if i ≤ 8 then 4 else 2) 3 2 (q (sgnT f len (.inr a) 44)).1).2.1, (q (sgnT f len (.inr a) 44)).2.2 ++ (jnL f len q i (if i ≤ 8 then 4 else 2) 3 2 (q (sgnT f len (.inr a) 44)).1).2.2) := if_pos ⟨hmo, Or.inl rfl⟩
    rw [e]
    exact ⟨rfl, rfl⟩
set_option maxRecDepth 100000 in
set_option maxHeartbeats 1000000 in
theorem q_readsTwo (h59 : σ0.2 59 = some (bya f)) (h79 : σ0.2 79 = some (rfs 80 200)) (hf : byR f) (hl : len ≤ 200) (d m : Nat) (hd : 3 ≤ d) (hQ : HQ σ0 f len u K cc d m o) (i : Nat) (hi : 9 ≤ i ∧ i ≤ 10) (h : QM σ0 f len u τ s o AL) (hle : ∀ a, s = .inr a → AL.length ≤ a) : ab_call (d + 1) 0 0 yX10_readsTwo [rf 57, .inl i] τ (fun z σ' => z = .inl none ∧ QM σ0 f len u σ' (jnT f len (pqT f len K cc m) i s).1 o (AL ++ (jnT f len (pqT f len K cc m) i s).2.2)) := by
  obtain ⟨e1, e2⟩ := jnT_eq (f := f) (pqT f len K cc m) (pq_ok m) i 2 (by rw [if_neg (by omega)]) s
  have L0 := h.le
  obtain ⟨t0, c57⟩ := h.c57
  refine eX10_readsTwo rfl (fun At hA => ?_)
  refine hA 0 _ rfl _ _ _ _ _ ?_
  refine Exists.intro _ (And.intro (by first | assumption | exact st_s | exact st_e (by decide) (by assumption) | exact st_e (by omega) (by assumption) | exact st_e (by decide) st_s | exact st_e (by omega) st_s | exact st_e (by decide) (st_e (by decide) (by assumption)) | exact st_e (by omega) (st_e (by omega) (by assumption))) (And.intro rfl (ab_inv_of (hQ τ s AL h hle) (by first | decide | omega) (by omega) (by omega) ?_)))
  intro z υ1 hpost
  obtain ⟨rfl, Q1⟩ := hpost
  have L1 := Q1.le
  have A1 := pq_add (f := f) (K := K) (cc := cc) (c := 0) (fun a e => ⟨L0 a e, hle a e⟩) m
  generalize (pqT f len K cc m s).1 = s1 at Q1 L1 A1 e1 e2
  generalize (pqT f len K cc m s).2.2 = N1 at Q1 A1 e2
  obtain ⟨d0, d57⟩ := Q1.c57
  refine Exists.intro _ (And.intro (by first | assumption | exact st_s | exact st_e (by decide) (by assumption) | exact st_e (by omega) (by assumption) | exact st_e (by decide) st_s | exact st_e (by omega) st_s | exact st_e (by decide) (st_e (by decide) (by assumption)) | exact st_e (by omega) (st_e (by omega) (by assumption))) (And.intro rfl (ab_inv_of (q_sign h59 hf hl Q1 44 (by omega)) (by first | decide | omega) (by omega) (by omega) ?_)))
  intro z υ2 hpost
  obtain ⟨rfl, Q2⟩ := hpost
  have L2 := Q2.le
  have A2 := sg_ad (x := 44) (c := 0) (f := f) (fun a e => ⟨L1 a e, (A1 a e).1⟩)
  generalize sgnT f len s1 44 = s2 at Q2 L2 A2 e1 e2
  obtain ⟨d0, d57⟩ := Q2.c57
  refine Exists.intro _ (And.intro (by first | assumption | exact st_s | exact st_e (by decide) (by assumption) | exact st_e (by omega) (by assumption) | exact st_e (by decide) st_s | exact st_e (by omega) st_s | exact st_e (by decide) (st_e (by decide) (by assumption)) | exact st_e (by omega) (st_e (by omega) (by assumption))) (And.intro rfl (ab_inv_of (hQ υ2 s2 _ Q2 (fun a e => by have := (A2 a e).2; omega)) (by first | decide | omega) (by omega) (by omega) ?_)))
  intro z υ3 hpost
  obtain ⟨rfl, Q3⟩ := hpost
  have L3 := Q3.le
  have A3 := pq_add (f := f) (K := K) (cc := cc) (c := 1) A2 m
  generalize (pqT f len K cc m s2).1 = s3 at Q3 L3 A3 e1 e2
  generalize (pqT f len K cc m s2).2.2 = N2 at Q3 A3 e1 e2
  obtain ⟨d0, d57⟩ := Q3.c57
  have hlen : isR s3 = true → (AL ++ N1 ++ N2).length < 200 := fun h => by
    cases s3 with
    | inl e => exact absurd h Bool.false_ne_true
    | inr y =>
      have := L3 y rfl
      have := (A3 y rfl).1
      omega
  refine Exists.intro _ (And.intro (by first | assumption | exact st_s | exact st_e (by decide) (by assumption) | exact st_e (by omega) (by assumption) | exact st_e (by decide) st_s | exact st_e (by omega) st_s | exact st_e (by decide) (st_e (by decide) (by assumption)) | exact st_e (by omega) (st_e (by omega) (by assumption))) (And.intro rfl (ab_inv_of (q_addsAct h79 Q3 (i, 2, 0, 0) i 2 0 0 (fun h => ⟨rfl, rfl, rfl, rfl, hlen h⟩)) (by first | decide | omega) (by omega) (by omega) ?_)))
  intro z υ4 hpost
  obtain ⟨rfl, Q4⟩ := hpost
  
  refine ⟨rfl, ?_⟩
  rw [e1, e2]
  cases s3 with
  | inl e => exact Q4.flt
  | inr a =>
    have e3 : jnL f len (pqT f len K cc m) i 2 3 2 (.inr a) = (.inr a, [], [(i, 2, 0, 0)]) := by
      rw [jnL_s, if_neg (fun h => absurd h.1 (by omega)), if_neg (fun h => absurd h.1 (by omega))]
    rw [e3, ← List.append_assoc, ← List.append_assoc]
    exact Q4
set_option maxRecDepth 100000 in
set_option maxHeartbeats 1000000 in
theorem q_readsMany (h59 : σ0.2 59 = some (bya f)) (h79 : σ0.2 79 = some (rfs 80 200)) (hf : byR f) (hl : len ≤ 200) (d m : Nat) (hd : 3 ≤ d) (hQ : HQ σ0 f len u K cc d m o) (i : Nat) (hi : 7 ≤ i ∧ i ≤ 8) (h : QM σ0 f len u τ s o AL) (hle : ∀ a, s = .inr a → AL.length ≤ a) : ab_call (d + 1) 0 0 yX10_readsMany [rf 57, .inl i] τ (fun z σ' => z = .inl none ∧ QM σ0 f len u σ' (jnT f len (pqT f len K cc m) i s).1 o (AL ++ (jnT f len (pqT f len K cc m) i s).2.2)) := by
  obtain ⟨e1, e2⟩ := jnT_eq (f := f) (pqT f len K cc m) (pq_ok m) i 4 (by rw [if_pos (by omega)]) s
  have L0 := h.le
  obtain ⟨t0, c57⟩ := h.c57
  refine eX10_readsMany rfl (fun At hA => ?_)
  have fin : ∀ (υ : ab_H) (s9 : S2) (NL : List N4) (k : Nat), QM σ0 f len u υ s9 o NL → (∀ a, s9 = .inr a → NL.length < 200) → s9 = (jnT f len (pqT f len K cc m) i s).1 → (isR s9 = true → NL ++ [(i, k, 0, 0)] = AL ++ (jnT f len (pqT f len K cc m) i s).2.2) → At 6 [some (rf 57), some (.inl i), some (.inl k)] [] υ 0 0 := fun υ s9 NL k hQ9 hlen hs hN => by
    obtain ⟨t0, c57⟩ := hQ9.c57
    have hlr : isR s9 = true → NL.length < 200 := fun h => by
      cases s9 with
      | inl e => exact absurd h Bool.false_ne_true
      | inr y => exact hlen y rfl
    refine hA 6 _ rfl _ _ _ _ _ ?_
    refine Exists.intro _ (And.intro (by first | assumption | exact st_s | exact st_e (by decide) (by assumption) | exact st_e (by omega) (by assumption) | exact st_e (by decide) st_s | exact st_e (by omega) st_s | exact st_e (by decide) (st_e (by decide) (by assumption)) | exact st_e (by omega) (st_e (by omega) (by assumption))) (And.intro rfl (ab_inv_of (q_addsAct h79 hQ9 (i, k, 0, 0) i k 0 0 (fun h => ⟨rfl, rfl, rfl, rfl, hlr h⟩)) (by first | decide | omega) (by omega) (by omega) ?_)))
    intro z υ1 hpost
    obtain ⟨rfl, Q4⟩ := hpost
    
    refine ⟨rfl, ?_⟩
    rw [← hs]
    cases s9 with
    | inl e => exact Q4.flt
    | inr y => rw [← hN rfl]; exact Q4
  have finF : ∀ (υ : ab_H) (e : Int × Int) (NL : List N4) (k : Nat), QM σ0 f len u υ (.inl e) o NL → (.inl e : S2) = (jnT f len (pqT f len K cc m) i s).1 → At 1 [some (rf 57), some (.inl i), some (.inl k)] [] υ 0 0 := fun υ e NL k hQ9 hs => by
    obtain ⟨t0, c57⟩ := hQ9.c57
    have hfi := q_mfine hQ9
    have k6 := fin υ _ NL k hQ9 (fun a e => by cases e) hs (fun h => absurd h Bool.false_ne_true)
    refine hA 1 _ rfl _ _ _ _ _ ?_
    refine Exists.intro _ (And.intro (by first | assumption | exact st_s | exact st_e (by decide) (by assumption) | exact st_e (by omega) (by assumption) | exact st_e (by decide) st_s | exact st_e (by omega) st_s | exact st_e (by decide) (st_e (by decide) (by assumption)) | exact st_e (by omega) (st_e (by omega) (by assumption))) (And.intro rfl (ab_inv_ev hfi (by first | decide | omega) (by first | exact Nat.le_refl _ | omega) (by first | exact Nat.le_refl _ | omega) ?_)))
    refine And.intro (by first | assumption | exact b2i_R _ | exact rR (by omega) (by omega) | exact rR (by simp only [Int.toNat_natCast]; omega) (by simp only [Int.toNat_natCast]; omega)) (And.intro (fun q => ?_) (fun q => ?_))
    · exact k6
    · exact absurd rfl q
  have loop : ∀ (n k : Nat) (υ : ab_H) (s9 : S2) (NL : List N4), k + n = 5 → 2 ≤ k → k ≤ 4 → QM σ0 f len u υ s9 o NL → (∀ a, s9 = .inr a → NL.length + 1 ≤ a) → (jnL f len (pqT f len K cc m) i 4 n k s9).1 = (jnT f len (pqT f len K cc m) i s).1 → (isR (jnT f len (pqT f len K cc m) i s).1 = true → NL ++ (jnL f len (pqT f len K cc m) i 4 n k s9).2.2 = AL ++ (jnT f len (pqT f len K cc m) i s).2.2) → At 1 [some (rf 57), some (.inl i), some (.inl k)] [] υ 0 0 := by
    intro n
    induction n with
    | zero => intro k υ s9 NL h1 h2 h3; omega
    | succ n ih =>
      intro k υ s9 NL h1 h2 h3 hQ9 hle9 hj1 hj2
      cases s9 with
      | inl e => exact finF υ e NL k hQ9 hj1
      | inr a =>
        have ha := hQ9.le a rfl
        have hal := hle9 a rfl
        obtain ⟨t0, c57⟩ := hQ9.c57
        have hfi := q_mfine hQ9
        obtain ⟨t, υ2, ht4, hhe, hT⟩ := q_here h59 hf hl hQ9
        have t57 := hT.h57
        have hbR := byt_R hf len (skB f len a)
        refine hA 1 _ rfl _ _ _ _ _ ?_
        refine Exists.intro _ (And.intro (by first | assumption | exact st_s | exact st_e (by decide) (by assumption) | exact st_e (by omega) (by assumption) | exact st_e (by decide) st_s | exact st_e (by omega) st_s | exact st_e (by decide) (st_e (by decide) (by assumption)) | exact st_e (by omega) (st_e (by omega) (by assumption))) (And.intro rfl (ab_inv_ev hfi (by first | decide | omega) (by first | exact Nat.le_refl _ | omega) (by first | exact Nat.le_refl _ | omega) ?_)))
        refine And.intro (by first | assumption | exact b2i_R _ | exact rR (by omega) (by omega) | exact rR (by simp only [Int.toNat_natCast]; omega) (by simp only [Int.toNat_natCast]; omega)) (And.intro (fun q => ?_) (fun q => ?_))
        · exact absurd (show (1 : Int) = 0 from q) (by decide)
        · refine hA 2 _ rfl _ _ _ _ _ ?_
          refine Exists.intro _ (And.intro (by first | assumption | exact st_s | exact st_e (by decide) (by assumption) | exact st_e (by omega) (by assumption) | exact st_e (by decide) st_s | exact st_e (by omega) st_s | exact st_e (by decide) (st_e (by decide) (by assumption)) | exact st_e (by omega) (st_e (by omega) (by assumption))) (And.intro rfl (ab_inv_ev hhe (by first | decide | omega) (by first | exact Nat.le_refl _ | omega) (by first | exact Nat.le_refl _ | omega) ?_)))
          refine And.intro (And.intro (by first | assumption | exact b2i_R _ | exact rR (by omega) (by omega) | exact rR (by simp only [Int.toNat_natCast]; omega) (by simp only [Int.toNat_natCast]; omega)) (by first | assumption | exact b2i_R _ | exact rR (by omega) (by omega) | exact rR (by simp only [Int.toNat_natCast]; omega) (by simp only [Int.toNat_natCast]; omega))) (And.intro (fun q => ?_) (fun q => ?_))
          · have hq : byt f len (skB f len a) ≠ 44 := by assumption
            have e9 : jnL f len (pqT f len K cc m) i 4 (n + 1) k (.inr a) = (.inr a, [], [(i, k, 0, 0)]) := by
              rw [jnL_s, if_neg (fun h => h.2.elim (by omega) hq), if_neg (fun h => hq h.2)]
            rw [e9] at hj1 hj2
            exact fin υ2 (.inr a) NL k hT.qm (fun y e => by cases e; omega) hj1 (fun _ => hj2 (by rw [← hj1]; rfl))
          · have hq : byt f len (skB f len a) = 44 := by assumption
            have hbl : skB f len a < len := by
              rcases Nat.lt_or_ge (skB f len a) len with h | h
              · exact h
              · rw [byt_ge h] at hq; omega
            refine hA 3 _ rfl _ _ _ _ _ ?_
            refine And.intro (And.intro (by first | assumption | exact b2i_R _ | exact rR (by omega) (by omega) | exact rR (by simp only [Int.toNat_natCast]; omega) (by simp only [Int.toNat_natCast]; omega)) (by first | assumption | exact b2i_R _ | exact rR (by omega) (by omega) | exact rR (by simp only [Int.toNat_natCast]; omega) (by simp only [Int.toNat_natCast]; omega))) (And.intro (fun q => ?_) (fun q => ?_))
            · have hk : k < 4 := by omega
              have e9 : jnL f len (pqT f len K cc m) i 4 (n + 1) k (.inr a) = ((jnL f len (pqT f len K cc m) i 4 n (k + 1) (pqT f len K cc m (sgnT f len (.inr a) 44)).1).1, (pqT f len K cc m (sgnT f len (.inr a) 44)).2.1 ++ (i, 0, 0) :: (jnL f len (pqT f len K cc m) i 4 n (k + 1) (pqT f len K cc m (sgnT f len (.inr a) 44)).1).2.1, (pqT f len K cc m (sgnT f len (.inr a) 44)).2.2 ++ (jnL f len (pqT f len K cc m) i 4 n (k + 1) (pqT f len K cc m (sgnT f len (.inr a) 44)).1).2.2) := if_pos ⟨hk, Or.inr hq⟩
              rw [e9] at hj1 hj2
              have Q2 := q_step hT ht4 44 (by decide) hq
              have A2 := sg_ad (x := 44) (c := 1) (f := f) (len := len) (s := .inr a) (AL := NL) (fun a' e => by cases e; exact ⟨ha, by omega⟩)
              have L2 := Q2.le
              generalize sgnT f len (.inr a) 44 = s2 at Q2 A2 L2 hj1 hj2
              refine hA 5 _ rfl _ _ _ _ _ ?_
              refine Exists.intro _ (And.intro (t57) ?_)
              refine Exists.intro _ (And.intro (t57) ?_)
              rw [m10_s4]
              generalize ab_st υ2 57 (m10 (ab_up t 4 (t 4 + 1))) = υ3 at Q2
              obtain ⟨t3, c3⟩ := Q2.c57
              have hQ2 := hQ υ3 s2 NL Q2 (fun a e => by have := (A2 a e).2; omega)
              have A3 := pq_add (f := f) (K := K) (cc := cc) (c := 2) A2 m
              generalize (pqT f len K cc m s2).1 = s3 at A3 hj1 hj2 hQ2
              generalize (pqT f len K cc m s2).2.2 = N3 at A3 hj1 hj2 hQ2
              refine Exists.intro _ (And.intro c3 (And.intro rfl (ab_inv_of hQ2 (by first | decide | omega) (by omega) (by omega) ?_)))
              intro z υ4 hpost
              obtain ⟨rfl, Q4⟩ := hpost
              have ihk := ih (k + 1) υ4 s3 (NL ++ N3) (by omega) (by omega) (by omega) Q4 (fun y hy => by have := (A3 y hy).1; omega) hj1 (fun h => by rw [List.append_assoc]; exact hj2 h)
              
              exact ihk
            · have hk : k = 4 := by omega
              subst hk
              have e9 : jnL f len (pqT f len K cc m) i 4 (n + 1) 4 (.inr a) = (.inl (3, (skB f len a : Nat)), [], []) := by
                rw [jnL_s, if_neg (fun h => absurd h.1 (by omega)), if_pos ⟨rfl, hq⟩]
              rw [e9] at hj1
              obtain ⟨hwr, w4, hT2⟩ := q_wrong hT 3 (by decide) (rR (by omega) (by omega)) (skB f len a)
              rw [← ht4] at hwr w4 hT2 hj1
              have k5 : At 5 [some (rf 57), some (.inl i), some (.inl (4 : Nat))] [] (ab_st υ2 57 (m10 (wrT t 3 (t 4)))) 0 0 := by
                have tw := hT2.h57
                have Q2 := q_stepF hT2 (w4.trans ht4) hbl
                refine hA 5 _ rfl _ _ _ _ _ ?_
                refine Exists.intro _ (And.intro (tw) ?_)
                refine Exists.intro _ (And.intro (tw) ?_)
                rw [m10_s4]
                generalize ab_st (ab_st υ2 57 (m10 (wrT t 3 (t 4)))) 57 (m10 (ab_up (wrT t 3 (t 4)) 4 (wrT t 3 (t 4) 4 + 1))) = υ3 at Q2
                obtain ⟨t3, c3⟩ := Q2.c57
                have hQ2 := hQ υ3 _ NL Q2 (fun a e => by cases e)
                rw [(pq_ok m).1] at hQ2
                refine Exists.intro _ (And.intro c3 (And.intro rfl (ab_inv_of hQ2 (by first | decide | omega) (by omega) (by omega) ?_)))
                intro z υ4 hpost
                obtain ⟨rfl, Q4⟩ := hpost
                have k6 := finF υ4 _ _ 5 Q4 hj1
                
                exact k6
              refine hA 4 _ rfl _ _ _ _ _ ?_
              refine Exists.intro _ (And.intro (by first | assumption | exact st_s | exact st_e (by decide) (by assumption) | exact st_e (by omega) (by assumption) | exact st_e (by decide) st_s | exact st_e (by omega) st_s | exact st_e (by decide) (st_e (by decide) (by assumption)) | exact st_e (by omega) (st_e (by omega) (by assumption))) ?_)
              refine Exists.intro _ (And.intro (by first | assumption | exact st_s | exact st_e (by decide) (by assumption) | exact st_e (by omega) (by assumption) | exact st_e (by decide) st_s | exact st_e (by omega) st_s | exact st_e (by decide) (st_e (by decide) (by assumption)) | exact st_e (by omega) (st_e (by omega) (by assumption))) (And.intro rfl (ab_inv_ev hwr (by first | decide | omega) (by first | exact Nat.le_refl _ | omega) (by first | exact Nat.le_refl _ | omega) ?_)))
              exact k5
  refine hA 0 _ rfl _ _ _ _ _ ?_
  refine Exists.intro _ (And.intro (by first | assumption | exact st_s | exact st_e (by decide) (by assumption) | exact st_e (by omega) (by assumption) | exact st_e (by decide) st_s | exact st_e (by omega) st_s | exact st_e (by decide) (st_e (by decide) (by assumption)) | exact st_e (by omega) (st_e (by omega) (by assumption))) (And.intro rfl (ab_inv_of (hQ τ s AL h hle) (by first | decide | omega) (by omega) (by omega) ?_)))
  intro z υ1 hpost
  obtain ⟨rfl, Q1⟩ := hpost
  have L1 := Q1.le
  have A1 := pq_add (f := f) (K := K) (cc := cc) (c := 0) (fun a e => ⟨L0 a e, hle a e⟩) m
  generalize (pqT f len K cc m s).1 = s1 at Q1 L1 A1 e1 e2
  generalize (pqT f len K cc m s).2.2 = N1 at Q1 A1 e2
  obtain ⟨d0, d57⟩ := Q1.c57
  refine Exists.intro _ (And.intro (by first | assumption | exact st_s | exact st_e (by decide) (by assumption) | exact st_e (by omega) (by assumption) | exact st_e (by decide) st_s | exact st_e (by omega) st_s | exact st_e (by decide) (st_e (by decide) (by assumption)) | exact st_e (by omega) (st_e (by omega) (by assumption))) (And.intro rfl (ab_inv_of (q_sign h59 hf hl Q1 44 (by omega)) (by first | decide | omega) (by omega) (by omega) ?_)))
  intro z υ2 hpost
  obtain ⟨rfl, Q2⟩ := hpost
  have L2 := Q2.le
  have A2 := sg_ad (x := 44) (c := 0) (f := f) (fun a e => ⟨L1 a e, (A1 a e).1⟩)
  generalize sgnT f len s1 44 = s2 at Q2 L2 A2 e1 e2
  obtain ⟨d0, d57⟩ := Q2.c57
  refine Exists.intro _ (And.intro (by first | assumption | exact st_s | exact st_e (by decide) (by assumption) | exact st_e (by omega) (by assumption) | exact st_e (by decide) st_s | exact st_e (by omega) st_s | exact st_e (by decide) (st_e (by decide) (by assumption)) | exact st_e (by omega) (st_e (by omega) (by assumption))) (And.intro rfl (ab_inv_of (hQ υ2 s2 _ Q2 (fun a e => by have := (A2 a e).2; omega)) (by first | decide | omega) (by omega) (by omega) ?_)))
  intro z υ3 hpost
  obtain ⟨rfl, Q3⟩ := hpost
  have A3 := pq_add (f := f) (K := K) (cc := cc) (c := 1) A2 m
  have l0 := loop 3 2 υ3 _ _ rfl (by omega) (by omega) Q3 (fun y hy => (A3 y hy).1) e1.symm (fun _ => by rw [e2, List.append_assoc, List.append_assoc])
  
  exact l0
end Mques2
