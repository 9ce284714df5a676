-- ===== the reading of questions: the class's methods =====
def qA (a : Nat) : Prop := a = 1 ∨ (29 ≤ a ∧ a ≤ 32)
/-- what the reading finds and leaves -/
def QX (τ : ab_H) (f : Nat → Int) (cc rows : Nat) (K : Nat → CT) (va : Nat → Nat → Nat) (ad : Nat → Nat) : Prop := τ.2 2 = some (bya f) ∧ τ.2 3 = some (tbc cc rows) ∧ IsCs τ cc rows K va ad
theorem QX.fr {τ υ : ab_H} {f : Nat → Int} {cc rows : Nat} {K : Nat → CT} {va : Nat → Nat → Nat} {ad : Nat → Nat} {A : Nat → Prop} (h : QX τ f cc rows K va ad) (hf : fr A τ υ) (hA : ∀ a, A a → qA a) : QX υ f cc rows K va ad := by
  have n : ∀ a, a ≠ 1 → (a < 29 ∨ 32 < a) → ¬ A a := fun a h1 h2 h3 => by
    have := hA a h3
    unfold qA at this
    omega
  exact ⟨(hf.2 2 (n 2 (by decide) (by omega))).trans h.1, (hf.2 3 (n 3 (by decide) (by omega))).trans h.2.1, h.2.2.fr hf (n 4 (by decide) (by omega)) (fun a ha => n a (by omega) (by omega))⟩
theorem tA_q : ∀ a, tA a → qA a := fun a h => Or.inl h
theorem nA_q : ∀ a, nA a → qA a := fun a h => Or.inr h
theorem tA_n : ∀ a, 29 ≤ a → a ≤ 32 → ¬ tA a := fun a h1 h2 h3 => by unfold tA at h3; omega
theorem nA_1 : ¬ nA 1 := by unfold nA; omega
section Read
variable {f : Nat → Int} {len : Nat} {n : Int} {cc rows : Nat} {K : Nat → CT} {va : Nat → Nat → Nat} {ad : Nat → Nat}
theorem NS.c29 {τ : ab_H} {b : Bool} {NL : List N3} (h : NS τ b NL) : ∃ L : Nat, τ.2 29 = some (qsc L) := by
  obtain ⟨L, cl, co, nu, h1, h2, h3⟩ := h
  exact ⟨L, h2⟩
set_option maxRecDepth 100000 in
set_option maxHeartbeats 1000000 in
theorem c_readComparison (hf : byR f) (hl : len ≤ 200) (τ0 : ab_H) (X0 : QX τ0 f cc rows K va ad) (i a : Nat) (hi : i ≤ 6) (NL : List N3) (T0 : TT τ0 n f len (.inr a)) (N0 : NS τ0 true NL) (hb : NL.length < a) : ab_call 4 0 0 yX5_readComparison [rf 29, .inl i] τ0 (fun r τ' => r = .inl none ∧ fr qA τ0 τ' ∧ TT τ' n f len (cmpT f len K cc i a).1 ∧ NS τ' (isR (cmpT f len K cc i a).1) (NL ++ (cmpT f len K cc i a).2.1)) := by
  have hcc := X0.2.2.1
  have ha := T0.1
  have F0 := fr_rf qA τ0
  let c := numT f len (.inr a) 0 ((cc : Int) - 1)
  let nn := numT f len (sgnT f len c.2 44) 0 999
  have hcb : ∀ b, c.2 = .inr b → b ≤ len ∧ 0 ≤ c.1 ∧ c.1 ≤ (cc : Int) - 1 := fun b h => by
    obtain ⟨x, hx, q1, q2, q3, q4⟩ := numT_ok h (fun y hy => by cases hy; exact ha)
    exact ⟨q2, q3, q4⟩
  have hsb : ∀ b, sgnT f len c.2 44 = .inr b → b ≤ len ∧ 0 ≤ c.1 ∧ c.1 ≤ (cc : Int) - 1 := fun b h => by
    obtain ⟨x, hx, q1, q2⟩ := sgnT_ok h (fun y hy => (hcb y hy).1)
    have := hcb x hx
    exact ⟨q2, this.2⟩
  have hnb : ∀ b, nn.2 = .inr b → b ≤ len ∧ (0 ≤ c.1 ∧ c.1 ≤ (cc : Int) - 1) ∧ 0 ≤ nn.1 ∧ nn.1 ≤ 999 := fun b h => by
    obtain ⟨x, hx, q1, q2, q3, q4⟩ := numT_ok h (fun y hy => (hsb y hy).1)
    have := hsb x hx
    exact ⟨q2, this.2, q3, q4⟩
  refine eX5_readComparison rfl (fun At hA => ?_)
  have k2 : ∀ (τ : ab_H) (m : Int) (s : S2), fr qA τ0 τ → QX τ f cc rows K va ad → TT τ n f len s → NS τ true NL → (cmpT f len K cc i a).1 = s → (∀ a', s = .inr a' → (0 ≤ c.1 ∧ c.1 ≤ (cc : Int) - 1) ∧ (0 ≤ nn.1 ∧ nn.1 ≤ 999) ∧ (i = 6 → (0 ≤ m ∧ m ≤ 999) ∧ (cmpT f len K cc i a).2.1 = btwN K c.1.toNat nn.1.toNat m.toNat) ∧ (i ≠ 6 → (cmpT f len K cc i a).2.1 = cmpN K i c.1.toNat nn.1.toNat)) → At 2 [some (rf 29), some (.inl i), some (.inl c.1), some (.inl nn.1), some (.inl m)] [] τ 0 0 := by
    intro τ m s hF hX hT hN hs hv
    obtain ⟨L, l29⟩ := hN.c29
    obtain ⟨_, _, _, _, -, -, t1⟩ := hT.cell
    refine hA 2 _ rfl _ _ _ _ _ ?_
    refine Exists.intro _ (And.intro (by first | assumption | exact st_s | exact st_e (by decide) (by assumption) | exact st_e (by omega) (by assumption) | exact st_e (by decide) st_s | exact st_e (by omega) st_s | exact st_e (by decide) (st_e (by decide) (by assumption)) | exact st_e (by omega) (st_e (by omega) (by assumption))) ?_)
    refine Exists.intro _ (And.intro (by first | assumption | exact st_s | exact st_e (by decide) (by assumption) | exact st_e (by omega) (by assumption) | exact st_e (by decide) st_s | exact st_e (by omega) st_s | exact st_e (by decide) (st_e (by decide) (by assumption)) | exact st_e (by omega) (st_e (by omega) (by assumption))) (And.intro rfl (ab_inv_ev (q_sound hT) (by first | decide | omega) (by first | exact Nat.le_refl _ | omega) (by first | exact Nat.le_refl _ | omega) ?_)))
    refine And.intro (by first | assumption | exact b2i_R _ | exact rR (by omega) (by omega) | exact rR (by simp only [Int.toNat_natCast]; omega) (by simp only [Int.toNat_natCast]; omega)) (And.intro (fun q => ?_) (fun q => ?_))
    · cases s with
      | inl e => exact absurd rfl q
      | inr a' =>
        obtain ⟨v1, v2, v3, v4⟩ := hv a' rfl
        have ha' := cmpT_ok ha hs
        have c1 : ((c.1.toNat : Nat) : Int) = c.1 := by omega
        have c2 : ((nn.1.toNat : Nat) : Int) = nn.1 := by omega
        refine hA 4 _ rfl _ _ _ _ _ ?_
        refine And.intro (And.intro (by first | assumption | exact b2i_R _ | exact rR (by omega) (by omega) | exact rR (by simp only [Int.toNat_natCast]; omega) (by simp only [Int.toNat_natCast]; omega)) (by first | assumption | exact b2i_R _ | exact rR (by omega) (by omega) | exact rR (by simp only [Int.toNat_natCast]; omega) (by simp only [Int.toNat_natCast]; omega))) (And.intro (fun q => ?_) (fun q => ?_))
        · have hcall := c_noteComparison hX.2.1 hX.2.2 hN (by omega) i c.1.toNat (by omega) (by omega) nn.1.toNat (by omega)
          rw [c1, c2] at hcall
          refine hA 6 _ rfl _ _ _ _ _ ?_
          refine Exists.intro _ (And.intro (by first | assumption | exact st_s | exact st_e (by decide) (by assumption) | exact st_e (by omega) (by assumption) | exact st_e (by decide) st_s | exact st_e (by omega) st_s | exact st_e (by decide) (st_e (by decide) (by assumption)) | exact st_e (by omega) (st_e (by omega) (by assumption))) (And.intro rfl (ab_inv_of hcall (by first | decide | omega) (by omega) (by omega) ?_)))
          intro r υ hpost
          obtain ⟨rfl, g1, N9⟩ := hpost
          refine hA 7 _ rfl _ _ _ _ _ ?_
          refine ⟨rfl, hF.tr (g1.mono nA_q), ?_, ?_⟩
          · rw [hs]; exact hT.fr g1 nA_1
          · rw [hs, v4 (by omega)]; exact N9
        · obtain ⟨v5, v6⟩ := v3 (by omega)
          have c3 : ((m.toNat : Nat) : Int) = m := by omega
          have ha6 := ha'.2.2 (by omega)
          have hcall := c_noteBetween hX.2.1 hX.2.2 hN (by omega) c.1.toNat (by omega) nn.1.toNat m.toNat (by omega) (by omega)
          rw [c1, c2, c3] at hcall
          refine hA 5 _ rfl _ _ _ _ _ ?_
          refine Exists.intro _ (And.intro (by first | assumption | exact st_s | exact st_e (by decide) (by assumption) | exact st_e (by omega) (by assumption) | exact st_e (by decide) st_s | exact st_e (by omega) st_s | exact st_e (by decide) (st_e (by decide) (by assumption)) | exact st_e (by omega) (st_e (by omega) (by assumption))) (And.intro rfl (ab_inv_of hcall (by first | decide | omega) (by omega) (by omega) ?_)))
          intro r υ hpost
          obtain ⟨rfl, g1, N9⟩ := hpost
          refine hA 7 _ rfl _ _ _ _ _ ?_
          refine ⟨rfl, hF.tr (g1.mono nA_q), ?_, ?_⟩
          · rw [hs]; exact hT.fr g1 nA_1
          · rw [hs, v6]; exact N9
    · cases s with
      | inr a' => exact absurd (show (1 : Int) = 0 from q) (by decide)
      | inl e =>
        refine hA 3 _ rfl _ _ _ _ _ ?_
        refine ⟨rfl, hF, ?_, ?_⟩
        · rw [hs]; exact hT
        · rw [hs]; exact hN.lo (fun h => by cases h) (fun h => by cases h)
  obtain ⟨_, l29⟩ := N0.c29
  obtain ⟨_, _, _, _, -, -, t1⟩ := T0.cell
  have x3 := X0.2.1
  refine hA 0 _ rfl _ _ _ _ _ ?_
  refine Exists.intro _ (And.intro (by first | assumption | exact st_s | exact st_e (by decide) (by assumption) | exact st_e (by omega) (by assumption) | exact st_e (by decide) st_s | exact st_e (by omega) st_s | exact st_e (by decide) (st_e (by decide) (by assumption)) | exact st_e (by omega) (st_e (by omega) (by assumption))) ?_)
  refine Exists.intro _ (And.intro (by first | assumption | exact st_s | exact st_e (by decide) (by assumption) | exact st_e (by omega) (by assumption) | exact st_e (by decide) st_s | exact st_e (by omega) st_s | exact st_e (by decide) (st_e (by decide) (by assumption)) | exact st_e (by omega) (st_e (by omega) (by assumption))) ?_)
  refine Exists.intro _ (And.intro (by first | assumption | exact st_s | exact st_e (by decide) (by assumption) | exact st_e (by omega) (by assumption) | exact st_e (by decide) st_s | exact st_e (by omega) st_s | exact st_e (by decide) (st_e (by decide) (by assumption)) | exact st_e (by omega) (st_e (by omega) (by assumption))) ?_)
  refine Exists.intro _ (And.intro (by first | assumption | exact st_s | exact st_e (by decide) (by assumption) | exact st_e (by omega) (by assumption) | exact st_e (by decide) st_s | exact st_e (by omega) st_s | exact st_e (by decide) (st_e (by decide) (by assumption)) | exact st_e (by omega) (st_e (by omega) (by assumption))) (And.intro rfl (ab_inv_of (q_num T0 X0.1 hf (by omega) 0 ((cc : Int) - 1) (rR (by omega) (by omega)) (rR (by omega) (by omega))) (by first | decide | omega) (by omega) (by omega) ?_)))
  intro r τ1 hpost
  obtain ⟨rfl, f1, T1⟩ := hpost
  have X1 := X0.fr f1 tA_q
  have N1 := N0.fr f1 tA_n
  have F1 := F0.tr (f1.mono tA_q)
  obtain ⟨_, l29⟩ := N1.c29
  obtain ⟨_, _, _, _, -, -, t1⟩ := T1.cell
  have x3 := X1.2.1
  refine Exists.intro _ (And.intro (by first | assumption | exact st_s | exact st_e (by decide) (by assumption) | exact st_e (by omega) (by assumption) | exact st_e (by decide) st_s | exact st_e (by omega) st_s | exact st_e (by decide) (st_e (by decide) (by assumption)) | exact st_e (by omega) (st_e (by omega) (by assumption))) ?_)
  refine Exists.intro _ (And.intro (by first | assumption | exact st_s | exact st_e (by decide) (by assumption) | exact st_e (by omega) (by assumption) | exact st_e (by decide) st_s | exact st_e (by omega) st_s | exact st_e (by decide) (st_e (by decide) (by assumption)) | exact st_e (by omega) (st_e (by omega) (by assumption))) (And.intro rfl (ab_inv_of (q_need T1 X1.1 hf (by omega) 44 (by omega)) (by first | decide | omega) (by omega) (by omega) ?_)))
  intro r τ2 hpost
  obtain ⟨rfl, f2, T2⟩ := hpost
  have X2 := X1.fr f2 tA_q
  have N2 := N1.fr f2 tA_n
  have F2 := F1.tr (f2.mono tA_q)
  obtain ⟨_, l29⟩ := N2.c29
  obtain ⟨_, _, _, _, -, -, t1⟩ := T2.cell
  have x3 := X2.2.1
  refine Exists.intro _ (And.intro (by first | assumption | exact st_s | exact st_e (by decide) (by assumption) | exact st_e (by omega) (by assumption) | exact st_e (by decide) st_s | exact st_e (by omega) st_s | exact st_e (by decide) (st_e (by decide) (by assumption)) | exact st_e (by omega) (st_e (by omega) (by assumption))) ?_)
  refine Exists.intro _ (And.intro (by first | assumption | exact st_s | exact st_e (by decide) (by assumption) | exact st_e (by omega) (by assumption) | exact st_e (by decide) st_s | exact st_e (by omega) st_s | exact st_e (by decide) (st_e (by decide) (by assumption)) | exact st_e (by omega) (st_e (by omega) (by assumption))) (And.intro rfl (ab_inv_of (q_num T2 X2.1 hf (by omega) 0 999 (rR (by omega) (by omega)) (rR (by omega) (by omega))) (by first | decide | omega) (by omega) (by omega) ?_)))
  intro r τ3 hpost
  obtain ⟨rfl, f3, T3⟩ := hpost
  have X3 := X2.fr f3 tA_q
  have N3 := N2.fr f3 tA_n
  have F3 := F2.tr (f3.mono tA_q)
  refine And.intro (And.intro (by first | assumption | exact b2i_R _ | exact rR (by omega) (by omega) | exact rR (by simp only [Int.toNat_natCast]; omega) (by simp only [Int.toNat_natCast]; omega)) (by first | assumption | exact b2i_R _ | exact rR (by omega) (by omega) | exact rR (by simp only [Int.toNat_natCast]; omega) (by simp only [Int.toNat_natCast]; omega))) (And.intro (fun q => ?_) (fun q => ?_))
  · have e : cmpT f len K cc i a = (nn.2, cmpN K i c.1.toNat nn.1.toNat, [(i, c.1.toNat, nn.1.toNat, 0)]) := if_neg (by omega)
    exact k2 τ3 nn.1 nn.2 F3 X3 T3 N3 (by rw [e]) (fun a' h => by
      have := hnb a' h
      exact ⟨this.2.1, this.2.2, fun h6 => by omega, fun _ => by rw [e]⟩)
  · obtain ⟨_, l29⟩ := N3.c29
    obtain ⟨_, _, _, _, -, -, t1⟩ := T3.cell
    have x3 := X3.2.1
    refine hA 1 _ rfl _ _ _ _ _ ?_
    refine Exists.intro _ (And.intro (by first | assumption | exact st_s | exact st_e (by decide) (by assumption) | exact st_e (by omega) (by assumption) | exact st_e (by decide) st_s | exact st_e (by omega) st_s | exact st_e (by decide) (st_e (by decide) (by assumption)) | exact st_e (by omega) (st_e (by omega) (by assumption))) ?_)
    refine Exists.intro _ (And.intro (by first | assumption | exact st_s | exact st_e (by decide) (by assumption) | exact st_e (by omega) (by assumption) | exact st_e (by decide) st_s | exact st_e (by omega) st_s | exact st_e (by decide) (st_e (by decide) (by assumption)) | exact st_e (by omega) (st_e (by omega) (by assumption))) (And.intro rfl (ab_inv_of (q_need T3 X3.1 hf (by omega) 44 (by omega)) (by first | decide | omega) (by omega) (by omega) ?_)))
    intro r τ4 hpost
    obtain ⟨rfl, f4, T4⟩ := hpost
    have X4 := X3.fr f4 tA_q
    have N4 := N3.fr f4 tA_n
    have F4 := F3.tr (f4.mono tA_q)
    obtain ⟨_, l29⟩ := N4.c29
    obtain ⟨_, _, _, _, -, -, t1⟩ := T4.cell
    have x3 := X4.2.1
    refine Exists.intro _ (And.intro (by first | assumption | exact st_s | exact st_e (by decide) (by assumption) | exact st_e (by omega) (by assumption) | exact st_e (by decide) st_s | exact st_e (by omega) st_s | exact st_e (by decide) (st_e (by decide) (by assumption)) | exact st_e (by omega) (st_e (by omega) (by assumption))) ?_)
    refine Exists.intro _ (And.intro (by first | assumption | exact st_s | exact st_e (by decide) (by assumption) | exact st_e (by omega) (by assumption) | exact st_e (by decide) st_s | exact st_e (by omega) st_s | exact st_e (by decide) (st_e (by decide) (by assumption)) | exact st_e (by omega) (st_e (by omega) (by assumption))) (And.intro rfl (ab_inv_of (q_num T4 X4.1 hf (by omega) 0 999 (rR (by omega) (by omega)) (rR (by omega) (by omega))) (by first | decide | omega) (by omega) (by omega) ?_)))
    intro r τ5 hpost
    obtain ⟨rfl, f5, T5⟩ := hpost
    have X5 := X4.fr f5 tA_q
    have N5 := N4.fr f5 tA_n
    have F5 := F4.tr (f5.mono tA_q)
    have e : cmpT f len K cc i a = ((numT f len (sgnT f len nn.2 44) 0 999).2, btwN K c.1.toNat nn.1.toNat (numT f len (sgnT f len nn.2 44) 0 999).1.toNat, [(6, c.1.toNat, nn.1.toNat, (numT f len (sgnT f len nn.2 44) 0 999).1.toNat)]) := if_pos (by omega)
    exact k2 τ5 (numT f len (sgnT f len nn.2 44) 0 999).1 (numT f len (sgnT f len nn.2 44) 0 999).2 F5 X5 T5 N5 (by rw [e]) (fun a' h => by
      obtain ⟨x, hx, q1, q2, q3, q4⟩ := numT_ok h (fun y hy => by
        obtain ⟨z, hz, r1, r2⟩ := sgnT_ok hy (fun w hw => (hnb w hw).1)
        exact r2)
      obtain ⟨z, hz, r1, r2⟩ := sgnT_ok hx (fun w hw => (hnb w hw).1)
      have := hnb z hz
      exact ⟨this.2.1, this.2.2, fun _ => ⟨⟨q3, q4⟩, by rw [e]⟩, fun h6 => by omega⟩)
/-- what a question's reading owes, so many more may be open within it -/
abbrev RC (n : Int) (f : Nat → Int) (len cc rows : Nat) (K : Nat → CT) (va : Nat → Nat → Nat) (ad : Nat → Nat) (d m o : Nat) : Prop :=
  ∀ (τ0 : ab_H) (s : S2) (NL : List N3), QX τ0 f cc rows K va ad → TT τ0 n f len s → NS τ0 (isR s) NL → (∀ a, s = .inr a → NL.length ≤ a) → ab_call d 0 0 yX5_readCall [rf 29, .inl o] τ0 (fun r τ' => r = .inl none ∧ fr qA τ0 τ' ∧ TT τ' n f len (pqT f len K cc m s).1 ∧ NS τ' (isR (pqT f len K cc m s).1) (NL ++ (pqT f len K cc m s).2.1))
set_option maxRecDepth 100000 in
set_option maxHeartbeats 1000000 in
theorem c_readJoined (hf : byR f) (hl : len ≤ 200) (d m o : Nat) (hd : 3 ≤ d) (hq : RC n f len cc rows K va ad d m o) (τ0 : ab_H) (X0 : QX τ0 f cc rows K va ad) (i a : Nat) (hi : 7 ≤ i ∧ i ≤ 10) (NL : List N3) (T0 : TT τ0 n f len (.inr a)) (N0 : NS τ0 true NL) (hb : NL.length < a) : ab_call (d + 1) 0 0 yX5_readJoined [rf 29, .inl i, .inl o] τ0 (fun r τ' => r = .inl none ∧ fr qA τ0 τ' ∧ TT τ' n f len (jnT f len (pqT f len K cc m) i (.inr a)).1 ∧ NS τ' (isR (jnT f len (pqT f len K cc m) i (.inr a)).1) (NL ++ (jnT f len (pqT f len K cc m) i (.inr a)).2.1)) := by
  have ha := T0.1
  have F0 := fr_rf qA τ0
  have hok := pq_ok (f := f) (len := len) (K := K) (cc := cc) m
  refine eX5_readJoined rfl (fun At hA => ?_)
  have fin : ∀ (τ : ab_H) (L : ab_L), fr qA τ0 τ → TT τ n f len (jnT f len (pqT f len K cc m) i (.inr a)).1 → NS τ (isR (jnT f len (pqT f len K cc m) i (.inr a)).1) (NL ++ (jnT f len (pqT f len K cc m) i (.inr a)).2.1) → At 17 L [] τ 0 0 := fun τ L h1 h2 h3 => by
    refine hA 17 _ rfl _ _ _ _ _ ?_
    exact ⟨rfl, h1, h2, h3⟩
  generalize hSF : (jnT f len (pqT f len K cc m) i (.inr a)).1 = SF at fin
  generalize hNF : NL ++ (jnT f len (pqT f len K cc m) i (.inr a)).2.1 = NF at fin
  have loop : ∀ (w k : Nat) (τ1 : ab_H) (s : S2) (NM : List N3), w + k = 5 → 1 ≤ k → fr qA τ0 τ1 → QX τ1 f cc rows K va ad → TT τ1 n f len s → NS τ1 (isR s) NM → (∀ y, s = .inr y → NM.length < y) → (jnL f len (pqT f len K cc m) i (if i ≤ 8 then 4 else 2) w k s).1 = SF → (isR SF = true → NM ++ (jnL f len (pqT f len K cc m) i (if i ≤ 8 then 4 else 2) w k s).2.1 = NF) → ∀ mo : Nat, mo = (if i ≤ 8 then 4 else 2) → k ≤ mo → At 8 [some (rf 29), some (.inl i), some (.inl o), some (.inl (b2i (decide (i ≤ 8)))), some (.inl mo), some (.inl k)] [] τ1 0 0 := by
    intro w
    induction w with
    | zero =>
      intro k τ1 s NM hk h1 F1 X1 T1 N1 hbd hS hN mo hmo hkm
      have : mo ≤ 4 := by rw [hmo]; split <;> omega
      omega
    | succ w ih =>
      intro k τ1 s NM hk h1 F1 X1 T1 N1 hbd hS hN mo hmo hkm
      have hmo4 : mo ≤ 4 := by rw [hmo]; split <;> omega
      cases s with
      | inl e =>
        have hS : Sum.inl e = SF := hS
        subst hS
        have N1' : NS τ1 (isR (.inl e)) NF := N1.lo (fun h => by cases h) (fun h => by cases h)
        have k13 : At 13 [some (rf 29), some (.inl i), some (.inl o), some (.inl (b2i (decide (i ≤ 8)))), some (.inl mo), some (.inl k)] [] τ1 0 0 := by
          obtain ⟨_, l29⟩ := N1.c29
          obtain ⟨_, _, _, _, -, -, t1⟩ := T1.cell
          refine hA 13 _ rfl _ _ _ _ _ ?_
          refine And.intro (by first | assumption | exact b2i_R _ | exact rR (by omega) (by omega) | exact rR (by simp only [Int.toNat_natCast]; omega) (by simp only [Int.toNat_natCast]; omega)) (And.intro (fun q => ?_) (fun q => ?_))
          · exact fin τ1 _ F1 T1 N1'
          · refine hA 14 _ rfl _ _ _ _ _ ?_
            refine Exists.intro _ (And.intro (by first | assumption | exact st_s | exact st_e (by decide) (by assumption) | exact st_e (by omega) (by assumption) | exact st_e (by decide) st_s | exact st_e (by omega) st_s | exact st_e (by decide) (st_e (by decide) (by assumption)) | exact st_e (by omega) (st_e (by omega) (by assumption))) ?_)
            refine Exists.intro _ (And.intro (by first | assumption | exact st_s | exact st_e (by decide) (by assumption) | exact st_e (by omega) (by assumption) | exact st_e (by decide) st_s | exact st_e (by omega) st_s | exact st_e (by decide) (st_e (by decide) (by assumption)) | exact st_e (by omega) (st_e (by omega) (by assumption))) (And.intro rfl (ab_inv_ev (q_sound T1) (by first | decide | omega) (by first | exact Nat.le_refl _ | omega) (by first | exact Nat.le_refl _ | omega) ?_)))
            refine And.intro (by first | assumption | exact b2i_R _ | exact rR (by omega) (by omega) | exact rR (by simp only [Int.toNat_natCast]; omega) (by simp only [Int.toNat_natCast]; omega)) (And.intro (fun q => ?_) (fun q => ?_))
            · exact fin τ1 _ F1 T1 N1'
            · exact absurd rfl q
        obtain ⟨_, l29⟩ := N1.c29
        obtain ⟨_, _, _, _, -, -, t1⟩ := T1.cell
        refine hA 8 _ rfl _ _ _ _ _ ?_
        refine And.intro (And.intro (by first | assumption | exact b2i_R _ | exact rR (by omega) (by omega) | exact rR (by simp only [Int.toNat_natCast]; omega) (by simp only [Int.toNat_natCast]; omega)) (by first | assumption | exact b2i_R _ | exact rR (by omega) (by omega) | exact rR (by simp only [Int.toNat_natCast]; omega) (by simp only [Int.toNat_natCast]; omega))) (And.intro (fun q => ?_) (fun q => ?_))
        · exact k13
        · refine hA 9 _ rfl _ _ _ _ _ ?_
          refine Exists.intro _ (And.intro (by first | assumption | exact st_s | exact st_e (by decide) (by assumption) | exact st_e (by omega) (by assumption) | exact st_e (by decide) st_s | exact st_e (by omega) st_s | exact st_e (by decide) (st_e (by decide) (by assumption)) | exact st_e (by omega) (st_e (by omega) (by assumption))) ?_)
          refine Exists.intro _ (And.intro (by first | assumption | exact st_s | exact st_e (by decide) (by assumption) | exact st_e (by omega) (by assumption) | exact st_e (by decide) st_s | exact st_e (by omega) st_s | exact st_e (by decide) (st_e (by decide) (by assumption)) | exact st_e (by omega) (st_e (by omega) (by assumption))) (And.intro rfl (ab_inv_ev (q_sound T1) (by first | decide | omega) (by first | exact Nat.le_refl _ | omega) (by first | exact Nat.le_refl _ | omega) ?_)))
          refine And.intro (by first | assumption | exact b2i_R _ | exact rR (by omega) (by omega) | exact rR (by simp only [Int.toNat_natCast]; omega) (by simp only [Int.toNat_natCast]; omega)) (And.intro (fun q => ?_) (fun q => ?_))
          · exact k13
          · exact absurd rfl q
      | inr x =>
        have hx := T1.1
        have hbx := hbd x rfl
        have hS : (if k < (if i ≤ 8 then 4 else 2) ∧ (k = 1 ∨ byt f len (skB f len x) = 44) then
          (let r := pqT f len K cc m (sgnT f len (.inr x) 44)
          let t := jnL f len (pqT f len K cc m) i (if i ≤ 8 then 4 else 2) w (k + 1) r.1
          (t.1, r.2.1 ++ (i, 0, 0) :: t.2.1, r.2.2 ++ t.2.2))
          else if (if i ≤ 8 then 4 else 2) = 4 ∧ byt f len (skB f len x) = 44 then (.inl (3, (skB f len x : Nat)), [], []) else (.inr x, [], [(i, k, 0, 0)]) : S2 × List N3 × List N4).1 = SF := hS
        have hN : isR SF = true → NM ++ (if k < (if i ≤ 8 then 4 else 2) ∧ (k = 1 ∨ byt f len (skB f len x) = 44) then
          (let r := pqT f len K cc m (sgnT f len (.inr x) 44)
          let t := jnL f len (pqT f len K cc m) i (if i ≤ 8 then 4 else 2) w (k + 1) r.1
          (t.1, r.2.1 ++ (i, 0, 0) :: t.2.1, r.2.2 ++ t.2.2))
          else if (if i ≤ 8 then 4 else 2) = 4 ∧ byt f len (skB f len x) = 44 then (.inl (3, (skB f len x : Nat)), [], []) else (.inr x, [], [(i, k, 0, 0)]) : S2 × List N3 × List N4).2.1 = NF := hN
        rw [← hmo] at hS hN
        have k13 : ∀ τ2 : ab_H, fr qA τ0 τ2 → QX τ2 f cc rows K va ad → TT τ2 n f len (.inr x) → NS τ2 true NM → ¬ (k < mo ∧ (k = 1 ∨ byt f len (skB f len x) = 44)) → At 13 [some (rf 29), some (.inl i), some (.inl o), some (.inl (b2i (decide (i ≤ 8)))), some (.inl mo), some (.inl k)] [] τ2 0 0 := by
          intro τ2 F2 X2 T2 N2 hc
          rw [if_neg hc] at hS hN
          have done : ¬ (mo = 4 ∧ byt f len (skB f len x) = 44) → ∀ (τ : ab_H) (L : ab_L), fr qA τ0 τ → TT τ n f len (.inr x) → NS τ true NM → At 17 L [] τ 0 0 := fun hc2 τ L h1 h2 h3 => by
            rw [if_neg hc2] at hS hN
            have hS : Sum.inr x = SF := hS
            subst hS
            refine fin τ L h1 h2 ?_
            have := hN rfl
            rw [List.append_nil] at this
            rw [← this]
            exact h3
          obtain ⟨_, l29⟩ := N2.c29
          obtain ⟨_, _, _, _, -, -, t1⟩ := T2.cell
          refine hA 13 _ rfl _ _ _ _ _ ?_
          refine And.intro (by first | assumption | exact b2i_R _ | exact rR (by omega) (by omega) | exact rR (by simp only [Int.toNat_natCast]; omega) (by simp only [Int.toNat_natCast]; omega)) (And.intro (fun q => ?_) (fun q => ?_))
          · have hq := b2i_0 q
            refine done (fun h => ?_) τ2 _ F2 T2 N2
            rw [hmo, if_neg (of_decide_eq_false hq)] at h
            exact absurd h.1 (by decide)
          · have hq := of_decide_eq_true (b2i_1 q)
            refine hA 14 _ rfl _ _ _ _ _ ?_
            refine Exists.intro _ (And.intro (by first | assumption | exact st_s | exact st_e (by decide) (by assumption) | exact st_e (by omega) (by assumption) | exact st_e (by decide) st_s | exact st_e (by omega) st_s | exact st_e (by decide) (st_e (by decide) (by assumption)) | exact st_e (by omega) (st_e (by omega) (by assumption))) ?_)
            refine Exists.intro _ (And.intro (by first | assumption | exact st_s | exact st_e (by decide) (by assumption) | exact st_e (by omega) (by assumption) | exact st_e (by decide) st_s | exact st_e (by omega) st_s | exact st_e (by decide) (st_e (by decide) (by assumption)) | exact st_e (by omega) (st_e (by omega) (by assumption))) (And.intro rfl (ab_inv_ev (q_sound T2) (by first | decide | omega) (by first | exact Nat.le_refl _ | omega) (by first | exact Nat.le_refl _ | omega) ?_)))
            refine And.intro (by first | assumption | exact b2i_R _ | exact rR (by omega) (by omega) | exact rR (by simp only [Int.toNat_natCast]; omega) (by simp only [Int.toNat_natCast]; omega)) (And.intro (fun q => ?_) (fun q => ?_))
            · exact absurd (show (1 : Int) = 0 from q) (by decide)
            · refine hA 15 _ rfl _ _ _ _ _ ?_
              refine Exists.intro _ (And.intro (by first | assumption | exact st_s | exact st_e (by decide) (by assumption) | exact st_e (by omega) (by assumption) | exact st_e (by decide) st_s | exact st_e (by omega) st_s | exact st_e (by decide) (st_e (by decide) (by assumption)) | exact st_e (by omega) (st_e (by omega) (by assumption))) ?_)
              refine Exists.intro _ (And.intro (by first | assumption | exact st_s | exact st_e (by decide) (by assumption) | exact st_e (by omega) (by assumption) | exact st_e (by decide) st_s | exact st_e (by omega) st_s | exact st_e (by decide) (st_e (by decide) (by assumption)) | exact st_e (by omega) (st_e (by omega) (by assumption))) (And.intro rfl (ab_inv_of (q_next T2 X2.1 hf (by omega) 44 (by omega) rfl) (by first | decide | omega) (by omega) (by omega) ?_)))
              intro r τ3 hpost
              obtain ⟨rfl, f2, T3, st, t3⟩ := hpost
              have N3 := N2.fr f2 tA_n
              have F3 := F2.tr (f2.mono tA_q)
              obtain ⟨_, l29⟩ := N3.c29
              refine And.intro (by first | assumption | exact b2i_R _ | exact rR (by omega) (by omega) | exact rR (by simp only [Int.toNat_natCast]; omega) (by simp only [Int.toNat_natCast]; omega)) (And.intro (fun q => ?_) (fun q => ?_))
              · have hq2 := beq_eq_false_iff_ne.mp (b2i_0 q)
                exact done (fun h => hq2 h.2) τ3 _ F3 T3 N3
              · have hq2 := beq_iff_eq.mp (b2i_1 q)
                have hc2 : mo = 4 ∧ byt f len (skB f len x) = 44 := ⟨by rw [hmo, if_pos hq], hq2⟩
                rw [if_pos hc2] at hS hN
                have hS : Sum.inl (3, ((skB f len x : Nat) : Int)) = SF := hS
                subst hS
                refine hA 16 _ rfl _ _ _ _ _ ?_
                refine Exists.intro _ (And.intro (by first | assumption | exact st_s | exact st_e (by decide) (by assumption) | exact st_e (by omega) (by assumption) | exact st_e (by decide) st_s | exact st_e (by omega) st_s | exact st_e (by decide) (st_e (by decide) (by assumption)) | exact st_e (by omega) (st_e (by omega) (by assumption))) ?_)
                refine Exists.intro _ (And.intro (by first | assumption | exact st_s | exact st_e (by decide) (by assumption) | exact st_e (by omega) (by assumption) | exact st_e (by decide) st_s | exact st_e (by omega) st_s | exact st_e (by decide) (st_e (by decide) (by assumption)) | exact st_e (by omega) (st_e (by omega) (by assumption))) ?_)
                refine Exists.intro _ (And.intro (by first | assumption | exact st_s | exact st_e (by decide) (by assumption) | exact st_e (by omega) (by assumption) | exact st_e (by decide) st_s | exact st_e (by omega) st_s | exact st_e (by decide) (st_e (by decide) (by assumption)) | exact st_e (by omega) (st_e (by omega) (by assumption))) ?_)
                refine Exists.intro _ (And.intro (by first | assumption | exact st_s | exact st_e (by decide) (by assumption) | exact st_e (by omega) (by assumption) | exact st_e (by decide) st_s | exact st_e (by omega) st_s | exact st_e (by decide) (st_e (by decide) (by assumption)) | exact st_e (by omega) (st_e (by omega) (by assumption))) (And.intro rfl (ab_inv_of (q_fail T3 3 (skB f len x : Nat) (by decide) (rR (by omega) (by omega))) (by first | decide | omega) (by omega) (by omega) ?_)))
                intro r τ4 hpost
                obtain ⟨rfl, f3, T4⟩ := hpost
                exact fin τ4 _ (F3.tr (f3.mono tA_q)) T4 ((N3.fr f3 tA_n).lo (fun h => by cases h) (fun h => by cases h))
        have k12 : ∀ τ2 : ab_H, fr qA τ0 τ2 → QX τ2 f cc rows K va ad → TT τ2 n f len (.inr x) → NS τ2 true NM → (k < mo ∧ (k = 1 ∨ byt f len (skB f len x) = 44)) → At 12 [some (rf 29), some (.inl i), some (.inl o), some (.inl (b2i (decide (i ≤ 8)))), some (.inl mo), some (.inl k)] [] τ2 0 0 := by
          intro τ2 F2 X2 T2 N2 hc
          rw [if_pos hc] at hS hN
          obtain ⟨_, l29⟩ := N2.c29
          obtain ⟨_, _, _, _, -, -, t1⟩ := T2.cell
          have x3 := X2.2.1
          refine hA 12 _ rfl _ _ _ _ _ ?_
          refine Exists.intro _ (And.intro (by first | assumption | exact st_s | exact st_e (by decide) (by assumption) | exact st_e (by omega) (by assumption) | exact st_e (by decide) st_s | exact st_e (by omega) st_s | exact st_e (by decide) (st_e (by decide) (by assumption)) | exact st_e (by omega) (st_e (by omega) (by assumption))) ?_)
          refine Exists.intro _ (And.intro (by first | assumption | exact st_s | exact st_e (by decide) (by assumption) | exact st_e (by omega) (by assumption) | exact st_e (by decide) st_s | exact st_e (by omega) st_s | exact st_e (by decide) (st_e (by decide) (by assumption)) | exact st_e (by omega) (st_e (by omega) (by assumption))) (And.intro rfl (ab_inv_of (q_need T2 X2.1 hf (by omega) 44 (by omega)) (by first | decide | omega) (by omega) (by omega) ?_)))
          intro r τ3 hpost
          obtain ⟨rfl, f3, T3⟩ := hpost
          have X3 := X2.fr f3 tA_q
          have N3 := N2.fr f3 tA_n
          have F3 := F2.tr (f3.mono tA_q)
          have hsg : ∀ y, sgnT f len (.inr x) 44 = .inr y → x < y ∧ y ≤ len := fun y hy => by
            obtain ⟨b, hb, q1, q2⟩ := sgnT_ok hy (fun z hz => by cases hz; exact hx)
            cases hb
            exact ⟨q1, q2⟩
          have N3' : NS τ3 (isR (sgnT f len (.inr x) 44)) NM := N3.lo (fun _ => rfl) (fun _ => rfl)
          obtain ⟨_, l29⟩ := N3.c29
          refine Exists.intro _ (And.intro (by first | assumption | exact st_s | exact st_e (by decide) (by assumption) | exact st_e (by omega) (by assumption) | exact st_e (by decide) st_s | exact st_e (by omega) st_s | exact st_e (by decide) (st_e (by decide) (by assumption)) | exact st_e (by omega) (st_e (by omega) (by assumption))) (And.intro rfl (ab_inv_of (hq τ3 (sgnT f len (.inr x) 44) NM X3 T3 N3' (fun y hy => by have := hsg y hy; omega)) (by first | decide | omega) (by omega) (by omega) ?_)))
          intro r τ4 hpost
          obtain ⟨rfl, f4, T4, N4⟩ := hpost
          have X4 := X3.fr f4 (fun a h => h)
          have F4 := F3.tr f4
          obtain ⟨_, l29⟩ := N4.c29
          have hlen : ∀ y, (pqT f len K cc m (sgnT f len (.inr x) 44)).1 = .inr y → (NM ++ (pqT f len K cc m (sgnT f len (.inr x) 44)).2.1).length + 1 < y ∧ y ≤ len := fun y hy => by
            obtain ⟨b, hb, q1, q2, q3, q4⟩ := okq_of hok (fun z hz => (hsg z hz).2) hy
            have := hsg b hb
            rw [List.length_append]
            omega
          have hisR : isR (pqT f len K cc m (sgnT f len (.inr x) 44)).1 = true → ∃ y, (pqT f len K cc m (sgnT f len (.inr x) 44)).1 = .inr y := fun h => by
            cases hy : (pqT f len K cc m (sgnT f len (.inr x) 44)).1 with
            | inl e => rw [hy] at h; cases h
            | inr y => exact ⟨y, rfl⟩
          refine Exists.intro _ (And.intro (by first | assumption | exact st_s | exact st_e (by decide) (by assumption) | exact st_e (by omega) (by assumption) | exact st_e (by decide) st_s | exact st_e (by omega) st_s | exact st_e (by decide) (st_e (by decide) (by assumption)) | exact st_e (by omega) (st_e (by omega) (by assumption))) (And.intro rfl (ab_inv_of (c_note N4 (fun h => by obtain ⟨y, hy⟩ := hisR h; have := hlen y hy; omega) i 0 0) (by first | decide | omega) (by omega) (by omega) ?_)))
          intro r τ5 hpost
          obtain ⟨rfl, f5, N5⟩ := hpost
          have e9 : ((k : Nat) : Int) + 1 = ((k + 1 : Nat) : Int) := by omega
          refine ih (k + 1) τ5 _ (NM ++ (pqT f len K cc m (sgnT f len (.inr x) 44)).2.1 ++ [(i, 0, 0)]) (by omega) (by omega) (F4.tr (f5.mono nA_q)) (X4.fr f5 nA_q) (T4.fr f5 nA_1) N5 (fun y hy => ?_) (by rw [← hmo]; exact hS) (fun h => ?_) mo hmo hc.1
          · have := hlen y hy
            rw [List.length_append]
            show _ + 1 < y
            omega
          · have := hN h
            rw [← hmo]
            rw [← this]
            show NM ++ (pqT f len K cc m (sgnT f len (.inr x) 44)).2.1 ++ [(i, 0, 0)] ++ _ = NM ++ ((pqT f len K cc m (sgnT f len (.inr x) 44)).2.1 ++ (i, 0, 0) :: _)
            simp only [List.append_assoc, List.singleton_append]
        obtain ⟨_, l29⟩ := N1.c29
        obtain ⟨_, _, _, _, -, -, t1⟩ := T1.cell
        refine hA 8 _ rfl _ _ _ _ _ ?_
        refine And.intro (And.intro (by first | assumption | exact b2i_R _ | exact rR (by omega) (by omega) | exact rR (by simp only [Int.toNat_natCast]; omega) (by simp only [Int.toNat_natCast]; omega)) (by first | assumption | exact b2i_R _ | exact rR (by omega) (by omega) | exact rR (by simp only [Int.toNat_natCast]; omega) (by simp only [Int.toNat_natCast]; omega))) (And.intro (fun q => ?_) (fun q => ?_))
        · exact k13 τ1 F1 X1 T1 N1 (fun h => by omega)
        · refine hA 9 _ rfl _ _ _ _ _ ?_
          refine Exists.intro _ (And.intro (by first | assumption | exact st_s | exact st_e (by decide) (by assumption) | exact st_e (by omega) (by assumption) | exact st_e (by decide) st_s | exact st_e (by omega) st_s | exact st_e (by decide) (st_e (by decide) (by assumption)) | exact st_e (by omega) (st_e (by omega) (by assumption))) ?_)
          refine Exists.intro _ (And.intro (by first | assumption | exact st_s | exact st_e (by decide) (by assumption) | exact st_e (by omega) (by assumption) | exact st_e (by decide) st_s | exact st_e (by omega) st_s | exact st_e (by decide) (st_e (by decide) (by assumption)) | exact st_e (by omega) (st_e (by omega) (by assumption))) (And.intro rfl (ab_inv_ev (q_sound T1) (by first | decide | omega) (by first | exact Nat.le_refl _ | omega) (by first | exact Nat.le_refl _ | omega) ?_)))
          refine And.intro (by first | assumption | exact b2i_R _ | exact rR (by omega) (by omega) | exact rR (by simp only [Int.toNat_natCast]; omega) (by simp only [Int.toNat_natCast]; omega)) (And.intro (fun q => ?_) (fun q => ?_))
          · exact absurd (show (1 : Int) = 0 from q) (by decide)
          · refine hA 10 _ rfl _ _ _ _ _ ?_
            refine And.intro (And.intro (by first | assumption | exact b2i_R _ | exact rR (by omega) (by omega) | exact rR (by simp only [Int.toNat_natCast]; omega) (by simp only [Int.toNat_natCast]; omega)) (by first | assumption | exact b2i_R _ | exact rR (by omega) (by omega) | exact rR (by simp only [Int.toNat_natCast]; omega) (by simp only [Int.toNat_natCast]; omega))) (And.intro (fun q => ?_) (fun q => ?_))
            · exact k12 τ1 F1 X1 T1 N1 ⟨by omega, Or.inl (by omega)⟩
            · refine hA 11 _ rfl _ _ _ _ _ ?_
              refine Exists.intro _ (And.intro (by first | assumption | exact st_s | exact st_e (by decide) (by assumption) | exact st_e (by omega) (by assumption) | exact st_e (by decide) st_s | exact st_e (by omega) st_s | exact st_e (by decide) (st_e (by decide) (by assumption)) | exact st_e (by omega) (st_e (by omega) (by assumption))) ?_)
              refine Exists.intro _ (And.intro (by first | assumption | exact st_s | exact st_e (by decide) (by assumption) | exact st_e (by omega) (by assumption) | exact st_e (by decide) st_s | exact st_e (by omega) st_s | exact st_e (by decide) (st_e (by decide) (by assumption)) | exact st_e (by omega) (st_e (by omega) (by assumption))) (And.intro rfl (ab_inv_of (q_next T1 X1.1 hf (by omega) 44 (by omega) rfl) (by first | decide | omega) (by omega) (by omega) ?_)))
              intro r τ3 hpost
              obtain ⟨rfl, f2, T3, st, t3⟩ := hpost
              have N3 := N1.fr f2 tA_n
              have F3 := F1.tr (f2.mono tA_q)
              have X3 := X1.fr f2 tA_q
              refine And.intro (by first | assumption | exact b2i_R _ | exact rR (by omega) (by omega) | exact rR (by simp only [Int.toNat_natCast]; omega) (by simp only [Int.toNat_natCast]; omega)) (And.intro (fun q => ?_) (fun q => ?_))
              · have hq2 := beq_eq_false_iff_ne.mp (b2i_0 q)
                exact k13 τ3 F3 X3 T3 N3 (fun h => by rcases h.2 with h | h
                                                      · omega
                                                      · exact hq2 h)
              · have hq2 := beq_iff_eq.mp (b2i_1 q)
                exact k12 τ3 F3 X3 T3 N3 ⟨by omega, Or.inr hq2⟩
  have k7 : ∀ mo : Nat, mo = (if i ≤ 8 then 4 else 2) → At 7 [some (rf 29), some (.inl i), some (.inl o), some (.inl (b2i (decide (i ≤ 8)))), none, none] [.inl mo] τ0 0 0 := fun mo hmo => by
    obtain ⟨_, l29⟩ := N0.c29
    refine hA 7 _ rfl _ _ _ _ _ ?_
    refine Exists.intro _ (And.intro (by first | assumption | exact st_s | exact st_e (by decide) (by assumption) | exact st_e (by omega) (by assumption) | exact st_e (by decide) st_s | exact st_e (by omega) st_s | exact st_e (by decide) (st_e (by decide) (by assumption)) | exact st_e (by omega) (st_e (by omega) (by assumption))) (And.intro rfl (ab_inv_of (hq τ0 (.inr a) NL X0 T0 N0 (fun y hy => by cases hy; omega)) (by first | decide | omega) (by omega) (by omega) ?_)))
    intro r τ1 hpost
    obtain ⟨rfl, f1, T1, N1⟩ := hpost
    refine loop 4 1 τ1 _ _ rfl (by omega) f1 (X0.fr f1 (fun a h => h)) T1 N1 (fun y hy => ?_) hSF (fun _ => ?_) mo hmo (by rw [hmo]; split <;> omega)
    · have := hok.2 a y ha hy
      rw [List.length_append]
      omega
    · rw [← hNF]
      unfold jnT
      dsimp only
      rw [List.append_assoc]
  have k4 : ∀ z : Int, z = b2i (decide (i ≤ 8)) → At 4 [some (rf 29), some (.inl i), some (.inl o), none, none, none] [.inl z] τ0 0 0 := fun z hz => by
    subst hz
    refine hA 4 _ rfl _ _ _ _ _ ?_
    refine And.intro (by first | assumption | exact b2i_R _ | exact rR (by omega) (by omega) | exact rR (by simp only [Int.toNat_natCast]; omega) (by simp only [Int.toNat_natCast]; omega)) (And.intro (fun q => ?_) (fun q => ?_))
    · have hq := of_decide_eq_false (b2i_0 q)
      refine hA 6 _ rfl _ _ _ _ _ ?_
      exact k7 2 (by rw [if_neg hq])
    · have hq := of_decide_eq_true (b2i_1 q)
      refine hA 5 _ rfl _ _ _ _ _ ?_
      exact k7 4 (by rw [if_pos hq])
  have k2 : i ≤ 8 → At 2 [some (rf 29), some (.inl i), some (.inl o), none, none, none] [] τ0 0 0 := fun h => by
    refine hA 2 _ rfl _ _ _ _ _ ?_
    exact k4 1 (by rw [decide_eq_true h]; rfl)
  refine hA 0 _ rfl _ _ _ _ _ ?_
  refine And.intro (And.intro (by first | assumption | exact b2i_R _ | exact rR (by omega) (by omega) | exact rR (by simp only [Int.toNat_natCast]; omega) (by simp only [Int.toNat_natCast]; omega)) (by first | assumption | exact b2i_R _ | exact rR (by omega) (by omega) | exact rR (by simp only [Int.toNat_natCast]; omega) (by simp only [Int.toNat_natCast]; omega))) (And.intro (fun q => ?_) (fun q => ?_))
  · exact k2 (by omega)
  · refine hA 1 _ rfl _ _ _ _ _ ?_
    refine And.intro (And.intro (by first | assumption | exact b2i_R _ | exact rR (by omega) (by omega) | exact rR (by simp only [Int.toNat_natCast]; omega) (by simp only [Int.toNat_natCast]; omega)) (by first | assumption | exact b2i_R _ | exact rR (by omega) (by omega) | exact rR (by simp only [Int.toNat_natCast]; omega) (by simp only [Int.toNat_natCast]; omega))) (And.intro (fun q => ?_) (fun q => ?_))
    · refine hA 3 _ rfl _ _ _ _ _ ?_
      exact k4 0 (by rw [decide_eq_false (by omega)]; rfl)
    · exact k2 (by omega)
set_option maxRecDepth 100000 in
set_option maxHeartbeats 1000000 in
theorem c_readTurned (hl : len ≤ 200) (d m o : Nat) (hd : 3 ≤ d) (hq : RC n f len cc rows K va ad d m o) (τ0 : ab_H) (X0 : QX τ0 f cc rows K va ad) (a : Nat) (NL : List N3) (T0 : TT τ0 n f len (.inr a)) (N0 : NS τ0 true NL) (hb : NL.length < a) : ab_call (d + 1) 0 0 yX5_readTurned [rf 29, .inl o] τ0 (fun r τ' => r = .inl none ∧ fr qA τ0 τ' ∧ TT τ' n f len (pqT f len K cc m (.inr a)).1 ∧ NS τ' (isR (pqT f len K cc m (.inr a)).1) (NL ++ ((pqT f len K cc m (.inr a)).2.1 ++ [(11, 0, 0)]))) := by
  have ha := T0.1
  have hcall := hq τ0 (.inr a) NL X0 T0 N0 (fun y hy => by cases hy; omega)
  obtain ⟨_, l29⟩ := N0.c29
  refine eX5_readTurned rfl (fun At hA => ?_)
  refine hA 0 _ rfl _ _ _ _ _ ?_
  refine Exists.intro _ (And.intro (by first | assumption | exact st_s | exact st_e (by decide) (by assumption) | exact st_e (by omega) (by assumption) | exact st_e (by decide) st_s | exact st_e (by omega) st_s | exact st_e (by decide) (st_e (by decide) (by assumption)) | exact st_e (by omega) (st_e (by omega) (by assumption))) (And.intro rfl (ab_inv_of hcall (by first | decide | omega) (by omega) (by omega) ?_)))
  intro r τ3 hpost
  obtain ⟨rfl, f3, T3, N3⟩ := hpost
  obtain ⟨_, l29⟩ := N3.c29
  have hlt : isR (pqT f len K cc m (.inr a)).1 = true → (NL ++ (pqT f len K cc m (.inr a)).2.1).length < 200 := fun h => by
    cases hy : (pqT f len K cc m (.inr a)).1 with
    | inl e => rw [hy] at h; cases h
    | inr y =>
      have := (pq_ok (f := f) (len := len) (K := K) (cc := cc) m).2 a y ha hy
      rw [List.length_append]
      omega
  refine Exists.intro _ (And.intro (by first | assumption | exact st_s | exact st_e (by decide) (by assumption) | exact st_e (by omega) (by assumption) | exact st_e (by decide) st_s | exact st_e (by omega) st_s | exact st_e (by decide) (st_e (by decide) (by assumption)) | exact st_e (by omega) (st_e (by omega) (by assumption))) (And.intro rfl (ab_inv_of (c_note N3 hlt 11 0 0) (by first | decide | omega) (by omega) (by omega) ?_)))
  intro r τ4 hpost
  obtain ⟨rfl, f4, N4⟩ := hpost
  refine ⟨rfl, f3.tr (f4.mono nA_q), T3.fr f4 nA_1, ?_⟩
  rw [← List.append_assoc]
  exact N4
set_option maxRecDepth 100000 in
set_option maxHeartbeats 1000000 in
theorem c_readCall1 (hf : byR f) (hl : len ≤ 200) (d m o : Nat) (hd : 8 ≤ d) (hm : o + m = 5) (hq : ∀ m', m = m' + 1 → ∃ d', 3 ≤ d' ∧ d' + 1 < d ∧ RC n f len cc rows K va ad d' m' (o + 1)) : RC n f len cc rows K va ad d m o := by
  intro τ0 s NL X0 T0 N0 hbd
  have F0 := fr_rf qA τ0
  have hs : ∀ a, s = .inr a → a ≤ len := fun a h => by subst h; exact T0.1
  refine eX5_readCall rfl (fun At hA => ?_)
  have fin : ∀ (τ : ab_H) (L : ab_L), fr qA τ0 τ → TT τ n f len (pqT f len K cc m s).1 → NS τ (isR (pqT f len K cc m s).1) (NL ++ (pqT f len K cc m s).2.1) → At 5 L [] τ 0 0 := fun τ L h1 h2 h3 => by
    refine hA 5 _ rfl _ _ _ _ _ ?_
    exact ⟨rfl, h1, h2, h3⟩
  -- behind the sign "("
  have k4 : ∀ (τ1 : ab_H) (s1 : S2), fr qA τ0 τ1 → QX τ1 f cc rows K va ad → TT τ1 n f len s1 → NS τ1 (isR s) NL → sgnT f len s1 40 = opnT f len m (wrdT f len s 2).2 → At 4 [some (rf 29), some (.inl o), some (.inl (wrdT f len s 2).1)] [] τ1 0 0 := by
    intro τ1 s1 F1 X1 T1 N1 hsg
    obtain ⟨_, l29⟩ := N1.c29
    obtain ⟨_, _, _, _, -, -, t1⟩ := T1.cell
    have x3 := X1.2.1
    refine hA 4 _ rfl _ _ _ _ _ ?_
    refine Exists.intro _ (And.intro (by first | assumption | exact st_s | exact st_e (by decide) (by assumption) | exact st_e (by omega) (by assumption) | exact st_e (by decide) st_s | exact st_e (by omega) st_s | exact st_e (by decide) (st_e (by decide) (by assumption)) | exact st_e (by omega) (st_e (by omega) (by assumption))) ?_)
    refine Exists.intro _ (And.intro (by first | assumption | exact st_s | exact st_e (by decide) (by assumption) | exact st_e (by omega) (by assumption) | exact st_e (by decide) st_s | exact st_e (by omega) st_s | exact st_e (by decide) (st_e (by decide) (by assumption)) | exact st_e (by omega) (st_e (by omega) (by assumption))) (And.intro rfl (ab_inv_of (q_need T1 X1.1 hf (by omega) 40 (by omega)) (by first | decide | omega) (by omega) (by omega) ?_)))
    intro r τ2 hpost
    obtain ⟨rfl, f2, T2⟩ := hpost
    have X2 := X1.fr f2 tA_q
    have N2 := N1.fr f2 tA_n
    have F2 := F1.tr (f2.mono tA_q)
    rw [hsg] at T2
    obtain ⟨_, l29⟩ := N2.c29
    obtain ⟨_, _, _, _, -, -, t1⟩ := T2.cell
    rcases hO : opnT f len m (wrdT f len s 2).2 with e | a2
    · rw [hO] at T2
      have hP : pqT f len K cc m s = (.inl e, [], []) := by
        cases m with
        | zero => show (opnT f len 0 (wrdT f len s 2).2, [], []) = _; rw [hO]
        | succ m' => unfold pqT; rw [hO]
      refine Exists.intro _ (And.intro (by first | assumption | exact st_s | exact st_e (by decide) (by assumption) | exact st_e (by omega) (by assumption) | exact st_e (by decide) st_s | exact st_e (by omega) st_s | exact st_e (by decide) (st_e (by decide) (by assumption)) | exact st_e (by omega) (st_e (by omega) (by assumption))) ?_)
      refine Exists.intro _ (And.intro (by first | assumption | exact st_s | exact st_e (by decide) (by assumption) | exact st_e (by omega) (by assumption) | exact st_e (by decide) st_s | exact st_e (by omega) st_s | exact st_e (by decide) (st_e (by decide) (by assumption)) | exact st_e (by omega) (st_e (by omega) (by assumption))) (And.intro rfl (ab_inv_ev (q_sound T2) (by first | decide | omega) (by first | exact Nat.le_refl _ | omega) (by first | exact Nat.le_refl _ | omega) ?_)))
      refine And.intro (by first | assumption | exact b2i_R _ | exact rR (by omega) (by omega) | exact rR (by simp only [Int.toNat_natCast]; omega) (by simp only [Int.toNat_natCast]; omega)) (And.intro (fun q => ?_) (fun q => ?_))
      · exact absurd rfl q
      · refine fin τ2 _ F2 ?_ ?_
        · rw [hP]; exact T2
        · rw [hP]; exact N2.lo (fun h => by cases h) (fun h => by cases h)
    · rw [hO] at T2
      have hmp : ∃ m', m = m' + 1 := by
        cases m with
        | zero =>
          have := opn0_no (f := f) (len := len) (wrdT f len s 2).2
          rw [hO] at this
          cases this
        | succ m' => exact ⟨m', rfl⟩
      obtain ⟨m', hm'⟩ := hmp
      obtain ⟨d', hd1, hd2, hqq⟩ := hq m' hm'
      subst hm'
      have hP : pqT f len K cc (m' + 1) s = (sgnT f len (bodT f len K cc (pqT f len K cc m') (wrdT f len s 2).1.toNat a2).1 41, (bodT f len K cc (pqT f len K cc m') (wrdT f len s 2).1.toNat a2).2) := by
        unfold pqT
        rw [hO]
      obtain ⟨b, hb, q1, q2⟩ := sgnT_ok (s := (wrdT f len s 2).2) (x := 40) hO (fun y hy => by
        obtain ⟨_, _, _, _, h2, _⟩ := wrdT_ok hy hs
        exact h2)
      obtain ⟨a, i, ha, w1, w2, w3, w4⟩ := wrdT_ok hb hs
      have w4 : i < 15 := w4
      have hNb := hbd a ha
      have hsR : isR s = true := by rw [ha]; rfl
      rw [hsR] at N2
      rw [w3] at hP ⊢
      rw [Int.toNat_natCast] at hP
      -- ahead of the sign ")"
      have k16 : ∀ (τ3 : ab_H) (s3 : S2) (NM : List N3), fr qA τ0 τ3 → QX τ3 f cc rows K va ad → TT τ3 n f len s3 → NS τ3 (isR s3) NM → (bodT f len K cc (pqT f len K cc m') i a2).1 = s3 → (isR s3 = true → NM = NL ++ (bodT f len K cc (pqT f len K cc m') i a2).2.1) → At 16 [some (rf 29), some (.inl o), some (.inl i)] [] τ3 0 0 := by
        intro τ3 s3 NM F3 X3 T3 N3 e1 e2
        obtain ⟨_, l29⟩ := N3.c29
        obtain ⟨_, _, _, _, -, -, t1⟩ := T3.cell
        have x3 := X3.2.1
        refine hA 16 _ rfl _ _ _ _ _ ?_
        refine Exists.intro _ (And.intro (by first | assumption | exact st_s | exact st_e (by decide) (by assumption) | exact st_e (by omega) (by assumption) | exact st_e (by decide) st_s | exact st_e (by omega) st_s | exact st_e (by decide) (st_e (by decide) (by assumption)) | exact st_e (by omega) (st_e (by omega) (by assumption))) ?_)
        refine Exists.intro _ (And.intro (by first | assumption | exact st_s | exact st_e (by decide) (by assumption) | exact st_e (by omega) (by assumption) | exact st_e (by decide) st_s | exact st_e (by omega) st_s | exact st_e (by decide) (st_e (by decide) (by assumption)) | exact st_e (by omega) (st_e (by omega) (by assumption))) (And.intro rfl (ab_inv_of (q_need T3 X3.1 hf (by omega) 41 (by omega)) (by first | decide | omega) (by omega) (by omega) ?_)))
        intro r τ4 hpost
        obtain ⟨rfl, f4, T4⟩ := hpost
        have X4 := X3.fr f4 tA_q
        have N4 := N3.fr f4 tA_n
        have F4 := F3.tr (f4.mono tA_q)
        refine ⟨rfl, F4, ?_, ?_⟩
        · rw [hP, e1]; exact T4
        · rw [hP, e1]
          have hr : isR (sgnT f len s3 41) = true → isR s3 = true := fun h => by
            cases s3 with
            | inl e => exact h
            | inr y => rfl
          exact N4.lo hr (fun h => e2 (hr h))
      obtain ⟨_, l29⟩ := N2.c29
      refine Exists.intro _ (And.intro (by first | assumption | exact st_s | exact st_e (by decide) (by assumption) | exact st_e (by omega) (by assumption) | exact st_e (by decide) st_s | exact st_e (by omega) st_s | exact st_e (by decide) (st_e (by decide) (by assumption)) | exact st_e (by omega) (st_e (by omega) (by assumption))) ?_)
      refine Exists.intro _ (And.intro (by first | assumption | exact st_s | exact st_e (by decide) (by assumption) | exact st_e (by omega) (by assumption) | exact st_e (by decide) st_s | exact st_e (by omega) st_s | exact st_e (by decide) (st_e (by decide) (by assumption)) | exact st_e (by omega) (st_e (by omega) (by assumption))) (And.intro rfl (ab_inv_ev (q_sound T2) (by first | decide | omega) (by first | exact Nat.le_refl _ | omega) (by first | exact Nat.le_refl _ | omega) ?_)))
      refine And.intro (by first | assumption | exact b2i_R _ | exact rR (by omega) (by omega) | exact rR (by simp only [Int.toNat_natCast]; omega) (by simp only [Int.toNat_natCast]; omega)) (And.intro (fun q => ?_) (fun q => ?_))
      · refine hA 6 _ rfl _ _ _ _ _ ?_
        refine And.intro (And.intro (by first | assumption | exact b2i_R _ | exact rR (by omega) (by omega) | exact rR (by simp only [Int.toNat_natCast]; omega) (by simp only [Int.toNat_natCast]; omega)) (by first | assumption | exact b2i_R _ | exact rR (by omega) (by omega) | exact rR (by simp only [Int.toNat_natCast]; omega) (by simp only [Int.toNat_natCast]; omega))) (And.intro (fun q => ?_) (fun q => ?_))
        · refine hA 8 _ rfl _ _ _ _ _ ?_
          refine And.intro (And.intro (by first | assumption | exact b2i_R _ | exact rR (by omega) (by omega) | exact rR (by simp only [Int.toNat_natCast]; omega) (by simp only [Int.toNat_natCast]; omega)) (by first | assumption | exact b2i_R _ | exact rR (by omega) (by omega) | exact rR (by simp only [Int.toNat_natCast]; omega) (by simp only [Int.toNat_natCast]; omega))) (And.intro (fun q => ?_) (fun q => ?_))
          · refine hA 10 _ rfl _ _ _ _ _ ?_
            refine And.intro (And.intro (by first | assumption | exact b2i_R _ | exact rR (by omega) (by omega) | exact rR (by simp only [Int.toNat_natCast]; omega) (by simp only [Int.toNat_natCast]; omega)) (by first | assumption | exact b2i_R _ | exact rR (by omega) (by omega) | exact rR (by simp only [Int.toNat_natCast]; omega) (by simp only [Int.toNat_natCast]; omega))) (And.intro (fun q => ?_) (fun q => ?_))
            · refine hA 12 _ rfl _ _ _ _ _ ?_
              refine And.intro (And.intro (by first | assumption | exact b2i_R _ | exact rR (by omega) (by omega) | exact rR (by simp only [Int.toNat_natCast]; omega) (by simp only [Int.toNat_natCast]; omega)) (by first | assumption | exact b2i_R _ | exact rR (by omega) (by omega) | exact rR (by simp only [Int.toNat_natCast]; omega) (by simp only [Int.toNat_natCast]; omega))) (And.intro (fun q => ?_) (fun q => ?_))
              · have hb14 : i ≠ 14 := fun h => by subst h; exact absurd rfl q
                have e : bodT f len K cc (pqT f len K cc m') i a2 = (.inr a2, [(i, 0, 0)], [(i, 0, 0, 0)]) := by
                  unfold bodT
                  rw [if_neg (by omega), if_neg (by omega), if_neg (by omega), if_neg hb14]
                refine hA 14 _ rfl _ _ _ _ _ ?_
                refine hA 15 _ rfl _ _ _ _ _ ?_
                refine Exists.intro _ (And.intro (by first | assumption | exact st_s | exact st_e (by decide) (by assumption) | exact st_e (by omega) (by assumption) | exact st_e (by decide) st_s | exact st_e (by omega) st_s | exact st_e (by decide) (st_e (by decide) (by assumption)) | exact st_e (by omega) (st_e (by omega) (by assumption))) (And.intro rfl (ab_inv_of (c_note N2 (fun _ => by omega) i 0 0) (by first | decide | omega) (by omega) (by omega) ?_)))
                intro r τ3 hpost
                obtain ⟨rfl, f3, N3⟩ := hpost
                exact k16 τ3 (.inr a2) _ (F2.tr (f3.mono nA_q)) (X2.fr f3 nA_q) (T2.fr f3 nA_1) N3 (by rw [e]) (fun _ => by rw [e])
              · have hb14 : i = 14 := by
                  have q : ((i : Nat) : Int) = 14 := q
                  omega
                subst hb14
                have e : bodT f len K cc (pqT f len K cc m') 14 a2 = ((numT f len (.inr a2) 0 5).2, [(14, 0, (numT f len (.inr a2) 0 5).1.toNat)], [(14, (numT f len (.inr a2) 0 5).1.toNat, 0, 0)]) := rfl
                obtain ⟨_, l29⟩ := N2.c29
                obtain ⟨_, _, _, _, -, -, t1⟩ := T2.cell
                have x3 := X2.2.1
                refine hA 13 _ rfl _ _ _ _ _ ?_
                refine Exists.intro _ (And.intro (by first | assumption | exact st_s | exact st_e (by decide) (by assumption) | exact st_e (by omega) (by assumption) | exact st_e (by decide) st_s | exact st_e (by omega) st_s | exact st_e (by decide) (st_e (by decide) (by assumption)) | exact st_e (by omega) (st_e (by omega) (by assumption))) ?_)
                refine Exists.intro _ (And.intro (by first | assumption | exact st_s | exact st_e (by decide) (by assumption) | exact st_e (by omega) (by assumption) | exact st_e (by decide) st_s | exact st_e (by omega) st_s | exact st_e (by decide) (st_e (by decide) (by assumption)) | exact st_e (by omega) (st_e (by omega) (by assumption))) (And.intro rfl (ab_inv_of (q_num T2 X2.1 hf (by omega) 0 5 (rR (by omega) (by omega)) (rR (by omega) (by omega))) (by first | decide | omega) (by omega) (by omega) ?_)))
                intro r τ3 hpost
                obtain ⟨rfl, f3, T3⟩ := hpost
                have X3 := X2.fr f3 tA_q
                have N3 := N2.fr f3 tA_n
                have F3 := F2.tr (f3.mono tA_q)
                obtain ⟨_, l29⟩ := N3.c29
                rcases hz : (numT f len (.inr a2) 0 5).2 with e3 | a3
                · rw [hz] at T3 e
                  refine hA 15 _ rfl _ _ _ _ _ ?_
                  refine Exists.intro _ (And.intro (by first | assumption | exact st_s | exact st_e (by decide) (by assumption) | exact st_e (by omega) (by assumption) | exact st_e (by decide) st_s | exact st_e (by omega) st_s | exact st_e (by decide) (st_e (by decide) (by assumption)) | exact st_e (by omega) (st_e (by omega) (by assumption))) (And.intro rfl (ab_inv_of (c_note0 (NL := NL) (NM := []) (N3.lo (c := false) (NM := NL) (fun h => rfl) (fun h => rfl)) 14 0 (numT f len (.inr a2) 0 5).1) (by first | decide | omega) (by omega) (by omega) ?_)))
                  intro r τ4 hpost
                  obtain ⟨rfl, f4, N4⟩ := hpost
                  exact k16 τ4 (.inl e3) [] (F3.tr (f4.mono nA_q)) (X3.fr f4 nA_q) (T3.fr f4 nA_1) N4 (by rw [e]) (fun h => by cases h)
                · rw [hz] at T3 e
                  obtain ⟨_, _, _, _, z1, z2⟩ := numT_ok hz (fun y hy => by cases hy; exact q2)
                  have hcall := c_note N3 (fun _ => by omega) 14 0 (numT f len (.inr a2) 0 5).1.toNat
                  rw [show (((numT f len (.inr a2) 0 5).1.toNat : Nat) : Int) = (numT f len (.inr a2) 0 5).1 by omega] at hcall
                  refine hA 15 _ rfl _ _ _ _ _ ?_
                  refine Exists.intro _ (And.intro (by first | assumption | exact st_s | exact st_e (by decide) (by assumption) | exact st_e (by omega) (by assumption) | exact st_e (by decide) st_s | exact st_e (by omega) st_s | exact st_e (by decide) (st_e (by decide) (by assumption)) | exact st_e (by omega) (st_e (by omega) (by assumption))) (And.intro rfl (ab_inv_of hcall (by first | decide | omega) (by omega) (by omega) ?_)))
                  intro r τ4 hpost
                  obtain ⟨rfl, f4, N4⟩ := hpost
                  exact k16 τ4 (.inr a3) _ (F3.tr (f4.mono nA_q)) (X3.fr f4 nA_q) (T3.fr f4 nA_1) N4 (by rw [e]) (fun _ => by rw [e])
            · have hi : i = 11 := by omega
              subst hi
              have e : bodT f len K cc (pqT f len K cc m') 11 a2 = ((pqT f len K cc m' (.inr a2)).1, (pqT f len K cc m' (.inr a2)).2.1 ++ [(11, 0, 0)], (pqT f len K cc m' (.inr a2)).2.2 ++ [(11, 0, 0, 0)]) := rfl
              have e9 : ((o : Nat) : Int) + 1 = ((o + 1 : Nat) : Int) := by omega
              have hcall := c_readTurned hl d' m' (o + 1) hd1 hqq τ2 X2 a2 NL T2 N2 (by omega)
              rw [← e9] at hcall
              refine hA 11 _ rfl _ _ _ _ _ ?_
              refine Exists.intro _ (And.intro (by first | assumption | exact st_s | exact st_e (by decide) (by assumption) | exact st_e (by omega) (by assumption) | exact st_e (by decide) st_s | exact st_e (by omega) st_s | exact st_e (by decide) (st_e (by decide) (by assumption)) | exact st_e (by omega) (st_e (by omega) (by assumption))) (And.intro rfl (ab_inv_of hcall (by first | decide | omega) (by omega) (by omega) ?_)))
              intro r τ3 hpost
              obtain ⟨rfl, f3, T3, N3⟩ := hpost
              exact k16 τ3 _ _ (F2.tr f3) (X2.fr f3 (fun a h => h)) T3 N3 (by rw [e]) (fun _ => by rw [e])
          · have e : bodT f len K cc (pqT f len K cc m') i a2 = jnT f len (pqT f len K cc m') i (.inr a2) := by
              unfold bodT
              rw [if_neg (by omega), if_pos (by omega)]
            have e9 : ((o : Nat) : Int) + 1 = ((o + 1 : Nat) : Int) := by omega
            have hcall := c_readJoined hf hl d' m' (o + 1) hd1 hqq τ2 X2 i a2 (by omega) NL T2 N2 (by omega)
            rw [← e9] at hcall
            refine hA 9 _ rfl _ _ _ _ _ ?_
            refine Exists.intro _ (And.intro (by first | assumption | exact st_s | exact st_e (by decide) (by assumption) | exact st_e (by omega) (by assumption) | exact st_e (by decide) st_s | exact st_e (by omega) st_s | exact st_e (by decide) (st_e (by decide) (by assumption)) | exact st_e (by omega) (st_e (by omega) (by assumption))) (And.intro rfl (ab_inv_of hcall (by first | decide | omega) (by omega) (by omega) ?_)))
            intro r τ3 hpost
            obtain ⟨rfl, f3, T3, N3⟩ := hpost
            exact k16 τ3 _ _ (F2.tr f3) (X2.fr f3 (fun a h => h)) T3 N3 (by rw [e]) (fun _ => by rw [e])
        · have e : bodT f len K cc (pqT f len K cc m') i a2 = cmpT f len K cc i a2 := by
            unfold bodT
            rw [if_pos (by omega)]
          refine hA 7 _ rfl _ _ _ _ _ ?_
          refine Exists.intro _ (And.intro (by first | assumption | exact st_s | exact st_e (by decide) (by assumption) | exact st_e (by omega) (by assumption) | exact st_e (by decide) st_s | exact st_e (by omega) st_s | exact st_e (by decide) (st_e (by decide) (by assumption)) | exact st_e (by omega) (st_e (by omega) (by assumption))) (And.intro rfl (ab_inv_of (c_readComparison hf hl τ2 X2 i a2 (by omega) NL T2 N2 (by omega)) (by first | decide | omega) (by omega) (by omega) ?_)))
          intro r τ3 hpost
          obtain ⟨rfl, f3, T3, N3⟩ := hpost
          exact k16 τ3 _ _ (F2.tr f3) (X2.fr f3 (fun a h => h)) T3 N3 (by rw [e]) (fun _ => by rw [e])
      · exact absurd (show (1 : Int) = 0 from q) (by decide)
  obtain ⟨_, l29⟩ := N0.c29
  obtain ⟨_, _, _, _, -, -, t1⟩ := T0.cell
  have x3 := X0.2.1
  refine hA 0 _ rfl _ _ _ _ _ ?_
  refine Exists.intro _ (And.intro (by first | assumption | exact st_s | exact st_e (by decide) (by assumption) | exact st_e (by omega) (by assumption) | exact st_e (by decide) st_s | exact st_e (by omega) st_s | exact st_e (by decide) (st_e (by decide) (by assumption)) | exact st_e (by omega) (st_e (by omega) (by assumption))) ?_)
  refine Exists.intro _ (And.intro (by first | assumption | exact st_s | exact st_e (by decide) (by assumption) | exact st_e (by omega) (by assumption) | exact st_e (by decide) st_s | exact st_e (by omega) st_s | exact st_e (by decide) (st_e (by decide) (by assumption)) | exact st_e (by omega) (st_e (by omega) (by assumption))) (And.intro rfl (ab_inv_of (q_word T0 X0.1 hf (by omega) 2 (by omega)) (by first | decide | omega) (by omega) (by omega) ?_)))
  intro r τ1 hpost
  obtain ⟨rfl, f1, T1⟩ := hpost
  have X1 := X0.fr f1 tA_q
  have N1 := N0.fr f1 tA_n
  have F1 := F0.tr (f1.mono tA_q)
  obtain ⟨_, l29⟩ := N1.c29
  obtain ⟨_, _, _, _, -, -, t1⟩ := T1.cell
  rcases hW : (wrdT f len s 2).2 with e | a1
  · have T1' := T1
    rw [hW] at T1'
    refine Exists.intro _ (And.intro (by first | assumption | exact st_s | exact st_e (by decide) (by assumption) | exact st_e (by omega) (by assumption) | exact st_e (by decide) st_s | exact st_e (by omega) st_s | exact st_e (by decide) (st_e (by decide) (by assumption)) | exact st_e (by omega) (st_e (by omega) (by assumption))) ?_)
    refine Exists.intro _ (And.intro (by first | assumption | exact st_s | exact st_e (by decide) (by assumption) | exact st_e (by omega) (by assumption) | exact st_e (by decide) st_s | exact st_e (by omega) st_s | exact st_e (by decide) (st_e (by decide) (by assumption)) | exact st_e (by omega) (st_e (by omega) (by assumption))) (And.intro rfl (ab_inv_ev (q_sound T1) (by first | decide | omega) (by first | exact Nat.le_refl _ | omega) (by first | exact Nat.le_refl _ | omega) ?_)))
    refine And.intro (by first | assumption | exact b2i_R _ | exact rR (by omega) (by omega) | exact rR (by simp only [Int.toNat_natCast]; omega) (by simp only [Int.toNat_natCast]; omega)) (And.intro (fun q => ?_) (fun q => ?_))
    · exact k4 τ1 (.inl e) F1 X1 T1' N1 (by
        rw [hW]
        cases m with
        | zero => rfl
        | succ m' => rfl)
    · rw [hW] at q
      exact absurd rfl q
  · have T1' := T1
    rw [hW] at T1'
    refine Exists.intro _ (And.intro (by first | assumption | exact st_s | exact st_e (by decide) (by assumption) | exact st_e (by omega) (by assumption) | exact st_e (by decide) st_s | exact st_e (by omega) st_s | exact st_e (by decide) (st_e (by decide) (by assumption)) | exact st_e (by omega) (st_e (by omega) (by assumption))) ?_)
    refine Exists.intro _ (And.intro (by first | assumption | exact st_s | exact st_e (by decide) (by assumption) | exact st_e (by omega) (by assumption) | exact st_e (by decide) st_s | exact st_e (by omega) st_s | exact st_e (by decide) (st_e (by decide) (by assumption)) | exact st_e (by omega) (st_e (by omega) (by assumption))) (And.intro rfl (ab_inv_ev (q_sound T1) (by first | decide | omega) (by first | exact Nat.le_refl _ | omega) (by first | exact Nat.le_refl _ | omega) ?_)))
    refine And.intro (by first | assumption | exact b2i_R _ | exact rR (by omega) (by omega) | exact rR (by simp only [Int.toNat_natCast]; omega) (by simp only [Int.toNat_natCast]; omega)) (And.intro (fun q => ?_) (fun q => ?_))
    · rw [hW] at q
      exact absurd (show (1 : Int) = 0 from q) (by decide)
    · refine hA 1 _ rfl _ _ _ _ _ ?_
      refine Exists.intro _ (And.intro (by first | assumption | exact st_s | exact st_e (by decide) (by assumption) | exact st_e (by omega) (by assumption) | exact st_e (by decide) st_s | exact st_e (by omega) st_s | exact st_e (by decide) (st_e (by decide) (by assumption)) | exact st_e (by omega) (st_e (by omega) (by assumption))) ?_)
      refine Exists.intro _ (And.intro (by first | assumption | exact st_s | exact st_e (by decide) (by assumption) | exact st_e (by omega) (by assumption) | exact st_e (by decide) st_s | exact st_e (by omega) st_s | exact st_e (by decide) (st_e (by decide) (by assumption)) | exact st_e (by omega) (st_e (by omega) (by assumption))) (And.intro rfl (ab_inv_of (q_next T1' X1.1 hf (by omega) 40 (by omega) rfl) (by first | decide | omega) (by omega) (by omega) ?_)))
      intro r τ2 hpost
      obtain ⟨rfl, f2, T2, st, t2⟩ := hpost
      have N2 := N1.fr f2 tA_n
      have X2 := X1.fr f2 tA_q
      have F2 := F1.tr (f2.mono tA_q)
      refine And.intro (by first | assumption | exact b2i_R _ | exact rR (by omega) (by omega) | exact rR (by simp only [Int.toNat_natCast]; omega) (by simp only [Int.toNat_natCast]; omega)) (And.intro (fun q => ?_) (fun q => ?_))
      · have hq2 := beq_eq_false_iff_ne.mp (b2i_0 q)
        have hq2 : ¬ byt f len (skB f len a1) = 40 := hq2
        refine k4 τ2 (.inr a1) F2 X2 T2 N2 ?_
        rw [hW]
        cases m with
        | zero =>
          show signP f len a1 40 = if byt f len (skB f len a1) = 40 then _ else _
          rw [if_neg hq2]
          unfold signP
          rw [if_neg (by rw [beq_iff_eq]; exact hq2)]
        | succ m' => rfl
      · have hq2 := beq_iff_eq.mp (b2i_1 q)
        have hq2 : byt f len (skB f len a1) = 40 := hq2
        refine hA 2 _ rfl _ _ _ _ _ ?_
        refine And.intro (And.intro (by first | assumption | exact b2i_R _ | exact rR (by omega) (by omega) | exact rR (by simp only [Int.toNat_natCast]; omega) (by simp only [Int.toNat_natCast]; omega)) (by first | assumption | exact b2i_R _ | exact rR (by omega) (by omega) | exact rR (by simp only [Int.toNat_natCast]; omega) (by simp only [Int.toNat_natCast]; omega))) (And.intro (fun q => ?_) (fun q => ?_))
        · refine k4 τ2 (.inr a1) F2 X2 T2 N2 ?_
          rw [hW]
          cases m with
          | zero => omega
          | succ m' => rfl
        · have hm0 : m = 0 := by omega
          obtain ⟨_, l29⟩ := N2.c29
          refine hA 3 _ rfl _ _ _ _ _ ?_
          refine Exists.intro _ (And.intro (by first | assumption | exact st_s | exact st_e (by decide) (by assumption) | exact st_e (by omega) (by assumption) | exact st_e (by decide) st_s | exact st_e (by omega) st_s | exact st_e (by decide) (st_e (by decide) (by assumption)) | exact st_e (by omega) (st_e (by omega) (by assumption))) ?_)
          refine Exists.intro _ (And.intro (by first | assumption | exact st_s | exact st_e (by decide) (by assumption) | exact st_e (by omega) (by assumption) | exact st_e (by decide) st_s | exact st_e (by omega) st_s | exact st_e (by decide) (st_e (by decide) (by assumption)) | exact st_e (by omega) (st_e (by omega) (by assumption))) ?_)
          refine Exists.intro _ (And.intro (by first | assumption | exact st_s | exact st_e (by decide) (by assumption) | exact st_e (by omega) (by assumption) | exact st_e (by decide) st_s | exact st_e (by omega) st_s | exact st_e (by decide) (st_e (by decide) (by assumption)) | exact st_e (by omega) (st_e (by omega) (by assumption))) ?_)
          refine Exists.intro _ (And.intro (by first | assumption | exact st_s | exact st_e (by decide) (by assumption) | exact st_e (by omega) (by assumption) | exact st_e (by decide) st_s | exact st_e (by omega) st_s | exact st_e (by decide) (st_e (by decide) (by assumption)) | exact st_e (by omega) (st_e (by omega) (by assumption))) (And.intro rfl (ab_inv_of (q_fail T2 3 (skB f len a1 : Nat) (by decide) (rR (by omega) (by omega))) (by first | decide | omega) (by omega) (by omega) ?_)))
          intro r τ3 hpost
          obtain ⟨rfl, f3, T3⟩ := hpost
          refine k4 τ3 _ (F2.tr (f3.mono tA_q)) (X2.fr f3 tA_q) T3 (N2.fr f3 tA_n) ?_
          rw [hW, hm0]
          show _ = if byt f len (skB f len a1) = 40 then _ else _
          rw [if_pos hq2]
          rfl
theorem c_readCall (hf : byR f) (hl : len ≤ 200) : ∀ m o : Nat, o + m = 5 → RC n f len cc rows K va ad (8 + 2 * m) m o := by
  intro m
  induction m with
  | zero => intro o ho; exact c_readCall1 hf hl _ 0 o (by omega) ho (fun m' h => by omega)
  | succ m ih =>
    intro o ho
    refine c_readCall1 hf hl _ (m + 1) o (by omega) ho (fun m' h => ?_)
    have h : m = m' := by omega
    subst h
    exact ⟨8 + 2 * m, by omega, by omega, ih (o + 1) (by omega)⟩
end Read
