-- ===== the class's state =====
abbrev c9 (r : Nat → Nat) : ab_C := .inl (9, [rf 1, rf 3, rf 26, rf 28, rf 29, rf 33, rf 50, rf 53, rf 55, rf 56, .inl (r 0 : Nat), .inl (r 1 : Nat), .inl (r 2 : Nat)])
/-- what was there stays outside A; more may be made -/
def gr (A : Nat → Prop) (σ σ' : ab_H) : Prop := σ.1 ≤ σ'.1 ∧ ∀ a, a < σ.1 → ¬ A a → σ'.2 a = σ.2 a
theorem gr_rf (A : Nat → Prop) (σ : ab_H) : gr A σ σ := ⟨Nat.le_refl _, fun _ _ _ => rfl⟩
theorem gr.tr {A : Nat → Prop} {σ τ υ : ab_H} (h : gr A σ τ) (k : gr A τ υ) : gr A σ υ := ⟨Nat.le_trans h.1 k.1, fun a ha hn => (k.2 a (Nat.lt_of_lt_of_le ha h.1) hn).trans (h.2 a ha hn)⟩
theorem gr.mono {A B : Nat → Prop} {σ τ : ab_H} (h : gr A σ τ) (k : ∀ a, A a → B a) : gr B σ τ := ⟨h.1, fun a ha hn => h.2 a ha (fun q => hn (k a q))⟩
theorem fr.gr {A : Nat → Prop} {σ τ : ab_H} (h : fr A σ τ) : gr A σ τ := ⟨Nat.le_of_eq h.1.symm, fun a _ hn => h.2 a hn⟩
theorem gr_q {A : Nat → Prop} {σ τ : ab_H} (h : gr A σ τ) {q : Nat} (hq : τ.1 ≤ q) : gr A σ (q, τ.2) := ⟨Nat.le_trans h.1 hq, h.2⟩
def TP (σ : ab_H) (f : Nat → Int) (n : Nat) (pl : Int) : Prop := (∃ len a st k : Int, σ.2 1 = some (tpc n len a st k pl)) ∧ σ.2 2 = some (bya f) ∧ byR f ∧ n ≤ 400
def TBL (σ : ab_H) (cc rows : Nat) (K : Nat → CT) (va : Nat → Nat → Nat) (ad : Nat → Nat) (R : Nat → V1) : Prop := σ.2 3 = some (tbc cc rows) ∧ rows ≤ 1500 ∧ σ.2 5 = some rsc ∧ IsCs σ cc rows K va ad ∧ (∀ i, i < 7 → IsB σ (12 + 2 * i) (R i)) ∧ ∀ i, i < 7 → ∀ r, rows ≤ r → bit (R i) r = false
def SCR (σ : ab_H) : Prop := (∃ e, IsB σ 6 e) ∧ (∃ t, σ.2 8 = some (ints 200 t)) ∧ (∃ ar, σ.2 9 = some (ints 1500 ar) ∧ ∀ r, ar r < 1000) ∧ (∃ m, σ.2 10 = some (ints 200 m) ∧ ∀ j, m j < 32768) ∧ ∃ mb, σ.2 11 = some (.inr (.inl (0, 200, mb)))
def TXT (σ : ab_H) : Prop := C26 σ ∧ σ.2 28 = some (.inl (8, [rf 1])) ∧ NS σ false []
def ANS (σ : ab_H) : Prop := σ.2 33 = some anc ∧ σ.2 34 = some (.inr (.inr (0, 6, fun i => some (38 + 2 * i)))) ∧ (∃ g, σ.2 37 = some (.inr (.inl (0, 3, g)))) ∧ (∃ S, sk6 σ S) ∧ ∃ s, IsB σ 35 s
def OTH (σ : ab_H) (c : C3) : Prop := SE0 σ ∧ (∃ s, IsB σ 53 s) ∧ (∃ g, σ.2 55 = some (.inr (.inl (0, 4, g)))) ∧ (∃ g, σ.2 56 = some (.inr (.inl (0, 3, g))) ∧ g 0 = (c.1 : Nat) ∧ g 1 = (c.2.1 : Nat) ∧ g 2 = (c.2.2 : Nat)) ∧ 320 ≤ σ.1
def CI (σ : ab_H) (cc rows : Nat) (K : Nat → CT) (va : Nat → Nat → Nat) (ad : Nat → Nat) (R : Nat → V1) (f : Nat → Int) (n : Nat) (pl : Int) (c : C3) (r : Nat → Nat) : Prop := σ.2 0 = some (c9 r) ∧ TP σ f n pl ∧ TBL σ cc rows K va ad R ∧ SCR σ ∧ TXT σ ∧ ANS σ ∧ OTH σ c
theorem IsB.gr {A : Nat → Prop} {σ σ' : ab_H} {h : Nat} {g : Nat → Nat} (hB : IsB σ h g) (hf : gr A σ σ') (hl : h + 1 < σ.1) (h1 : ¬ A h) (h2 : ¬ A (h + 1)) : IsB σ' h g := ⟨(hf.2 _ (by omega) h1).trans hB.1, (hf.2 _ hl h2).trans hB.2.1, hB.2.2⟩
theorem IsCs.gr {A : Nat → Prop} {σ σ' : ab_H} {cc rows : Nat} {K : Nat → CT} {va : Nat → Nat → Nat} {ad : Nat → Nat} (hC : IsCs σ cc rows K va ad) (hf : gr A σ σ') (hs : 320 ≤ σ.1) (h4 : ¬ A 4) (hA : ∀ a, 320 ≤ a → ¬ A a) : IsCs σ' cc rows K va ad := by
  obtain ⟨h1, ⟨B, h2, h3⟩, h5⟩ := hC
  refine ⟨h1, ⟨B, (hf.2 _ (by omega) h4).trans h2, h3⟩, fun c hc => ?_⟩
  obtain ⟨k1, k2, k3, k4, k5, k6⟩ := h5 c hc
  refine ⟨k1, k2, ?_, k4, Nat.le_trans k5 hf.1, k6⟩
  obtain ⟨m0, m1, m2, m3, m4, m5, m6⟩ := k3
  have g : ∀ a, ad c ≤ a → a < ad c + 6 + 2 * fsp (K c).1 (K c).2.2.2 (K c).2.2.1 → σ'.2 a = σ.2 a := fun a h1 h2 => hf.2 a (by omega) (hA a (by omega))
  exact ⟨(g _ (by omega) (by omega)).trans m0, (g _ (by omega) (by omega)).trans m1, (g _ (by omega) (by omega)).trans m2, (g _ (by omega) (by omega)).trans m3, (g _ (by omega) (by omega)).trans m4, (g _ (by omega) (by omega)).trans m5, fun i hi => ⟨(g _ (by omega) (by omega)).trans (m6 i hi).1, (g _ (by omega) (by omega)).trans (m6 i hi).2.1, (m6 i hi).2.2⟩⟩
section CIgr
variable {A : Nat → Prop} {σ σ' : ab_H}
theorem TP.gr {f : Nat → Int} {n : Nat} {pl : Int} (h : TP σ f n pl) (hf : gr A σ σ') (hs : 320 ≤ σ.1) (hA : ¬ A 1 ∧ ¬ A 2) : TP σ' f n pl := by
  obtain ⟨⟨len, a, st, k, h1⟩, h2, h3⟩ := h
  exact ⟨⟨len, a, st, k, (hf.2 _ (by omega) hA.1).trans h1⟩, (hf.2 _ (by omega) hA.2).trans h2, h3⟩
theorem TBL.gr {cc rows : Nat} {K : Nat → CT} {va : Nat → Nat → Nat} {ad : Nat → Nat} {R : Nat → V1} (h : TBL σ cc rows K va ad R) (hf : gr A σ σ') (hs : 320 ≤ σ.1) (hA : ∀ a, (3 ≤ a ∧ a ≤ 5) ∨ (12 ≤ a ∧ a ≤ 25) ∨ 320 ≤ a → ¬ A a) : TBL σ' cc rows K va ad R := by
  obtain ⟨h1, h2, h3, h4, h5, h6⟩ := h
  exact ⟨(hf.2 _ (by omega) (hA _ (by omega))).trans h1, h2, (hf.2 _ (by omega) (hA _ (by omega))).trans h3, h4.gr hf hs (hA _ (by omega)) (fun a ha => hA a (by omega)), fun i hi => (h5 i hi).gr hf (by omega) (hA _ (by omega)) (hA _ (by omega)), h6⟩
theorem SCR.gr (h : SCR σ) (hf : gr A σ σ') (hs : 320 ≤ σ.1) (hA : ∀ a, 6 ≤ a → a ≤ 11 → ¬ A a) : SCR σ' := by
  obtain ⟨⟨e, h1⟩, ⟨t, h2⟩, ⟨ar, h3, h4⟩, ⟨m, h5, h6⟩, mb, h7⟩ := h
  exact ⟨⟨e, h1.gr hf (by omega) (hA _ (by omega) (by omega)) (hA _ (by omega) (by omega))⟩, ⟨t, (hf.2 _ (by omega) (hA _ (by omega) (by omega))).trans h2⟩, ⟨ar, (hf.2 _ (by omega) (hA _ (by omega) (by omega))).trans h3, h4⟩, ⟨m, (hf.2 _ (by omega) (hA _ (by omega) (by omega))).trans h5, h6⟩, mb, (hf.2 _ (by omega) (hA _ (by omega) (by omega))).trans h7⟩
theorem TXT.gr (h : TXT σ) (hf : gr A σ σ') (hs : 320 ≤ σ.1) (hA : ∀ a, 26 ≤ a → a ≤ 32 → ¬ A a) : TXT σ' := by
  obtain ⟨⟨p, q, g, h1, h2⟩, h3, L, cl, co, nu, l1, l2, l3, l4, l5, l6⟩ := h
  exact ⟨⟨p, q, g, (hf.2 _ (by omega) (hA _ (by omega) (by omega))).trans h1, (hf.2 _ (by omega) (hA _ (by omega) (by omega))).trans h2⟩, (hf.2 _ (by omega) (hA _ (by omega) (by omega))).trans h3, L, cl, co, nu, l1, (hf.2 _ (by omega) (hA _ (by omega) (by omega))).trans l2, (hf.2 _ (by omega) (hA _ (by omega) (by omega))).trans l3, (hf.2 _ (by omega) (hA _ (by omega) (by omega))).trans l4, (hf.2 _ (by omega) (hA _ (by omega) (by omega))).trans l5, l6⟩
theorem ANS.gr (h : ANS σ) (hf : gr A σ σ') (hs : 320 ≤ σ.1) (hA : ∀ a, 33 ≤ a → a ≤ 49 → ¬ A a) : ANS σ' := by
  obtain ⟨h1, h2, ⟨g, h3⟩, ⟨S, h4⟩, s, h5⟩ := h
  exact ⟨(hf.2 _ (by omega) (hA _ (by omega) (by omega))).trans h1, (hf.2 _ (by omega) (hA _ (by omega) (by omega))).trans h2, ⟨g, (hf.2 _ (by omega) (hA _ (by omega) (by omega))).trans h3⟩, ⟨S, fun j hj => (h4 j hj).gr hf (by omega) (hA _ (by omega) (by omega)) (hA _ (by omega) (by omega))⟩, s, h5.gr hf (by omega) (hA _ (by omega) (by omega)) (hA _ (by omega) (by omega))⟩
theorem SE0.gr (h : SE0 σ) (hf : gr A σ σ') (hs : 320 ≤ σ.1) (hA : ∀ a, 50 ≤ a → a ≤ 52 → ¬ A a) : SE0 σ' := by
  obtain ⟨⟨c, k, b, p, s, h1⟩, ⟨tt, h2⟩, gg, h3⟩ := h
  exact ⟨⟨c, k, b, p, s, (hf.2 _ (by omega) (hA _ (by omega) (by omega))).trans h1⟩, ⟨tt, (hf.2 _ (by omega) (hA _ (by omega) (by omega))).trans h2⟩, gg, (hf.2 _ (by omega) (hA _ (by omega) (by omega))).trans h3⟩
theorem OTH.gr {c : C3} (h : OTH σ c) (hf : gr A σ σ') (hA : ∀ a, 50 ≤ a → a ≤ 56 → ¬ A a) : OTH σ' c := by
  obtain ⟨h1, ⟨s, h2⟩, ⟨g, h3⟩, ⟨g6, h4, h4b⟩, h5⟩ := h
  exact ⟨h1.gr hf h5 (fun a k1 k2 => hA a k1 (by omega)), ⟨s, h2.gr hf (by omega) (hA _ (by omega) (by omega)) (hA _ (by omega) (by omega))⟩, ⟨g, (hf.2 _ (by omega) (hA _ (by omega) (by omega))).trans h3⟩, ⟨g6, (hf.2 _ (by omega) (hA _ (by omega) (by omega))).trans h4, h4b⟩, Nat.le_trans h5 hf.1⟩
end CIgr
/-- the cells of the class -/
def fcA (a : Nat) : Prop := a ≤ 56 ∨ 320 ≤ a
/-- how a call that changes nothing but what it counts ends -/
def pureP (σ : ab_H) (cc rows : Nat) (K : Nat → CT) (va : Nat → Nat → Nat) (ad : Nat → Nat) (R : Nat → V1) (f : Nat → Int) (n : Nat) (pl : Int) (c : C3) (r : Nat → Nat) (o : Int ⊕ Nat) (z : ab_O) (σ' : ab_H) : Prop := gr fcA σ σ' ∧ match o with
  | .inl x => z = .inl (some (.inl x)) ∧ CI σ' cc rows K va ad R f n pl c r
  | .inr i => z = .inr i ∧ CI σ' cc rows K va ad R f n pl c (ab_up r i (r i + 1))
section Face0
variable {σ : ab_H} {cc rows : Nat} {K : Nat → CT} {va : Nat → Nat → Nat} {ad : Nat → Nat} {R : Nat → V1} {f : Nat → Int} {n : Nat} {pl : Int} {c : C3} {r : Nat → Nat}
theorem CI.s (h : CI σ cc rows K va ad R f n pl c r) : 320 ≤ σ.1 := h.2.2.2.2.2.2.2.2.2.2
/-- a heap in which only the counters changed -/
theorem CI.cnt0 (h : CI σ cc rows K va ad R f n pl c r) {r' : Nat → Nat} {q : Nat} (hq : σ.1 ≤ q) : CI (q, (ab_st σ 0 (c9 r')).2) cc rows K va ad R f n pl c r' := by
  have hs := h.s
  have hg : gr (fun a => a = 0) σ (q, (ab_st σ 0 (c9 r')).2) := gr_q (τ := ab_st σ 0 (c9 r')) (fr.gr (A := fun a => a = 0) (fr_st rfl)) hq
  obtain ⟨h0, h1, h2, h3, h4, h5, h6⟩ := h
  exact ⟨(st_s : (ab_st σ 0 (c9 r')).2 0 = _), h1.gr hg hs (by omega), h2.gr hg hs (fun a _ => by omega), h3.gr hg hs (fun a _ _ => by omega), h4.gr hg hs (fun a _ _ => by omega), h5.gr hg hs (fun a _ _ => by omega), h6.gr hg (fun a _ _ => by omega)⟩
/-- a refusal, or none -/
def ndP (σ : ab_H) (r : Nat → Nat) (i : Nat) (b : Bool) (z : ab_O) (σ' : ab_H) : Prop := (b = true ∧ z = .inl none ∧ σ' = σ) ∨ (b = false ∧ z = .inr i ∧ ∃ q, σ.1 ≤ q ∧ σ' = (q, (ab_st σ 0 (c9 (ab_up r i (r i + 1)))).2))
set_option maxRecDepth 100000 in
set_option maxHeartbeats 1000000 in
theorem c_needElement (h0 : σ.2 0 = some (c9 r)) (b : Bool) : ab_call 6 1 6 yX9_needElement [rf 0, .inl (b2i b)] σ (ndP σ r 0 b) := by
  refine eX9_needElement rfl (fun At hA => ?_)
  refine hA 0 _ rfl _ _ _ _ _ ?_
  refine And.intro (by first | assumption | exact b2i_R _ | exact rR (by omega) (by omega) | exact rR (by simp only [Int.toNat_natCast]; omega) (by simp only [Int.toNat_natCast]; omega)) (And.intro (fun q => ?_) (fun q => ?_))
  · refine hA 2 _ rfl _ _ _ _ _ ?_
    exact Or.inl ⟨b2i_1 q, rfl, rfl⟩
  · have hb := b2i_0 q
    refine hA 1 _ rfl _ _ _ _ _ ?_
    refine Exists.intro _ (And.intro (by first | assumption | exact st_s | exact st_e (by decide) (by assumption) | exact st_e (by omega) (by assumption) | exact st_e (by decide) st_s | exact st_e (by omega) st_s | exact st_e (by decide) (st_e (by decide) (by assumption)) | exact st_e (by omega) (st_e (by omega) (by assumption))) ?_)
    refine Exists.intro _ (And.intro (by first | assumption | exact st_s | exact st_e (by decide) (by assumption) | exact st_e (by omega) (by assumption) | exact st_e (by decide) st_s | exact st_e (by omega) st_s | exact st_e (by decide) (st_e (by decide) (by assumption)) | exact st_e (by omega) (st_e (by omega) (by assumption))) ?_)
    refine And.intro (by first | decide | omega) (fun z hz => ?_)
    exact Or.inr ⟨hb, rfl, z, hz, rfl⟩
set_option maxRecDepth 100000 in
set_option maxHeartbeats 1000000 in
theorem c_needArgument (h0 : σ.2 0 = some (c9 r)) (b : Bool) : ab_call 6 1 6 yX9_needArgument [rf 0, .inl (b2i b)] σ (ndP σ r 1 b) := by
  refine eX9_needArgument rfl (fun At hA => ?_)
  refine hA 0 _ rfl _ _ _ _ _ ?_
  refine And.intro (by first | assumption | exact b2i_R _ | exact rR (by omega) (by omega) | exact rR (by simp only [Int.toNat_natCast]; omega) (by simp only [Int.toNat_natCast]; omega)) (And.intro (fun q => ?_) (fun q => ?_))
  · refine hA 2 _ rfl _ _ _ _ _ ?_
    exact Or.inl ⟨b2i_1 q, rfl, rfl⟩
  · have hb := b2i_0 q
    refine hA 1 _ rfl _ _ _ _ _ ?_
    refine Exists.intro _ (And.intro (by first | assumption | exact st_s | exact st_e (by decide) (by assumption) | exact st_e (by omega) (by assumption) | exact st_e (by decide) st_s | exact st_e (by omega) st_s | exact st_e (by decide) (st_e (by decide) (by assumption)) | exact st_e (by omega) (st_e (by omega) (by assumption))) ?_)
    refine Exists.intro _ (And.intro (by first | assumption | exact st_s | exact st_e (by decide) (by assumption) | exact st_e (by omega) (by assumption) | exact st_e (by decide) st_s | exact st_e (by omega) st_s | exact st_e (by decide) (st_e (by decide) (by assumption)) | exact st_e (by omega) (st_e (by omega) (by assumption))) ?_)
    refine And.intro (by first | decide | omega) (fun z hz => ?_)
    exact Or.inr ⟨hb, rfl, z, hz, rfl⟩
set_option maxRecDepth 100000 in
set_option maxHeartbeats 1000000 in
theorem c_needState (h0 : σ.2 0 = some (c9 r)) (b : Bool) : ab_call 6 1 6 yX9_needState [rf 0, .inl (b2i b)] σ (ndP σ r 2 b) := by
  refine eX9_needState rfl (fun At hA => ?_)
  refine hA 0 _ rfl _ _ _ _ _ ?_
  refine And.intro (by first | assumption | exact b2i_R _ | exact rR (by omega) (by omega) | exact rR (by simp only [Int.toNat_natCast]; omega) (by simp only [Int.toNat_natCast]; omega)) (And.intro (fun q => ?_) (fun q => ?_))
  · refine hA 2 _ rfl _ _ _ _ _ ?_
    exact Or.inl ⟨b2i_1 q, rfl, rfl⟩
  · have hb := b2i_0 q
    refine hA 1 _ rfl _ _ _ _ _ ?_
    refine Exists.intro _ (And.intro (by first | assumption | exact st_s | exact st_e (by decide) (by assumption) | exact st_e (by omega) (by assumption) | exact st_e (by decide) st_s | exact st_e (by omega) st_s | exact st_e (by decide) (st_e (by decide) (by assumption)) | exact st_e (by omega) (st_e (by omega) (by assumption))) ?_)
    refine Exists.intro _ (And.intro (by first | assumption | exact st_s | exact st_e (by decide) (by assumption) | exact st_e (by omega) (by assumption) | exact st_e (by decide) st_s | exact st_e (by omega) st_s | exact st_e (by decide) (st_e (by decide) (by assumption)) | exact st_e (by omega) (st_e (by omega) (by assumption))) ?_)
    refine And.intro (by first | decide | omega) (fun z hz => ?_)
    exact Or.inr ⟨hb, rfl, z, hz, rfl⟩
end Face0
