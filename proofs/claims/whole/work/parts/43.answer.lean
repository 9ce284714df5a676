-- ===== answers: notes gone over =====
def leA (h : Nat) (a : Nat) : Prop := a = 36 ∨ a = 37 ∨ a = h + 1
/-- a bitmap at h, what it cost, the spare one at 35 -/
def lzF (σ τ : ab_H) (h : Nat) (z : Z4) : Prop := fr (leA h) σ τ ∧ IsB τ h z.1 ∧ (∃ s : V1, IsB τ 35 s) ∧ τ.2 37 = some (spc z.2)
theorem leA_r {h : Nat} (hh : 38 ≤ h ∧ h ≤ 48) : ∀ a, leA h a → 34 ≤ a ∧ a < 320 := fun a ha => by
  unfold leA at ha
  omega
theorem lzS.lf {σ τ : ab_H} {h : Nat} {z : Z4} (hh : 38 ≤ h ∧ h ≤ 48) (hL : lzS σ τ h z) {s : V1} (hs : IsB σ 35 s) : lzF σ τ h z := by
  obtain ⟨h1, h2, h3⟩ := hL
  refine ⟨h1.mono (fun a ha => ?_), h2, ⟨s, hs.fr h1 ?_ ?_⟩, h3⟩
  · unfold lfA at ha
    unfold leA
    omega
  · unfold lfA; omega
  · unfold lfA; omega
section Ans
variable {σ : ab_H} {cc rows : Nat} {x : Nat} {ρ : Bool} {card parts : Nat} {b w : Nat → Nat} {G : Nat → V1} {c : C3}
theorem okh_of {h : Nat} (hh : 38 ≤ h ∧ h ≤ 48) : okh h := by unfold okh; omega
theorem digZ_lt {ρ : Bool} {B : Nat → Nat → V1} (hB : ∀ p j i, B p j i < 32768) (p y : Nat) (c : C3) : ∀ i, (digZ rows b B ρ p y c).1 i < 32768 := fun i => by
  unfold digZ
  split
  · exact hB _ _ _
  · split
    · exact tn_lt _ _ _
    · exact jo_lt (k := 2) (hB p y i) (hB p (y - 1) i)
set_option maxRecDepth 100000 in
set_option maxHeartbeats 1000000 in
theorem c_makeEqual (hX : lzX σ cc rows x ρ card parts b w G) (h37 : σ.2 37 = some (spc c)) {h : Nat} (hh : 38 ≤ h ∧ h ≤ 48) {v0 s0 : V1} (hB : IsB σ h v0) (hS : IsB σ 35 s0) (n : Nat) (hn : n < 1000) : ab_call 5 0 0 yX0_makeEqual [rf 33, rf x, .inl n, rf h] σ (fun r σ' => r = .inl none ∧ lzF σ σ' h (eqZ rows b (BB ρ b G) ρ parts n c)) := by
  obtain ⟨x33, x3, xr, x320, xo, xC⟩ := id hX
  obtain ⟨o1, o2, o3, o4, o5, o6⟩ := id xo
  have xC0 := xC.1
  have hok := okh_of hh
  refine eX0_makeEqual rfl (fun At hA => ?_)
  have loop : ∀ (m p : Nat) (τ : ab_H), p + 1 + m = parts → lzF σ τ h (zf (eqZs rows b (BB ρ b G) ρ n) (digZ rows b (BB ρ b G) ρ 0 (dig b 0 n) c) p) → At 1 [some (rf 33), some (rf x), some (.inl n), some (rf h), some (.inl ((p + 1 : Nat) : Int))] [] τ 0 0 := by
    intro m
    induction m with
    | zero =>
      intro p τ hp hL
      have hX1 := hX.fr hL.1 (leA_r hh)
      have q0 := hX1.2.2.2.2.2.1
      refine hA 1 _ rfl _ _ _ _ _ ?_
      refine Exists.intro _ (And.intro (by first | assumption | exact st_s | exact st_e (by decide) (by assumption) | exact st_e (by omega) (by assumption) | exact st_e (by decide) st_s | exact st_e (by omega) st_s | exact st_e (by decide) (st_e (by decide) (by assumption)) | exact st_e (by omega) (st_e (by omega) (by assumption))) ?_)
      refine And.intro (And.intro (by first | assumption | exact b2i_R _ | exact rR (by omega) (by omega) | exact rR (by simp only [Int.toNat_natCast]; omega) (by simp only [Int.toNat_natCast]; omega)) (by first | assumption | exact b2i_R _ | exact rR (by omega) (by omega) | exact rR (by simp only [Int.toNat_natCast]; omega) (by simp only [Int.toNat_natCast]; omega))) (And.intro (fun q => ?_) (fun q => ?_))
      · refine hA 3 _ rfl _ _ _ _ _ ?_
        refine ⟨rfl, ?_⟩
        unfold eqZ
        rw [show parts - 1 = p by omega]
        exact hL
      · omega
    | succ m ih =>
      intro p τ hp hL
      have hX1 := hX.fr hL.1 (leA_r hh)
      obtain ⟨q33, q3, -, -, -, qC⟩ := id hX1
      have q0 := qC.1
      have hd := dig_lt o3 (p + 1) n
      obtain ⟨g1, g2, ⟨s, g3⟩, g4⟩ := id hL
      refine hA 1 _ rfl _ _ _ _ _ ?_
      refine Exists.intro _ (And.intro (by first | assumption | exact st_s | exact st_e (by decide) (by assumption) | exact st_e (by omega) (by assumption) | exact st_e (by decide) st_s | exact st_e (by omega) st_s | exact st_e (by decide) (st_e (by decide) (by assumption)) | exact st_e (by omega) (st_e (by omega) (by assumption))) ?_)
      refine And.intro (And.intro (by first | assumption | exact b2i_R _ | exact rR (by omega) (by omega) | exact rR (by simp only [Int.toNat_natCast]; omega) (by simp only [Int.toNat_natCast]; omega)) (by first | assumption | exact b2i_R _ | exact rR (by omega) (by omega) | exact rR (by simp only [Int.toNat_natCast]; omega) (by simp only [Int.toNat_natCast]; omega))) (And.intro (fun q => ?_) (fun q => ?_))
      · omega
      · refine hA 2 _ rfl _ _ _ _ _ ?_
        refine Exists.intro _ (And.intro (by first | assumption | exact st_s | exact st_e (by decide) (by assumption) | exact st_e (by omega) (by assumption) | exact st_e (by decide) st_s | exact st_e (by omega) st_s | exact st_e (by decide) (st_e (by decide) (by assumption)) | exact st_e (by omega) (st_e (by omega) (by assumption))) (And.intro rfl (ab_inv_ev (c_digitOf qC xo (p + 1) n (by omega) (by omega)) (by first | decide | omega) (Nat.le_refl _) (Nat.le_refl _) ?_)))
        refine Exists.intro _ (And.intro (by first | assumption | exact st_s | exact st_e (by decide) (by assumption) | exact st_e (by omega) (by assumption) | exact st_e (by decide) st_s | exact st_e (by omega) st_s | exact st_e (by decide) (st_e (by decide) (by assumption)) | exact st_e (by omega) (st_e (by omega) (by assumption))) ?_)
        refine Exists.intro _ (And.intro (by first | assumption | exact st_s | exact st_e (by decide) (by assumption) | exact st_e (by omega) (by assumption) | exact st_e (by decide) st_s | exact st_e (by omega) st_s | exact st_e (by decide) (st_e (by decide) (by assumption)) | exact st_e (by omega) (st_e (by omega) (by assumption))) (And.intro rfl (ab_inv_of (c_makeDigit hX1 g4 (h := 35) (by unfold okh; omega) g3 (p + 1) (dig b (p + 1) n) (by omega) hd) (by first | decide | omega) (by omega) (by omega) ?_)))
        intro r υ hpost
        obtain ⟨rfl, hLd⟩ := hpost
        have hX2 := hX1.fr hLd.1 (lfA_r (by unfold okh; omega))
        obtain ⟨r33, r3, -, -, -, rC⟩ := id hX2
        have rB : IsB υ h (zf (eqZs rows b (BB ρ b G) ρ n) (digZ rows b (BB ρ b G) ρ 0 (dig b 0 n) c) p).1 := g2.fr hLd.1 (by unfold lfA; omega) (by unfold lfA; omega)
        refine Exists.intro _ (And.intro (by first | assumption | exact st_s | exact st_e (by decide) (by assumption) | exact st_e (by omega) (by assumption) | exact st_e (by decide) st_s | exact st_e (by omega) st_s | exact st_e (by decide) (st_e (by decide) (by assumption)) | exact st_e (by omega) (st_e (by omega) (by assumption))) ?_)
        refine Exists.intro _ (And.intro (by first | assumption | exact st_s | exact st_e (by decide) (by assumption) | exact st_e (by omega) (by assumption) | exact st_e (by decide) st_s | exact st_e (by omega) st_s | exact st_e (by decide) (st_e (by decide) (by assumption)) | exact st_e (by omega) (st_e (by omega) (by assumption))) (And.intro rfl (ab_inv_ev (c_join (k := 0) r33 r3 xr hLd.2.2 (by omega) rB hLd.2.1 (by omega)) (by first | decide | omega) (Nat.le_refl _) (Nat.le_refl _) ?_)))
        refine ih (p + 1) _ (by omega) ⟨((g1.tr (hLd.1.mono (fun a ha => by unfold lfA at ha; unfold leA; omega))).st (Or.inr (Or.inl rfl))).st (Or.inr (Or.inr rfl)), (rB.ne (by omega) (by omega)).st (fun i => jo_lt (rB.2.2 i) (hLd.2.1.2.2 i)), ⟨_, (hLd.2.1.ne (by omega) (by omega)).ne (by omega) (by omega)⟩, st_e (by omega) st_s⟩
  have hd := dig_lt o3 0 n
  refine hA 0 _ rfl _ _ _ _ _ ?_
  refine Exists.intro _ (And.intro (by first | assumption | exact st_s | exact st_e (by decide) (by assumption) | exact st_e (by omega) (by assumption) | exact st_e (by decide) st_s | exact st_e (by omega) st_s | exact st_e (by decide) (st_e (by decide) (by assumption)) | exact st_e (by omega) (st_e (by omega) (by assumption))) (And.intro rfl (ab_inv_ev (c_digitOf xC xo 0 n (by omega) (by omega)) (by first | decide | omega) (Nat.le_refl _) (Nat.le_refl _) ?_)))
  refine Exists.intro _ (And.intro (by first | assumption | exact st_s | exact st_e (by decide) (by assumption) | exact st_e (by omega) (by assumption) | exact st_e (by decide) st_s | exact st_e (by omega) st_s | exact st_e (by decide) (st_e (by decide) (by assumption)) | exact st_e (by omega) (st_e (by omega) (by assumption))) (And.intro rfl (ab_inv_of (c_makeDigit hX h37 hok hB 0 (dig b 0 n) (by omega) hd) (by first | decide | omega) (by omega) (by omega) ?_)))
  intro r τ hpost
  obtain ⟨rfl, hLd⟩ := hpost
  exact loop (parts - 1) 0 τ (by omega) (hLd.lf hh hS)
set_option maxRecDepth 100000 in
set_option maxHeartbeats 1000000 in
theorem c_makeUpTo (hX : lzX σ cc rows x ρ card parts b w G) (h37 : σ.2 37 = some (spc c)) {h : Nat} (hh : 38 ≤ h ∧ h ≤ 48) {v0 s0 : V1} (hB : IsB σ h v0) (hS : IsB σ 35 s0) (n : Nat) (hn : n < 1000) : ab_call 5 0 0 yX0_makeUpTo [rf 33, rf x, .inl n, rf h] σ (fun r σ' => r = .inl none ∧ lzF σ σ' h (if ρ then leR rows b (BB ρ b G) parts n c else leE rows b (BB ρ b G) parts n c)) := by
  obtain ⟨x33, x3, xr, x320, xo, xC⟩ := id hX
  have xC0 := xC.1
  have hok := okh_of hh
  refine eX0_makeUpTo rfl (fun At hA => ?_)
  refine hA 0 _ rfl _ _ _ _ _ ?_
  refine Exists.intro _ (And.intro (by first | assumption | exact st_s | exact st_e (by decide) (by assumption) | exact st_e (by omega) (by assumption) | exact st_e (by decide) st_s | exact st_e (by omega) st_s | exact st_e (by decide) (st_e (by decide) (by assumption)) | exact st_e (by omega) (st_e (by omega) (by assumption))) ?_)
  refine And.intro (by first | assumption | exact b2i_R _ | exact rR (by omega) (by omega) | exact rR (by simp only [Int.toNat_natCast]; omega) (by simp only [Int.toNat_natCast]; omega)) (And.intro (fun q => ?_) (fun q => ?_))
  · have hq := b2i_0 q
    subst hq
    refine hA 2 _ rfl _ _ _ _ _ ?_
    refine Exists.intro _ (And.intro (by first | assumption | exact st_s | exact st_e (by decide) (by assumption) | exact st_e (by omega) (by assumption) | exact st_e (by decide) st_s | exact st_e (by omega) st_s | exact st_e (by decide) (st_e (by decide) (by assumption)) | exact st_e (by omega) (st_e (by omega) (by assumption))) (And.intro rfl (ab_inv_of (c_makeUpToByEqual hX h37 hok hB n hn) (by first | decide | omega) (by omega) (by omega) ?_)))
    intro r τ hpost
    obtain ⟨rfl, hL⟩ := hpost
    refine hA 3 _ rfl _ _ _ _ _ ?_
    exact ⟨rfl, hL.lf hh hS⟩
  · have hq := b2i_1 q
    subst hq
    refine hA 1 _ rfl _ _ _ _ _ ?_
    refine Exists.intro _ (And.intro (by first | assumption | exact st_s | exact st_e (by decide) (by assumption) | exact st_e (by omega) (by assumption) | exact st_e (by decide) st_s | exact st_e (by omega) st_s | exact st_e (by decide) (st_e (by decide) (by assumption)) | exact st_e (by omega) (st_e (by omega) (by assumption))) (And.intro rfl (ab_inv_of (c_makeUpToByRange hX h37 hok hB n hn) (by first | decide | omega) (by omega) (by omega) ?_)))
    intro r τ hpost
    obtain ⟨rfl, hL⟩ := hpost
    refine hA 3 _ rfl _ _ _ _ _ ?_
    exact ⟨rfl, hL.lf hh hS⟩
end Ans
/-- what answering finds and leaves: columns, results and live, the spare bitmap -/
def anX (σ : ab_H) (cc rows : Nat) (K : Nat → CT) (va : Nat → Nat → Nat) (ad : Nat → Nat) (R : Nat → V1) : Prop := σ.2 33 = some anc ∧ σ.2 3 = some (tbc cc rows) ∧ rows ≤ 1500 ∧ σ.2 5 = some rsc ∧ IsCs σ cc rows K va ad ∧ (∀ i, i < 7 → IsB σ (12 + 2 * i) (R i)) ∧ σ.2 34 = some (.inr (.inr (0, 6, fun i => some (38 + 2 * i))))
def anA (a : Nat) : Prop := 35 ≤ a ∧ a ≤ 49
theorem anX.fr {σ τ : ab_H} {cc rows : Nat} {K : Nat → CT} {va : Nat → Nat → Nat} {ad : Nat → Nat} {R : Nat → V1} (h : anX σ cc rows K va ad R) {A : Nat → Prop} (hf : fr A σ τ) (hA : ∀ a, A a → anA a) : anX τ cc rows K va ad R := by
  obtain ⟨h1, h2, h3, h4, h5, h6, h7⟩ := h
  have n : ∀ a, a < 35 ∨ 49 < a → ¬ A a := fun a ha hq => by have := hA a hq; unfold anA at this; omega
  exact ⟨(hf.2 _ (n _ (by omega))).trans h1, (hf.2 _ (n _ (by omega))).trans h2, h3, (hf.2 _ (n _ (by omega))).trans h4, h5.fr hf (n _ (by omega)) (fun a ha => n a (by omega)), fun i hi => (h6 i hi).fr hf (n _ (by omega)) (n _ (by omega)), (hf.2 _ (n _ (by omega))).trans h7⟩
theorem leA_a {h : Nat} (hh : 38 ≤ h ∧ h ≤ 48) : ∀ a, leA h a → anA a := fun a ha => by
  unfold leA at ha
  unfold anA
  omega
/-- the bitmaps of column c -/
abbrev BK (K : Nat → CT) (va : Nat → Nat → Nat) (rows c : Nat) : Nat → Nat → V1 := BB (K c).1 (K c).2.2.2 (cbK K c (va c) rows)
/-- a note that lays a bitmap -/
def leafZ (rows : Nat) (K : Nat → CT) (va : Nat → Nat → Nat) (R : Nat → V1) (i c n : Nat) (k : C3) : Z4 :=
  if i = 0 then (if (K c).1 then leR rows (K c).2.2.2 (BK K va rows c) (K c).2.2.1 n k else leE rows (K c).2.2.2 (BK K va rows c) (K c).2.2.1 n k)
  else if i = 4 then eqZ rows (K c).2.2.2 (BK K va rows c) (K c).1 (K c).2.2.1 n k
  else if i = 14 then zbm (R n) k
  else (all1 (if i = 12 then rows else 0), k)
def okL (cc i c n : Nat) : Prop := (i = 0 ∨ i = 4 → c < cc) ∧ (i = 14 → n < 6) ∧ n < 1000 ∧ i < 15
section Ans2
variable {σ : ab_H} {cc rows : Nat} {K : Nat → CT} {va : Nat → Nat → Nat} {ad : Nat → Nat} {R : Nat → V1} {k : C3}
theorem anX.lx (h : anX σ cc rows K va ad R) {c : Nat} (hc : c < cc) : lzX σ cc rows (ad c) (K c).1 (K c).2.1 (K c).2.2.1 (K c).2.2.2 (va c) (cbK K c (va c) rows) := by
  obtain ⟨h1, h2, h3, h4, h5, h6, h7⟩ := h
  obtain ⟨k1, k2, k3, k4, k5, k6⟩ := h5.2.2 c hc
  exact ⟨h1, h2, h3, k4, k1, k3⟩
set_option maxRecDepth 100000 in
set_option maxHeartbeats 1000000 in
theorem c_makeLeaf (hX : anX σ cc rows K va ad R) (h37 : σ.2 37 = some (spc k)) {h : Nat} (hh : 38 ≤ h ∧ h ≤ 48) {v0 s0 : V1} (hB : IsB σ h v0) (hS : IsB σ 35 s0) (i c n : Nat) (hok : okL cc i c n) : ab_call 6 0 0 yX0_makeLeaf [rf 33, .inl i, .inl c, .inl n, rf h] σ (fun r σ' => r = .inl none ∧ lzF σ σ' h (leafZ rows K va R i c n k)) := by
  obtain ⟨x33, x3, xr, x5, xC, xR, -⟩ := id hX
  obtain ⟨hcc4, ⟨A, x4, hAd⟩, hcol⟩ := id xC
  obtain ⟨k1, k2, k3, k4⟩ := hok
  have hB1 := hB.1
  have hokh := okh_of hh
  have hokh2 := hokh
  unfold okh at hokh2
  refine eX0_makeLeaf rfl (fun At hA => ?_)
  have k8 : ∀ (τ : ab_H) (L : ab_L), lzF σ τ h (leafZ rows K va R i c n k) → At 8 L [] τ 0 0 := fun τ L hL => by
    refine hA 8 _ rfl _ _ _ _ _ ?_
    exact ⟨rfl, hL⟩
  have j1 : i = 0 → At 1 [some (rf 33), some (.inl i), some (.inl c), some (.inl n), some (rf h)] [] σ 0 0 := fun hi => by
    have hc := k1 (Or.inl hi)
    have hAc := hAd c hc
    have hLX := hX.lx hc
    refine hA 1 _ rfl _ _ _ _ _ ?_
    refine Exists.intro _ (And.intro (x33) ?_)
    refine Exists.intro _ (And.intro (x3) ?_)
    refine Exists.intro _ (Exists.intro _ (And.intro (x4) (And.intro (by omega) ?_)))
    simp only [Int.toNat_natCast, hAc]
    refine Exists.intro _ (And.intro x33 (And.intro rfl (ab_inv_of (c_makeUpTo hLX h37 hh hB hS n k3) (by first | decide | omega) (by omega) (by omega) ?_)))
    intro r τ hpost
    obtain ⟨rfl, hL⟩ := hpost
    refine k8 τ _ ?_
    unfold leafZ
    rw [if_pos hi]
    exact hL
  have j2 : i = 4 → At 2 [some (rf 33), some (.inl i), some (.inl c), some (.inl n), some (rf h)] [] σ 0 0 := fun hi => by
    have hc := k1 (Or.inr hi)
    have hAc := hAd c hc
    have hLX := hX.lx hc
    refine hA 2 _ rfl _ _ _ _ _ ?_
    refine Exists.intro _ (And.intro (x33) ?_)
    refine Exists.intro _ (And.intro (x3) ?_)
    refine Exists.intro _ (Exists.intro _ (And.intro (x4) (And.intro (by omega) ?_)))
    simp only [Int.toNat_natCast, hAc]
    refine Exists.intro _ (And.intro x33 (And.intro rfl (ab_inv_of (c_makeEqual hLX h37 hh hB hS n k3) (by first | decide | omega) (by omega) (by omega) ?_)))
    intro r τ hpost
    obtain ⟨rfl, hL⟩ := hpost
    refine k8 τ _ ?_
    unfold leafZ
    rw [if_neg (by omega), if_pos hi]
    exact hL
  have j3 : i = 14 → At 3 [some (rf 33), some (.inl i), some (.inl c), some (.inl n), some (rf h)] [] σ 0 0 := fun hi => by
    have hn6 := k2 hi
    have hO := xR n (by omega)
    refine hA 3 _ rfl _ _ _ _ _ ?_
    refine Exists.intro _ (And.intro (by first | assumption | exact st_s | exact st_e (by decide) (by assumption) | exact st_e (by omega) (by assumption) | exact st_e (by decide) st_s | exact st_e (by omega) st_s | exact st_e (by decide) (st_e (by decide) (by assumption)) | exact st_e (by omega) (st_e (by omega) (by assumption))) ?_)
    refine Exists.intro _ (And.intro (by first | assumption | exact st_s | exact st_e (by decide) (by assumption) | exact st_e (by omega) (by assumption) | exact st_e (by decide) st_s | exact st_e (by omega) st_s | exact st_e (by decide) (st_e (by decide) (by assumption)) | exact st_e (by omega) (st_e (by omega) (by assumption))) ?_)
    refine Exists.intro _ (Exists.intro _ (And.intro (by first | assumption | exact st_s | exact st_e (by decide) (by assumption) | exact st_e (by omega) (by assumption) | exact st_e (by decide) st_s | exact st_e (by omega) st_s | exact st_e (by decide) (st_e (by decide) (by assumption)) | exact st_e (by omega) (st_e (by omega) (by assumption))) (And.intro (by first | omega | (simp only [Int.toNat_natCast]; omega)) ?_)))
    refine Exists.intro _ (And.intro (by first | assumption | exact st_s | exact st_e (by decide) (by assumption) | exact st_e (by omega) (by assumption) | exact st_e (by decide) st_s | exact st_e (by omega) st_s | exact st_e (by decide) (st_e (by decide) (by assumption)) | exact st_e (by omega) (st_e (by omega) (by assumption))) (And.intro rfl (ab_inv_ev (c_read x33 h37 _) (by first | decide | omega) (Nat.le_refl _) (Nat.le_refl _) ?_)))
    refine Exists.intro _ (And.intro (by first | assumption | exact st_s | exact st_e (by decide) (by assumption) | exact st_e (by omega) (by assumption) | exact st_e (by decide) st_s | exact st_e (by omega) st_s | exact st_e (by decide) (st_e (by decide) (by assumption)) | exact st_e (by omega) (st_e (by omega) (by assumption))) (And.intro rfl (ab_inv_ev (c_copyFrom (hB.ne (by omega) (by omega)) (hO.ne (by omega) (by omega))) (by first | decide | omega) (Nat.le_refl _) (Nat.le_refl _) ?_)))
    refine k8 _ _ ?_
    unfold leafZ
    rw [if_neg (by omega), if_neg (by omega), if_pos hi]
    exact (lzS.rc (z := (v0, k)) hokh (fr_rf _ _) hB hO.2.2).lf hh hS
  have j4 : i ≠ 0 → i ≠ 4 → i ≠ 14 → At 4 [some (rf 33), some (.inl i), some (.inl c), some (.inl n), some (rf h)] [] σ 0 0 := fun h0 h4 h14 => by
    have hl : leafZ rows K va R i c n k = (all1 (if i = 12 then rows else 0), k) := by
      unfold leafZ
      rw [if_neg h0, if_neg h4, if_neg h14]
    have k7 : ∀ r : Nat, r = (if i = 12 then rows else 0) → At 7 [some (rf 33), some (.inl i), some (.inl c), some (.inl n), some (rf h)] [.inl r, rf h] σ 0 0 := fun r hr => by
      refine hA 7 _ rfl _ _ _ _ _ ?_
      refine Exists.intro _ (And.intro (by first | assumption | exact st_s | exact st_e (by decide) (by assumption) | exact st_e (by omega) (by assumption) | exact st_e (by decide) st_s | exact st_e (by omega) st_s | exact st_e (by decide) (st_e (by decide) (by assumption)) | exact st_e (by omega) (st_e (by omega) (by assumption))) (And.intro rfl (ab_inv_ev (c_fillTo hB r (by rw [hr]; split <;> omega)) (by first | decide | omega) (Nat.le_refl _) (Nat.le_refl _) ?_)))
      refine k8 _ _ ?_
      rw [hl, ← hr]
      exact (lzS.fill hokh (fr_rf _ _) hB h37 r).lf hh hS
    refine hA 4 _ rfl _ _ _ _ _ ?_
    refine And.intro (And.intro (by first | assumption | exact b2i_R _ | exact rR (by omega) (by omega) | exact rR (by simp only [Int.toNat_natCast]; omega) (by simp only [Int.toNat_natCast]; omega)) (by first | assumption | exact b2i_R _ | exact rR (by omega) (by omega) | exact rR (by simp only [Int.toNat_natCast]; omega) (by simp only [Int.toNat_natCast]; omega))) (And.intro (fun q => ?_) (fun q => ?_))
    · refine hA 6 _ rfl _ _ _ _ _ ?_
      exact k7 0 (by rw [if_neg (by omega)])
    · refine hA 5 _ rfl _ _ _ _ _ ?_
      refine Exists.intro _ (And.intro (by first | assumption | exact st_s | exact st_e (by decide) (by assumption) | exact st_e (by omega) (by assumption) | exact st_e (by decide) st_s | exact st_e (by omega) st_s | exact st_e (by decide) (st_e (by decide) (by assumption)) | exact st_e (by omega) (st_e (by omega) (by assumption))) ?_)
      refine Exists.intro _ (And.intro (by first | assumption | exact st_s | exact st_e (by decide) (by assumption) | exact st_e (by omega) (by assumption) | exact st_e (by decide) st_s | exact st_e (by omega) st_s | exact st_e (by decide) (st_e (by decide) (by assumption)) | exact st_e (by omega) (st_e (by omega) (by assumption))) ?_)
      exact k7 rows (by rw [if_pos (by omega)])
  refine hA 0 _ rfl _ _ _ _ _ ?_
  refine And.intro (by first | assumption | exact b2i_R _ | exact rR (by omega) (by omega) | exact rR (by simp only [Int.toNat_natCast]; omega) (by simp only [Int.toNat_natCast]; omega)) ?_
  exact And.intro (fun q => j1 (by omega)) (fun q0 => And.intro (fun q => j2 (by omega)) (fun q1 => And.intro (fun q => j3 (by omega)) (fun q2 => j4 (by omega) (by omega) (by omega))))
/-- notes gone over with a stack of bitmaps -/
def rnN (rows : Nat) (K : Nat → CT) (va : Nat → Nat → Nat) (R : Nat → V1) : List N3 → List V1 → C3 → List V1 × C3
  | [], st, k => (st, k)
  | (i, c, n) :: l, st, k =>
    if i = 11 then match st with
      | v :: st => rnN rows K va R l (tn rows v :: st) (k.1, k.2.1 + 1, k.2.2 + cnt (sw v) (gu rows))
      | [] => rnN rows K va R l [] k
    else if 7 ≤ i ∧ i ≤ 10 then match st with
      | w :: v :: st => rnN rows K va R l (jn (i - 7) v w :: st) (k.1, k.2.1 + 1, k.2.2 + stp (gu rows) v w)
      | st => rnN rows K va R l st k
    else rnN rows K va R l ((leafZ rows K va R i c n k).1 :: st) (leafZ rows K va R i c n k).2
/-- the notes fit a stack of six -/
def wfN (cc : Nat) : List N3 → Nat → Nat → Prop
  | [], t, e => t = e
  | (i, c, n) :: l, t, e =>
    if i = 11 then 1 ≤ t ∧ wfN cc l t e
    else if 7 ≤ i ∧ i ≤ 10 then 2 ≤ t ∧ wfN cc l (t - 1) e
    else t < 6 ∧ okL cc i c n ∧ wfN cc l (t + 1) e
end Ans2
