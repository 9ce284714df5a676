-- ===== the model's cells =====
abbrev iar (N : Nat) (g : Nat → Int) : ab_C := .inr (.inl (0, N, g))
abbrev rfs (a N : Nat) : ab_C := .inr (.inr (2, N, fun i => some (a + i)))
/-- a column of the model: card, components, by range, bases -/
def MK (σ : ab_H) (c : Nat) (k : CT) : Prop := c < 4 ∧ okb k.2.1 k.2.2.1 k.2.2.2 ∧ σ.2 60 = some (rfs 61 4) ∧ ∃ g : Nat → Int, σ.2 (61 + c) = some (iar 7 g) ∧ g 0 = k.2.1 ∧ g 1 = k.2.2.1 ∧ g 2 = b2i k.1 ∧ ∀ p, p < k.2.2.1 → g (3 + p) = k.2.2.2 p
theorem MK.st {σ : ab_H} {c : Nat} {k : CT} (h : MK σ c k) {a : Nat} {x : ab_C} (ha : 65 ≤ a ∨ a < 60) : MK (ab_st σ a x) c k := by
  obtain ⟨h1, h2, h3, g, h4, h5⟩ := h
  exact ⟨h1, h2, st_e (by omega) h3, g, st_e (by omega) h4, h5⟩
section Mcol
variable {σ : ab_H} {t : Nat → Int} {rows : Nat} {c : Nat} {k : CT}
set_option maxRecDepth 100000 in
set_option maxHeartbeats 1000000 in
theorem m_baseOf (h57 : σ.2 57 = some (m10 t)) (hK : MK σ c k) (p : Nat) (hp : p < k.2.2.1) : ab_ev 1 yX10_baseOf [rf 57, .inl c, .inl ((p + 1 : Nat) : Int)] σ (some (.inl (k.2.2.2 p))) σ := by
  obtain ⟨hc, ⟨o1, o2, o3, -⟩, h60, g, h61, -, -, -, hg⟩ := hK
  have e : (2 + ((p + 1 : Nat) : Int)).toNat = 3 + p := by omega
  have e2 := hg p hp
  refine eX10_baseOf rfl (fun At hA => ?_)
  refine hA 0 _ rfl _ _ _ _ _ ?_
  refine Exists.intro _ (And.intro (h57) ?_)
  refine Exists.intro _ (Exists.intro _ (And.intro (h60) (And.intro (by omega) ?_)))
  refine Exists.intro _ (Exists.intro _ (And.intro (h61) (And.intro (by omega) ?_)))
  rw [e, e2]
  exact ⟨rfl, rfl⟩
set_option maxRecDepth 100000 in
set_option maxHeartbeats 1000000 in
theorem m_isRange (h57 : σ.2 57 = some (m10 t)) (hK : MK σ c k) : ab_ev 1 yX10_isRange [rf 57, .inl c] σ (some (.inl (b2i k.1))) σ := by
  obtain ⟨hc, -, h60, g, h61, -, -, h2, hg⟩ := hK
  have hR : ab_R (g 2) := by rw [h2]; exact b2i_R _
  refine eX10_isRange rfl (fun At hA => ?_)
  have k3 : ∀ z : Int, z = b2i k.1 → At 3 [some (rf 57), some (.inl c)] [.inl z] σ 0 0 := fun z hz => by
    subst hz
    refine hA 3 _ rfl _ _ _ _ _ ?_
    refine And.intro (by first | exact Or.inl rfl | exact Or.inr rfl | exact b2i_01 _) ?_
    exact ⟨rfl, rfl⟩
  refine hA 0 _ rfl _ _ _ _ _ ?_
  refine Exists.intro _ (And.intro (h57) ?_)
  refine Exists.intro _ (Exists.intro _ (And.intro (h60) (And.intro (by omega) ?_)))
  refine Exists.intro _ (Exists.intro _ (And.intro (h61) (And.intro (by omega) ?_)))
  refine And.intro (And.intro hR (rR (by omega) (by omega))) (And.intro (fun q => ?_) (fun q => ?_))
  · have q : g 2 ≠ 1 := q
    refine hA 2 _ rfl _ _ _ _ _ ?_
    refine k3 0 ?_
    rw [h2] at q
    cases hk : k.1 <;> rw [hk] at q
    · rfl
    · exact absurd rfl q
  · have q : g 2 = 1 := q
    refine hA 1 _ rfl _ _ _ _ _ ?_
    refine k3 1 ?_
    rw [h2] at q
    exact q.symm
set_option maxRecDepth 100000 in
set_option maxHeartbeats 1000000 in
theorem m_unit (h57 : σ.2 57 = some (m10 t)) (hK : MK σ c k) (p : Nat) (hp : p < k.2.2.1) : ab_ev 1 yX10_unit [rf 57, .inl c, .inl ((p + 1 : Nat) : Int)] σ (some (.inl (wtp k.2.2.2 p))) σ := by
  obtain ⟨hc, ⟨o1, o2, o3, -⟩, h60, g, h61, -, -, -, hg⟩ := hK
  refine eX10_unit rfl (fun At hA => ?_)
  have loop : ∀ n i : Nat, i + n = p → At 1 [some (rf 57), some (.inl c), some (.inl ((p + 1 : Nat) : Int)), some (.inl (wtp k.2.2.2 i)), some (.inl ((i + 1 : Nat) : Int))] [] σ 0 0 := by
    intro n
    induction n with
    | zero =>
      intro i hi
      have hip : i = p := by omega
      subst hip
      refine hA 1 _ rfl _ _ _ _ _ ?_
      refine And.intro (And.intro (by first | assumption | exact b2i_R _ | exact rR (by omega) (by omega) | exact rR (by simp only [Int.toNat_natCast]; omega) (by simp only [Int.toNat_natCast]; omega)) (by first | assumption | exact b2i_R _ | exact rR (by omega) (by omega) | exact rR (by simp only [Int.toNat_natCast]; omega) (by simp only [Int.toNat_natCast]; omega))) (And.intro (fun q => ?_) (fun q => ?_))
      · refine hA 3 _ rfl _ _ _ _ _ ?_
        exact ⟨rfl, rfl⟩
      · omega
    | succ n ih =>
      intro i hi
      have e : (2 + ((i + 1 : Nat) : Int)).toNat = 3 + i := by omega
      have e2 := hg i (by omega)
      have ihi := ih (i + 1) (by omega)
      rw [show wtp k.2.2.2 (i + 1) = wtp k.2.2.2 i * k.2.2.2 i from rfl, Int.natCast_mul, ← e2, ← e] at ihi
      refine hA 1 _ rfl _ _ _ _ _ ?_
      refine And.intro (And.intro (by first | assumption | exact b2i_R _ | exact rR (by omega) (by omega) | exact rR (by simp only [Int.toNat_natCast]; omega) (by simp only [Int.toNat_natCast]; omega)) (by first | assumption | exact b2i_R _ | exact rR (by omega) (by omega) | exact rR (by simp only [Int.toNat_natCast]; omega) (by simp only [Int.toNat_natCast]; omega))) (And.intro (fun q => ?_) (fun q => ?_))
      · omega
      · refine hA 2 _ rfl _ _ _ _ _ ?_
        refine Exists.intro _ (And.intro (h57) ?_)
        refine Exists.intro _ (Exists.intro _ (And.intro (h60) (And.intro (by omega) ?_)))
        refine Exists.intro _ (Exists.intro _ (And.intro (h61) (And.intro (by omega) ?_)))
        exact ihi
  refine hA 0 _ rfl _ _ _ _ _ ?_
  exact loop p 0 (by omega)
set_option maxRecDepth 100000 in
set_option maxHeartbeats 1000000 in
theorem m_digit (h57 : σ.2 57 = some (m10 t)) (hK : MK σ c k) (p : Nat) (hp : p < k.2.2.1) (v : Nat) (hv : (v : Int) < 2147483648) : ab_ev 2 yX10_digit [rf 57, .inl c, .inl ((p + 1 : Nat) : Int), .inl v] σ (some (.inl (dig k.2.2.2 p v))) σ := by
  have hu := m_unit h57 hK p hp
  have hb := m_baseOf h57 hK p hp
  obtain ⟨hc, ⟨o1, o2, o3, -⟩, -⟩ := hK
  have w1 := wtp_pos o3 p
  have w2 := wtp_lt o3 (p := p) (by omega)
  have w3 := o3 p
  have hd : v / wtp k.2.2.2 p ≤ v := Nat.div_le_self _ _
  refine eX10_digit rfl (fun At hA => ?_)
  refine hA 0 _ rfl _ _ _ _ _ ?_
  refine Exists.intro _ (And.intro h57 (And.intro rfl (ab_inv_ev hu (by first | decide | omega) (by first | exact Nat.le_refl _ | omega) (by first | exact Nat.le_refl _ | omega) ?_)))
  refine And.intro ⟨by omega, rR (by omega) (by omega), by omega, rR (by omega) (by omega)⟩ ?_
  refine Exists.intro _ (And.intro h57 (And.intro rfl (ab_inv_ev hb (by first | decide | omega) (by first | exact Nat.le_refl _ | omega) (by first | exact Nat.le_refl _ | omega) ?_)))
  have e : (v : Int) / ((wtp k.2.2.2 p : Nat) : Int) = ((v / wtp k.2.2.2 p : Nat) : Int) := by rw [Int.natCast_ediv]
  have e2 : (0 : Int) ≤ (v : Int) / ((wtp k.2.2.2 p : Nat) : Int) ∧ ab_R ((v : Int) / ((wtp k.2.2.2 p : Nat) : Int)) := by
    rw [e]
    generalize v / wtp k.2.2.2 p = z at hd
    exact ⟨by omega, rR (by omega) (by omega)⟩
  refine And.intro ⟨e2.1, e2.2, by omega, rR (by omega) (by omega)⟩ ?_
  refine ⟨?_, rfl⟩
  show (Sum.inl (some (Sum.inl ((v : Int) / ((wtp k.2.2.2 p : Nat) : Int) % ((k.2.2.2 p : Nat) : Int)))) : ab_O) = _
  rw [e, ← Int.natCast_emod]
  rfl
set_option maxRecDepth 100000 in
set_option maxHeartbeats 1000000 in
theorem m_bitmapsOf (h57 : σ.2 57 = some (m10 t)) (hK : MK σ c k) (p : Nat) (hp : p < k.2.2.1) : ab_ev 2 yX10_bitmapsOf [rf 57, .inl c, .inl ((p + 1 : Nat) : Int)] σ (some (.inl (nbm k.1 k.2.2.2 p))) σ := by
  have hu := m_isRange h57 hK
  have hb := m_baseOf h57 hK p hp
  obtain ⟨hc, ⟨o1, o2, o3, -⟩, -⟩ := hK
  have w3 := o3 p
  unfold nbm
  refine eX10_bitmapsOf rfl (fun At hA => ?_)
  refine hA 0 _ rfl _ _ _ _ _ ?_
  refine Exists.intro _ (And.intro (by first | assumption | exact st_s | exact st_e (by decide) (by assumption) | exact st_e (by omega) (by assumption) | exact st_e (by decide) st_s | exact st_e (by omega) st_s | exact st_e (by decide) (st_e (by decide) (by assumption)) | exact st_e (by omega) (st_e (by omega) (by assumption))) (And.intro rfl (ab_inv_ev hb (by first | decide | omega) (by first | exact Nat.le_refl _ | omega) (by first | exact Nat.le_refl _ | omega) ?_)))
  refine Exists.intro _ (And.intro (by first | assumption | exact st_s | exact st_e (by decide) (by assumption) | exact st_e (by omega) (by assumption) | exact st_e (by decide) st_s | exact st_e (by omega) st_s | exact st_e (by decide) (st_e (by decide) (by assumption)) | exact st_e (by omega) (st_e (by omega) (by assumption))) (And.intro rfl (ab_inv_ev hu (by first | decide | omega) (by first | exact Nat.le_refl _ | omega) (by first | exact Nat.le_refl _ | omega) ?_)))
  refine And.intro (by first | assumption | exact b2i_R _ | exact rR (by omega) (by omega) | exact rR (by simp only [Int.toNat_natCast]; omega) (by simp only [Int.toNat_natCast]; omega)) (And.intro (fun q => ?_) (fun q => ?_))
  · have hq := b2i_0 q
    refine hA 2 _ rfl _ _ _ _ _ ?_
    refine hA 3 _ rfl _ _ _ _ _ ?_
    rw [hq, if_neg (by simp)]
    exact ⟨by rw [Int.sub_zero], rfl⟩
  · have hq := b2i_1 q
    refine hA 1 _ rfl _ _ _ _ _ ?_
    refine hA 3 _ rfl _ _ _ _ _ ?_
    rw [hq, if_pos rfl]
    refine ⟨?_, rfl⟩
    congr 3
    omega
/-- the values of a column, as far as there are rows -/
def MV (σ : ab_H) (c rows : Nat) (va : Nat → Nat) : Prop := σ.2 66 = some (rfs 67 4) ∧ ∃ w : Nat → Int, σ.2 (67 + c) = some (iar 1500 w) ∧ (∀ x, x < rows → w x = va x) ∧ ∀ x, va x < 200
theorem MV.st {σ : ab_H} {c rows : Nat} {va : Nat → Nat} (hc : c < 4) (h : MV σ c rows va) {a : Nat} {x : ab_C} (ha : 71 ≤ a ∨ a < 66) : MV (ab_st σ a x) c rows va := by
  obtain ⟨h1, w, h2, h3⟩ := h
  exact ⟨st_e (by omega) h1, w, st_e (by omega) h2, h3⟩
theorem mk_0 (p : Nat → Bool) (h : ∀ x, p x = false) : mk p = fun _ => 0 := (mk_of (fun _ => by decide) (fun r => by rw [h r]; unfold bit; exact Nat.zero_testBit _)).symm
theorem mk_s {p q : Nat → Bool} {r : Nat} (h : ∀ x, q x = if x = r then true else p x) : pt (mk p) r true = mk q := mk_of (pt_lt (fun i => mk_lt p i) r true) (fun s => by rw [pt_bit, bit_mk, h s])
set_option maxRecDepth 100000 in
set_option maxHeartbeats 1000000 in
theorem m_laysBitmap (h57 : σ.2 57 = some (m10 t)) (h13 : t 13 = rows) (hr : rows ≤ 1500) (hK : MK σ c k) {va : Nat → Nat} (hV : MV σ c rows va) (p : Nat) (hp : p < k.2.2.1) (j : Nat) (hj : j < 1000) {h : Nat} (hh : 280 < h) {o : Nat → Nat} (ho : σ.2 h = some (bmc o)) : ab_ev 3 yX10_laysBitmap [rf 57, .inl c, .inl ((p + 1 : Nat) : Int), .inl j, rf h] σ none (ab_st σ h (bmc (mk (prd k.1 k.2.2.2 p va rows j)))) := by
  have hc := hK.1
  have o3 := hK.2.1.2.2.1
  have hdl := dig_lt o3 p
  have w3 := o3 p
  refine eX10_laysBitmap rfl (fun At hA => ?_)
  have loop : ∀ (n r : Nat) (y : Option ab_V), r + n = rows → At 1 [some (rf 57), some (.inl c), some (.inl ((p + 1 : Nat) : Int)), some (.inl j), some (rf h), some (.inl r), y] [] (ab_st σ h (bmc (mk (fun x => decide (x < r) && prd k.1 k.2.2.2 p va rows j x)))) 0 0 := by
    intro n
    induction n with
    | zero =>
      intro r y hrn
      have hrr : r = rows := by omega
      subst hrr
      have q57 : (ab_st σ h (bmc (mk (fun x => decide (x < r) && prd k.1 k.2.2.2 p va r j x)))).2 57 = some (m10 t) := st_e (by omega) h57
      refine hA 1 _ rfl _ _ _ _ _ ?_
      refine Exists.intro _ (And.intro (by first | assumption | exact st_s | exact st_e (by decide) (by assumption) | exact st_e (by omega) (by assumption) | exact st_e (by decide) st_s | exact st_e (by omega) st_s | exact st_e (by decide) (st_e (by decide) (by assumption)) | exact st_e (by omega) (st_e (by omega) (by assumption))) ?_)
      refine And.intro (And.intro (by first | assumption | exact b2i_R _ | exact rR (by omega) (by omega) | exact rR (by simp only [Int.toNat_natCast]; omega) (by simp only [Int.toNat_natCast]; omega)) (by first | assumption | exact b2i_R _ | exact rR (by omega) (by omega) | exact rR (by simp only [Int.toNat_natCast]; omega) (by simp only [Int.toNat_natCast]; omega))) (And.intro (fun q => ?_) (fun q => ?_))
      · refine hA 8 _ rfl _ _ _ _ _ ?_
        refine ⟨rfl, ?_⟩
        rw [mk_ext (p := fun x => decide (x < r) && prd k.1 k.2.2.2 p va r j x) (q := prd k.1 k.2.2.2 p va r j) (fun x => by
          unfold prd
          cases decide (x < r) <;> rfl)]
      · omega
    | succ n ih =>
      intro r y hrn
      have q57 : (ab_st σ h (bmc (mk (fun x => decide (x < r) && prd k.1 k.2.2.2 p va rows j x)))).2 57 = some (m10 t) := st_e (by omega) h57
      have qK : MK (ab_st σ h (bmc (mk (fun x => decide (x < r) && prd k.1 k.2.2.2 p va rows j x)))) c k := hK.st (by omega)
      obtain ⟨q66, w, q67, hw, hva⟩ : MV (ab_st σ h (bmc (mk (fun x => decide (x < r) && prd k.1 k.2.2.2 p va rows j x)))) c rows va := hV.st hc (by omega)
      have hwr := hw r (by omega)
      have hvr := hva r
      have hdr := hdl (va r)
      have hdg := m_digit q57 qK p hp (va r) (by omega)
      rw [← hwr] at hdg
      have hir := m_isRange q57 qK
      have k7 : ∀ y, prd k.1 k.2.2.2 p va rows j r = false → At 7 [some (rf 57), some (.inl c), some (.inl ((p + 1 : Nat) : Int)), some (.inl j), some (rf h), some (.inl r), y] [] (ab_st σ h (bmc (mk (fun x => decide (x < r) && prd k.1 k.2.2.2 p va rows j x)))) 0 0 := fun y hf => by
        have ihr := ih (r + 1) y (by omega)
        rw [mk_ext (p := fun x => decide (x < r + 1) && prd k.1 k.2.2.2 p va rows j x) (q := fun x => decide (x < r) && prd k.1 k.2.2.2 p va rows j x) (fun x => by
          by_cases hx : x = r
          · rw [hx, hf, Bool.and_false, Bool.and_false]
          · rw [show decide (x < r + 1) = decide (x < r) from decide_eq_decide.mpr (by omega)])] at ihr
        refine hA 7 _ rfl _ _ _ _ _ ?_
        exact ihr
      have k6 : ∀ y, prd k.1 k.2.2.2 p va rows j r = true → At 6 [some (rf 57), some (.inl c), some (.inl ((p + 1 : Nat) : Int)), some (.inl j), some (rf h), some (.inl r), y] [] (ab_st σ h (bmc (mk (fun x => decide (x < r) && prd k.1 k.2.2.2 p va rows j x)))) 0 0 := fun y hf => by
        have ihr := ih (r + 1) y (by omega)
        rw [← mk_s (p := fun x => decide (x < r) && prd k.1 k.2.2.2 p va rows j x) (r := r) (q := fun x => decide (x < r + 1) && prd k.1 k.2.2.2 p va rows j x) (fun x => by
          by_cases hx : x = r
          · rw [if_pos hx, hx, hf, decide_eq_true (by omega)]; rfl
          · rw [if_neg hx, show decide (x < r + 1) = decide (x < r) from decide_eq_decide.mpr (by omega)])] at ihr
        have hse := m_sets (σ := ab_st σ h (bmc (mk (fun x => decide (x < r) && prd k.1 k.2.2.2 p va rows j x)))) st_s (fun i => mk_lt _ i) r (by omega)
        rw [st_st] at hse
        refine hA 6 _ rfl _ _ _ _ _ ?_
        refine And.intro rfl (ab_inv_ev hse (by first | decide | omega) (by first | exact Nat.le_refl _ | omega) (by first | exact Nat.le_refl _ | omega) ?_)
        refine hA 7 _ rfl _ _ _ _ _ ?_
        exact ihr
      have hpf : k.1 = false → prd k.1 k.2.2.2 p va rows j r = (dig k.2.2.2 p (va r) == j) := fun h => by
        unfold prd
        rw [decide_eq_true (show r < rows by omega), h]
        rfl
      have hpt : k.1 = true → prd k.1 k.2.2.2 p va rows j r = decide (dig k.2.2.2 p (va r) ≤ j) := fun h => by
        unfold prd
        rw [decide_eq_true (show r < rows by omega), h]
        rfl
      refine hA 1 _ rfl _ _ _ _ _ ?_
      refine Exists.intro _ (And.intro (by first | assumption | exact st_s | exact st_e (by decide) (by assumption) | exact st_e (by omega) (by assumption) | exact st_e (by decide) st_s | exact st_e (by omega) st_s | exact st_e (by decide) (st_e (by decide) (by assumption)) | exact st_e (by omega) (st_e (by omega) (by assumption))) ?_)
      refine And.intro (And.intro (by first | assumption | exact b2i_R _ | exact rR (by omega) (by omega) | exact rR (by simp only [Int.toNat_natCast]; omega) (by simp only [Int.toNat_natCast]; omega)) (by first | assumption | exact b2i_R _ | exact rR (by omega) (by omega) | exact rR (by simp only [Int.toNat_natCast]; omega) (by simp only [Int.toNat_natCast]; omega))) (And.intro (fun q => ?_) (fun q => ?_))
      · omega
      · refine hA 2 _ rfl _ _ _ _ _ ?_
        refine Exists.intro _ (And.intro (by first | assumption | exact st_s | exact st_e (by decide) (by assumption) | exact st_e (by omega) (by assumption) | exact st_e (by decide) st_s | exact st_e (by omega) st_s | exact st_e (by decide) (st_e (by decide) (by assumption)) | exact st_e (by omega) (st_e (by omega) (by assumption))) ?_)
        refine Exists.intro _ (Exists.intro _ (And.intro (by first | assumption | exact st_s | exact st_e (by decide) (by assumption) | exact st_e (by omega) (by assumption) | exact st_e (by decide) st_s | exact st_e (by omega) st_s | exact st_e (by decide) (st_e (by decide) (by assumption)) | exact st_e (by omega) (st_e (by omega) (by assumption))) (And.intro (by first | omega | (simp only [Int.toNat_natCast]; omega)) ?_)))
        refine Exists.intro _ (Exists.intro _ (And.intro (by first | assumption | exact st_s | exact st_e (by decide) (by assumption) | exact st_e (by omega) (by assumption) | exact st_e (by decide) st_s | exact st_e (by omega) st_s | exact st_e (by decide) (st_e (by decide) (by assumption)) | exact st_e (by omega) (st_e (by omega) (by assumption))) (And.intro (by first | omega | (simp only [Int.toNat_natCast]; omega)) ?_)))
        refine Exists.intro _ (And.intro (by first | assumption | exact st_s | exact st_e (by decide) (by assumption) | exact st_e (by omega) (by assumption) | exact st_e (by decide) st_s | exact st_e (by omega) st_s | exact st_e (by decide) (st_e (by decide) (by assumption)) | exact st_e (by omega) (st_e (by omega) (by assumption))) (And.intro rfl (ab_inv_ev hdg (by first | decide | omega) (by first | exact Nat.le_refl _ | omega) (by first | exact Nat.le_refl _ | omega) ?_)))
        refine Exists.intro _ (And.intro (by first | assumption | exact st_s | exact st_e (by decide) (by assumption) | exact st_e (by omega) (by assumption) | exact st_e (by decide) st_s | exact st_e (by omega) st_s | exact st_e (by decide) (st_e (by decide) (by assumption)) | exact st_e (by omega) (st_e (by omega) (by assumption))) (And.intro rfl (ab_inv_ev hir (by first | decide | omega) (by first | exact Nat.le_refl _ | omega) (by first | exact Nat.le_refl _ | omega) ?_)))
        refine And.intro (by first | assumption | exact b2i_R _ | exact rR (by omega) (by omega) | exact rR (by simp only [Int.toNat_natCast]; omega) (by simp only [Int.toNat_natCast]; omega)) (And.intro (fun q => ?_) (fun q => ?_))
        · have hq := b2i_0 q
          refine hA 5 _ rfl _ _ _ _ _ ?_
          refine And.intro (And.intro (by first | assumption | exact b2i_R _ | exact rR (by omega) (by omega) | exact rR (by simp only [Int.toNat_natCast]; omega) (by simp only [Int.toNat_natCast]; omega)) (by first | assumption | exact b2i_R _ | exact rR (by omega) (by omega) | exact rR (by simp only [Int.toNat_natCast]; omega) (by simp only [Int.toNat_natCast]; omega))) (And.intro (fun q => ?_) (fun q => ?_))
          · exact k7 _ (by rw [hpf hq]; exact beq_eq_false_iff_ne.mpr (by omega))
          · exact k6 _ (by rw [hpf hq]; exact beq_iff_eq.mpr (by omega))
        · have hq := b2i_1 q
          refine hA 3 _ rfl _ _ _ _ _ ?_
          refine And.intro (And.intro (by first | assumption | exact b2i_R _ | exact rR (by omega) (by omega) | exact rR (by simp only [Int.toNat_natCast]; omega) (by simp only [Int.toNat_natCast]; omega)) (by first | assumption | exact b2i_R _ | exact rR (by omega) (by omega) | exact rR (by simp only [Int.toNat_natCast]; omega) (by simp only [Int.toNat_natCast]; omega))) (And.intro (fun q => ?_) (fun q => ?_))
          · exact k7 _ (by rw [hpt hq]; exact decide_eq_false (by omega))
          · refine hA 4 _ rfl _ _ _ _ _ ?_
            exact k6 _ (by rw [hpt hq]; exact decide_eq_true (by omega))
  have hem := m_empties ho
  have l0 := loop rows 0 none (by omega)
  rw [mk_0 (fun x => decide (x < 0) && prd k.1 k.2.2.2 p va rows j x) (fun x => rfl)] at l0
  refine hA 0 _ rfl _ _ _ _ _ ?_
  refine And.intro rfl (ab_inv_ev hem (by first | decide | omega) (by first | exact Nat.le_refl _ | omega) (by first | exact Nat.le_refl _ | omega) ?_)
  exact l0
/-- which rows are gone -/
def MG (σ : ab_H) (rows : Nat) (lv : Nat → Nat) : Prop := ∃ gn : Nat → Int, σ.2 71 = some (.inr (.inl (1, 1500, gn))) ∧ ∀ x, x < rows → gn x = b2i (!bit lv x)
theorem MG.st {σ : ab_H} {rows : Nat} {lv : Nat → Nat} (h : MG σ rows lv) {a : Nat} {x : ab_C} (ha : 71 ≠ a) : MG (ab_st σ a x) rows lv := by
  obtain ⟨gn, h1, h2⟩ := h
  exact ⟨gn, st_e ha h1, h2⟩
set_option maxRecDepth 100000 in
set_option maxHeartbeats 1000000 in
theorem m_laysLive (h57 : σ.2 57 = some (m10 t)) (h13 : t 13 = rows) (hr : rows ≤ 1500) {lv : Nat → Nat} (hL : hi0 rows lv) (hG : MG σ rows lv) {h : Nat} (hh : 280 < h) {o : Nat → Nat} (ho : σ.2 h = some (bmc o)) : ab_ev 2 yX10_laysLive [rf 57, rf h] σ none (ab_st σ h (bmc lv)) := by
  refine eX10_laysLive rfl (fun At hA => ?_)
  have loop : ∀ (n r : Nat), r + n = rows → At 1 [some (rf 57), some (rf h), some (.inl r)] [] (ab_st σ h (bmc (mk (fun x => decide (x < r) && bit lv x)))) 0 0 := by
    intro n
    induction n with
    | zero =>
      intro r hrn
      have hrr : r = rows := by omega
      subst hrr
      have q57 : (ab_st σ h (bmc (mk (fun x => decide (x < r) && bit lv x)))).2 57 = some (m10 t) := st_e (by omega) h57
      refine hA 1 _ rfl _ _ _ _ _ ?_
      refine Exists.intro _ (And.intro (by first | assumption | exact st_s | exact st_e (by decide) (by assumption) | exact st_e (by omega) (by assumption) | exact st_e (by decide) st_s | exact st_e (by omega) st_s | exact st_e (by decide) (st_e (by decide) (by assumption)) | exact st_e (by omega) (st_e (by omega) (by assumption))) ?_)
      refine And.intro (And.intro (by first | assumption | exact b2i_R _ | exact rR (by omega) (by omega) | exact rR (by simp only [Int.toNat_natCast]; omega) (by simp only [Int.toNat_natCast]; omega)) (by first | assumption | exact b2i_R _ | exact rR (by omega) (by omega) | exact rR (by simp only [Int.toNat_natCast]; omega) (by simp only [Int.toNat_natCast]; omega))) (And.intro (fun q => ?_) (fun q => ?_))
      · refine hA 5 _ rfl _ _ _ _ _ ?_
        refine ⟨rfl, ?_⟩
        rw [← mk_of (g := lv) (p := fun x => decide (x < r) && bit lv x) hL.1 (fun x => by
          by_cases hx : x < r
          · rw [decide_eq_true hx]; rfl
          · rw [decide_eq_false hx, hL.2 x (by omega)]; rfl)]
      · omega
    | succ n ih =>
      intro r hrn
      have q57 : (ab_st σ h (bmc (mk (fun x => decide (x < r) && bit lv x)))).2 57 = some (m10 t) := st_e (by omega) h57
      obtain ⟨gn, q71, hgn⟩ : MG (ab_st σ h (bmc (mk (fun x => decide (x < r) && bit lv x)))) rows lv := hG.st (by omega)
      have hgr := hgn r (by omega)
      have hgR : ab_R (gn r) := by rw [hgr]; exact b2i_R _
      have ihr := ih (r + 1) (by omega)
      refine hA 1 _ rfl _ _ _ _ _ ?_
      refine Exists.intro _ (And.intro (by first | assumption | exact st_s | exact st_e (by decide) (by assumption) | exact st_e (by omega) (by assumption) | exact st_e (by decide) st_s | exact st_e (by omega) st_s | exact st_e (by decide) (st_e (by decide) (by assumption)) | exact st_e (by omega) (st_e (by omega) (by assumption))) ?_)
      refine And.intro (And.intro (by first | assumption | exact b2i_R _ | exact rR (by omega) (by omega) | exact rR (by simp only [Int.toNat_natCast]; omega) (by simp only [Int.toNat_natCast]; omega)) (by first | assumption | exact b2i_R _ | exact rR (by omega) (by omega) | exact rR (by simp only [Int.toNat_natCast]; omega) (by simp only [Int.toNat_natCast]; omega))) (And.intro (fun q => ?_) (fun q => ?_))
      · omega
      · refine hA 2 _ rfl _ _ _ _ _ ?_
        refine Exists.intro _ (And.intro (q57) ?_)
        refine Exists.intro _ (Exists.intro _ (And.intro (q71) (And.intro (by omega) ?_)))
        refine And.intro hgR (And.intro (fun q => ?_) (fun q => ?_))
        · have q : gn r ≠ 0 := q
          have hf : bit lv r = false := by
            rw [hgr] at q
            have := b2i_1 q
            cases hb : bit lv r
            · rfl
            · rw [hb] at this; cases this
          rw [mk_ext (p := fun x => decide (x < r + 1) && bit lv x) (q := fun x => decide (x < r) && bit lv x) (fun x => by
            by_cases hx : x = r
            · rw [hx, hf, Bool.and_false, Bool.and_false]
            · rw [show decide (x < r + 1) = decide (x < r) from decide_eq_decide.mpr (by omega)])] at ihr
          refine hA 4 _ rfl _ _ _ _ _ ?_
          exact ihr
        · have q : gn r = 0 := q
          have hf : bit lv r = true := by
            rw [hgr] at q
            have := b2i_0 q
            cases hb : bit lv r
            · rw [hb] at this; cases this
            · rfl
          rw [← mk_s (p := fun x => decide (x < r) && bit lv x) (r := r) (q := fun x => decide (x < r + 1) && bit lv x) (fun x => by
            by_cases hx : x = r
            · rw [if_pos hx, hx, hf, decide_eq_true (by omega)]; rfl
            · rw [if_neg hx, show decide (x < r + 1) = decide (x < r) from decide_eq_decide.mpr (by omega)])] at ihr
          have hse := m_sets (σ := ab_st σ h (bmc (mk (fun x => decide (x < r) && bit lv x)))) st_s (fun i => mk_lt _ i) r (by omega)
          rw [st_st] at hse
          refine hA 3 _ rfl _ _ _ _ _ ?_
          refine And.intro rfl (ab_inv_ev hse (by first | decide | omega) (by first | exact Nat.le_refl _ | omega) (by first | exact Nat.le_refl _ | omega) ?_)
          refine hA 4 _ rfl _ _ _ _ _ ?_
          exact ihr
  have hem := m_empties ho
  have l0 := loop rows 0 (by omega)
  rw [mk_0 (fun x => decide (x < 0) && bit lv x) (fun x => rfl)] at l0
  refine hA 0 _ rfl _ _ _ _ _ ?_
  refine And.intro rfl (ab_inv_ev hem (by first | decide | omega) (by first | exact Nat.le_refl _ | omega) (by first | exact Nat.le_refl _ | omega) ?_)
  exact l0
theorem rg_z {rows i : Nat} (h : gu rows ≤ i) : rg i rows = 0 := by
  have hgs := gu_sp rows
  unfold rg
  rw [show rows - 15 * i = 0 by omega]
  rfl
set_option maxRecDepth 100000 in
set_option maxHeartbeats 1000000 in
theorem m_laysAll (h57 : σ.2 57 = some (m10 t)) (h13 : t 13 = rows) (hr : rows ≤ 1500) {h : Nat} (hh : 280 < h) {o : Nat → Nat} (ho : σ.2 h = some (bmc o)) : ab_ev 4 yX10_laysAll [rf 57, rf h] σ none (ab_st σ h (bmc (all1 rows))) := by
  have hgl := gu_le hr
  have ez : mix (gu rows) (all1 rows) (fun _ => 0) = all1 rows := by
    funext j
    unfold mix
    by_cases hj : j < gu rows
    · rw [if_pos hj]
    · rw [if_neg hj]
      exact (rg_z (by omega)).symm
  rw [← ez]
  refine eX10_laysAll rfl (fun At hA => ?_)
  have loop : ∀ n i : Nat, i + n = gu rows → At 1 [some (rf 57), some (rf h), some (.inl i)] [] (ab_st σ h (bmc (mix i (all1 rows) (fun _ => 0)))) 0 0 := by
    intro n
    induction n with
    | zero =>
      intro i hi
      have q57 : (ab_st σ h (bmc (mix i (all1 rows) (fun _ => 0)))).2 57 = some (m10 t) := st_e (by omega) h57
      refine hA 1 _ rfl _ _ _ _ _ ?_
      refine Exists.intro _ (And.intro (by first | assumption | exact st_s | exact st_e (by decide) (by assumption) | exact st_e (by omega) (by assumption) | exact st_e (by decide) st_s | exact st_e (by omega) st_s | exact st_e (by decide) (st_e (by decide) (by assumption)) | exact st_e (by omega) (st_e (by omega) (by assumption))) (And.intro rfl (ab_inv_ev (m_groups q57 h13 hr) (by first | decide | omega) (by first | exact Nat.le_refl _ | omega) (by first | exact Nat.le_refl _ | omega) ?_)))
      refine And.intro (And.intro (by first | assumption | exact b2i_R _ | exact rR (by omega) (by omega) | exact rR (by simp only [Int.toNat_natCast]; omega) (by simp only [Int.toNat_natCast]; omega)) (by first | assumption | exact b2i_R _ | exact rR (by omega) (by omega) | exact rR (by simp only [Int.toNat_natCast]; omega) (by simp only [Int.toNat_natCast]; omega))) (And.intro (fun q => ?_) (fun q => ?_))
      · refine hA 3 _ rfl _ _ _ _ _ ?_
        exact ⟨rfl, by rw [show i = gu rows by omega]⟩
      · omega
    | succ n ih =>
      intro i hi
      have q57 : (ab_st σ h (bmc (mix i (all1 rows) (fun _ => 0)))).2 57 = some (m10 t) := st_e (by omega) h57
      refine hA 1 _ rfl _ _ _ _ _ ?_
      refine Exists.intro _ (And.intro (by first | assumption | exact st_s | exact st_e (by decide) (by assumption) | exact st_e (by omega) (by assumption) | exact st_e (by decide) st_s | exact st_e (by omega) st_s | exact st_e (by decide) (st_e (by decide) (by assumption)) | exact st_e (by omega) (st_e (by omega) (by assumption))) (And.intro rfl (ab_inv_ev (m_groups q57 h13 hr) (by first | decide | omega) (by first | exact Nat.le_refl _ | omega) (by first | exact Nat.le_refl _ | omega) ?_)))
      refine And.intro (And.intro (by first | assumption | exact b2i_R _ | exact rR (by omega) (by omega) | exact rR (by simp only [Int.toNat_natCast]; omega) (by simp only [Int.toNat_natCast]; omega)) (by first | assumption | exact b2i_R _ | exact rR (by omega) (by omega) | exact rR (by simp only [Int.toNat_natCast]; omega) (by simp only [Int.toNat_natCast]; omega))) (And.intro (fun q => ?_) (fun q => ?_))
      · omega
      · have := ih (i + 1) (by omega)
        rw [show ab_st σ h (bmc (mix (i + 1) (all1 rows) (fun _ => 0))) = ab_st (ab_st σ h (bmc (mix i (all1 rows) (fun _ => 0)))) h (.inr (.inl (0, 100, ab_up (fun j => ((mix i (all1 rows) (fun _ => 0) j : Nat) : Int)) i ((rg i rows : Nat) : Int)))) by rw [st_st, mix_s i (all1 rows) (fun _ => 0) ((rg i rows : Nat) : Int) rfl]] at this
        refine hA 2 _ rfl _ _ _ _ _ ?_
        refine Exists.intro _ (And.intro q57 (And.intro rfl (ab_inv_ev (m_whole q57 h13 hr i (by omega)) (by first | decide | omega) (by first | exact Nat.le_refl _ | omega) (by first | exact Nat.le_refl _ | omega) ?_)))
        refine Exists.intro _ (Exists.intro _ (And.intro (st_s) (And.intro (by omega) ?_)))
        exact this
  have hem := m_empties ho
  have l0 := loop (gu rows) 0 (by omega)
  rw [mix_0] at l0
  refine hA 0 _ rfl _ _ _ _ _ ?_
  refine And.intro rfl (ab_inv_ev hem (by first | decide | omega) (by first | exact Nat.le_refl _ | omega) (by first | exact Nat.le_refl _ | omega) ?_)
  exact l0
end Mcol
