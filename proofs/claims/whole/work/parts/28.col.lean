-- ===== columns =====
def sm (f : Nat → Nat) : Nat → Nat
  | 0 => 0
  | n + 1 => sm f n + f n
theorem sm_ext {f g : Nat → Nat} : ∀ n, (∀ j, j < n → f j = g j) → sm f n = sm g n := by
  intro n
  induction n with
  | zero => intro _; rfl
  | succ n ih => intro h; show sm f n + f n = sm g n + g n; rw [ih (fun j hj => h j (by omega)), h n (by omega)]
/-- the bases multiplied -/
def wtp (b : Nat → Nat) : Nat → Nat
  | 0 => 1
  | p + 1 => wtp b p * b p
def nbm (rg : Bool) (b : Nat → Nat) (p : Nat) : Nat := if rg then b p - 1 else b p
def fsp (rg : Bool) (b : Nat → Nat) (p : Nat) : Nat := sm (nbm rg b) p
def dig (b : Nat → Nat) (p v : Nat) : Nat := v / wtp b p % b p
/-- what a column's numbers must be -/
def okb (card parts : Nat) (b : Nat → Nat) : Prop := 1 ≤ parts ∧ parts ≤ 4 ∧ (∀ p, 2 ≤ b p ∧ b p ≤ 200) ∧ 2 ≤ card ∧ card ≤ 200 ∧ card ≤ wtp b parts
theorem wtp_pos {b : Nat → Nat} (h : ∀ p, 2 ≤ b p ∧ b p ≤ 200) : ∀ p, 1 ≤ wtp b p := by
  intro p
  induction p with
  | zero => exact Nat.le_refl _
  | succ p ih => exact Nat.mul_pos ih (by have := h p; omega)
theorem wtp_le {b : Nat → Nat} (h : ∀ p, 2 ≤ b p ∧ b p ≤ 200) : ∀ p, wtp b p ≤ 200 ^ p := by
  intro p
  induction p with
  | zero => exact Nat.le_refl _
  | succ p ih => rw [Nat.pow_succ]; exact Nat.mul_le_mul ih (h p).2
theorem wtp_lt {b : Nat → Nat} (h : ∀ p, 2 ≤ b p ∧ b p ≤ 200) {p : Nat} (hp : p ≤ 4) : wtp b p ≤ 1600000000 := by
  have h1 := wtp_le h p
  have h2 : 200 ^ p ≤ 200 ^ 4 := Nat.pow_le_pow_right (by omega) hp
  exact Nat.le_trans h1 (Nat.le_trans h2 (by decide))
theorem dig_lt {b : Nat → Nat} (h : ∀ p, 2 ≤ b p ∧ b p ≤ 200) (p v : Nat) : dig b p v < b p := Nat.mod_lt _ (by have := h p; omega)
theorem nbm_le {rg : Bool} {b : Nat → Nat} (h : ∀ p, 2 ≤ b p ∧ b p ≤ 200) (p : Nat) : 1 ≤ nbm rg b p ∧ nbm rg b p ≤ b p := by
  have := h p
  unfold nbm
  split <;> omega
theorem fsp_le {rg : Bool} {b : Nat → Nat} (h : ∀ p, 2 ≤ b p ∧ b p ≤ 200) : ∀ p, fsp rg b p ≤ 200 * p := by
  intro p
  induction p with
  | zero => exact Nat.le_refl _
  | succ p ih =>
    show fsp rg b p + nbm rg b p ≤ _
    have := nbm_le (rg := rg) h p
    have := h p
    omega
theorem fsp_mono {rg : Bool} {b : Nat → Nat} {p q : Nat} (h : p ≤ q) : fsp rg b p ≤ fsp rg b q := by
  induction q with
  | zero => rw [show p = 0 by omega]; exact Nat.le_refl _
  | succ q ih =>
    by_cases e : p = q + 1
    · rw [e]; exact Nat.le_refl _
    · exact Nat.le_trans (ih (by omega)) (Nat.le_add_right _ _)
theorem fsp_lt {rg : Bool} {b : Nat → Nat} {p q j : Nat} (h : p < q) (hj : j < nbm rg b p) : fsp rg b p + j < fsp rg b q := by
  have : fsp rg b (p + 1) ≤ fsp rg b q := fsp_mono h
  have e : fsp rg b (p + 1) = fsp rg b p + nbm rg b p := rfl
  omega
/-- which component's bitmap number i is, and which of its -/
theorem fsp_of {rg : Bool} {b : Nat → Nat} : ∀ (parts i : Nat), i < fsp rg b parts → ∃ p j, p < parts ∧ j < nbm rg b p ∧ i = fsp rg b p + j := by
  intro parts
  induction parts with
  | zero => intro i h; exact absurd h (Nat.not_lt_zero _)
  | succ q ih =>
    intro i h
    by_cases e : i < fsp rg b q
    · obtain ⟨p, j, h1, h2, h3⟩ := ih i e
      exact ⟨p, j, by omega, h2, h3⟩
    · have h : i < fsp rg b q + nbm rg b q := h
      exact ⟨q, i - fsp rg b q, by omega, by omega, by omega⟩
theorem fsp_in {rg : Bool} {b : Nat → Nat} {p q j i : Nat} (hj : j < nbm rg b p) (hi : i < nbm rg b q) (h : fsp rg b p + j = fsp rg b q + i) : p = q ∧ j = i := by
  rcases Nat.lt_trichotomy p q with h1 | h1 | h1
  · have := fsp_lt (q := q) h1 hj; omega
  · subst h1; exact ⟨rfl, by omega⟩
  · have := fsp_lt (q := p) h1 hi; omega
abbrev ints (N : Nat) (g : Nat → Nat) : ab_C := .inr (.inl (0, N, fun i => ((g i : Nat) : Int)))
/-- a column's cells -/
def IsC (σ : ab_H) (h : Nat) (rg : Bool) (card parts : Nat) (b : Nat → Nat) (va : Nat → Nat) (G : Nat → Nat → Nat) : Prop :=
  σ.2 h = some (.inl (3, [.inl (b2i rg), .inl card, .inl parts, rf (h + 1), rf (h + 2), rf (h + 3), rf (h + 5), rf (h + 4)])) ∧
  σ.2 (h + 1) = some (ints parts b) ∧ σ.2 (h + 2) = some (ints parts (wtp b)) ∧ σ.2 (h + 3) = some (ints parts (fsp rg b)) ∧ σ.2 (h + 4) = some (ints 1500 va) ∧
  σ.2 (h + 5) = some (.inr (.inr (0, fsp rg b parts, fun i => some (h + 6 + 2 * i)))) ∧ ∀ i, i < fsp rg b parts → IsB σ (h + 6 + 2 * i) (G i)
section Col
variable {σ : ab_H} {h : Nat} {rg : Bool} {card parts : Nat} {b : Nat → Nat} {va : Nat → Nat} {G : Nat → Nat → Nat}
set_option maxRecDepth 100000 in
set_option maxHeartbeats 1000000 in
theorem c_hasComponent (hC : IsC σ h rg card parts b va G) (ho : okb card parts b) (c : Int) (hc : ab_R c) : ab_ev 1 yX3_hasComponent [rf h, .inl c] σ (some (.inl (b2i (decide (1 ≤ c) && decide (c ≤ parts))))) σ := by
  obtain ⟨h0, h1, h2, h3, h4, h5, h6⟩ := id hC
  obtain ⟨o1, o2, o3, o4, o5, o6⟩ := ho
  generalize hr : (decide (1 ≤ c) && decide (c ≤ (parts : Int))) = r
  refine eX3_hasComponent rfl (fun At hA => ?_)
  have k4 : ∀ z : Int, z = b2i r → At 4 [some (rf h), some (.inl c)] [.inl z] σ 0 0 := fun z hz => by
    subst hz
    refine hA 4 _ rfl _ _ _ _ _ ?_
    refine And.intro (by first | exact Or.inl rfl | exact Or.inr rfl | exact b2i_01 _) ?_
    exact ⟨rfl, rfl⟩
  have k3 : r = false → At 3 [some (rf h), some (.inl c)] [] σ 0 0 := fun h => by
    subst h
    refine hA 3 _ rfl _ _ _ _ _ ?_
    exact k4 _ rfl
  refine hA 0 _ rfl _ _ _ _ _ ?_
  refine And.intro (And.intro (by first | assumption | exact b2i_R _ | exact rR (by omega) (by omega) | exact rR (by simp only [Int.toNat_natCast]; omega) (by simp only [Int.toNat_natCast]; omega)) (by first | assumption | exact b2i_R _ | exact rR (by omega) (by omega) | exact rR (by simp only [Int.toNat_natCast]; omega) (by simp only [Int.toNat_natCast]; omega))) (And.intro (fun q => ?_) (fun q => ?_))
  · exact k3 (by rw [← hr, decide_eq_false (Int.not_le.mpr q)]; rfl)
  · refine hA 1 _ rfl _ _ _ _ _ ?_
    refine Exists.intro _ (And.intro (by first | assumption | exact st_s | exact st_e (by decide) (by assumption) | exact st_e (by omega) (by assumption) | exact st_e (by decide) st_s | exact st_e (by omega) st_s | exact st_e (by decide) (st_e (by decide) (by assumption)) | exact st_e (by omega) (st_e (by omega) (by assumption))) ?_)
    refine And.intro (And.intro (by first | assumption | exact b2i_R _ | exact rR (by omega) (by omega) | exact rR (by simp only [Int.toNat_natCast]; omega) (by simp only [Int.toNat_natCast]; omega)) (by first | assumption | exact b2i_R _ | exact rR (by omega) (by omega) | exact rR (by simp only [Int.toNat_natCast]; omega) (by simp only [Int.toNat_natCast]; omega))) (And.intro (fun q => ?_) (fun q => ?_))
    · exact k3 (by rw [← hr, decide_eq_false (show ¬ c ≤ (parts : Int) from Int.not_le.mpr q), Bool.and_false])
    · refine hA 2 _ rfl _ _ _ _ _ ?_
      exact k4 _ (by rw [← hr, decide_eq_true (show 1 ≤ c by assumption), decide_eq_true (show c ≤ (parts : Int) by assumption)]; rfl)
set_option maxRecDepth 100000 in
set_option maxHeartbeats 1000000 in
theorem c_bitmapsOfPart (hC : IsC σ h rg card parts b va G) (ho : okb card parts b) (p : Nat) (hp : p < parts) : ab_ev 1 yX3_bitmapsOfPart [rf h, .inl p] σ (some (.inl (nbm rg b p))) σ := by
  obtain ⟨h0, h1, h2, h3, h4, h5, h6⟩ := id hC
  obtain ⟨o1, o2, o3, o4, o5, o6⟩ := ho
  have hb := o3 p
  refine eX3_bitmapsOfPart rfl (fun At hA => ?_)
  have k3 : ∀ z : Int, z = nbm rg b p → At 3 [some (rf h), some (.inl p)] [.inl z] σ 0 0 := fun z hz => by
    subst hz
    refine hA 3 _ rfl _ _ _ _ _ ?_
    exact ⟨rfl, rfl⟩
  refine hA 0 _ rfl _ _ _ _ _ ?_
  refine Exists.intro _ (And.intro (by first | assumption | exact st_s | exact st_e (by decide) (by assumption) | exact st_e (by omega) (by assumption) | exact st_e (by decide) st_s | exact st_e (by omega) st_s | exact st_e (by decide) (st_e (by decide) (by assumption)) | exact st_e (by omega) (st_e (by omega) (by assumption))) ?_)
  refine And.intro (by first | assumption | exact b2i_R _ | exact rR (by omega) (by omega) | exact rR (by simp only [Int.toNat_natCast]; omega) (by simp only [Int.toNat_natCast]; omega)) (And.intro (fun q => ?_) (fun q => ?_))
  · rw [b2i_0 q] at k3
    refine hA 2 _ rfl _ _ _ _ _ ?_
    refine Exists.intro _ (And.intro (by first | assumption | exact st_s | exact st_e (by decide) (by assumption) | exact st_e (by omega) (by assumption) | exact st_e (by decide) st_s | exact st_e (by omega) st_s | exact st_e (by decide) (st_e (by decide) (by assumption)) | exact st_e (by omega) (st_e (by omega) (by assumption))) ?_)
    refine Exists.intro _ (Exists.intro _ (And.intro (by first | assumption | exact st_s | exact st_e (by decide) (by assumption) | exact st_e (by omega) (by assumption) | exact st_e (by decide) st_s | exact st_e (by omega) st_s | exact st_e (by decide) (st_e (by decide) (by assumption)) | exact st_e (by omega) (st_e (by omega) (by assumption))) (And.intro (by omega) ?_)))
    exact k3 _ rfl
  · rw [b2i_1 q] at k3
    refine hA 1 _ rfl _ _ _ _ _ ?_
    refine Exists.intro _ (And.intro (by first | assumption | exact st_s | exact st_e (by decide) (by assumption) | exact st_e (by omega) (by assumption) | exact st_e (by decide) st_s | exact st_e (by omega) st_s | exact st_e (by decide) (st_e (by decide) (by assumption)) | exact st_e (by omega) (st_e (by omega) (by assumption))) ?_)
    refine Exists.intro _ (Exists.intro _ (And.intro (by first | assumption | exact st_s | exact st_e (by decide) (by assumption) | exact st_e (by omega) (by assumption) | exact st_e (by decide) st_s | exact st_e (by omega) st_s | exact st_e (by decide) (st_e (by decide) (by assumption)) | exact st_e (by omega) (st_e (by omega) (by assumption))) (And.intro (by omega) ?_)))
    refine k3 _ ?_
    show ((b p : Nat) : Int) - 1 = ((b p - 1 : Nat) : Int)
    omega
set_option maxRecDepth 100000 in
set_option maxHeartbeats 1000000 in
theorem c_bitmapAt (hC : IsC σ h rg card parts b va G) (ho : okb card parts b) (p j : Nat) (hp : p < parts) (hj : j < nbm rg b p) : ab_ev 1 yX3_bitmapAt [rf h, .inl p, .inl j] σ (some (rf (h + 6 + 2 * (fsp rg b p + j)))) σ := by
  obtain ⟨h0, h1, h2, h3, h4, h5, h6⟩ := id hC
  obtain ⟨o1, o2, o3, o4, o5, o6⟩ := ho
  have hlt := fsp_lt hp hj
  have hle := fsp_le (rg := rg) o3 parts
  refine eX3_bitmapAt rfl (fun At hA => ?_)
  refine hA 0 _ rfl _ _ _ _ _ ?_
  refine Exists.intro _ (And.intro (by first | assumption | exact st_s | exact st_e (by decide) (by assumption) | exact st_e (by omega) (by assumption) | exact st_e (by decide) st_s | exact st_e (by omega) st_s | exact st_e (by decide) (st_e (by decide) (by assumption)) | exact st_e (by omega) (st_e (by omega) (by assumption))) ?_)
  refine Exists.intro _ (And.intro (by first | assumption | exact st_s | exact st_e (by decide) (by assumption) | exact st_e (by omega) (by assumption) | exact st_e (by decide) st_s | exact st_e (by omega) st_s | exact st_e (by decide) (st_e (by decide) (by assumption)) | exact st_e (by omega) (st_e (by omega) (by assumption))) ?_)
  refine Exists.intro _ (Exists.intro _ (And.intro (by first | assumption | exact st_s | exact st_e (by decide) (by assumption) | exact st_e (by omega) (by assumption) | exact st_e (by decide) st_s | exact st_e (by omega) st_s | exact st_e (by decide) (st_e (by decide) (by assumption)) | exact st_e (by omega) (st_e (by omega) (by assumption))) (And.intro (by omega) ?_)))
  refine Exists.intro _ (Exists.intro _ (And.intro h5 (And.intro (by simp only [Int.toNat_natCast]; omega) ?_)))
  have e : (((fsp rg b p : Nat) : Int) + (j : Int)).toNat = fsp rg b p + j := by omega
  refine ⟨?_, rfl⟩
  show (Sum.inl (some (Sum.inr (Sum.inl (some (h + 6 + 2 * (((fsp rg b p : Nat) : Int) + (j : Int)).toNat))))) : ab_O) = _
  rw [e]
set_option maxRecDepth 100000 in
set_option maxHeartbeats 1000000 in
theorem c_digitOf (hC : IsC σ h rg card parts b va G) (ho : okb card parts b) (p v : Nat) (hp : p < parts) (hv : (v : Int) < 2147483648) : ab_ev 1 yX3_digitOf [rf h, .inl p, .inl v] σ (some (.inl (dig b p v))) σ := by
  obtain ⟨h0, h1, h2, h3, h4, h5, h6⟩ := id hC
  obtain ⟨o1, o2, o3, o4, o5, o6⟩ := ho
  have hb := o3 p
  have hw := wtp_pos o3 p
  have hw2 := wtp_lt o3 (p := p) (by omega)
  have hd : v / wtp b p ≤ v := Nat.div_le_self _ _
  refine eX3_digitOf rfl (fun At hA => ?_)
  refine hA 0 _ rfl _ _ _ _ _ ?_
  refine Exists.intro _ (And.intro (by first | assumption | exact st_s | exact st_e (by decide) (by assumption) | exact st_e (by omega) (by assumption) | exact st_e (by decide) st_s | exact st_e (by omega) st_s | exact st_e (by decide) (st_e (by decide) (by assumption)) | exact st_e (by omega) (st_e (by omega) (by assumption))) ?_)
  refine Exists.intro _ (Exists.intro _ (And.intro (by first | assumption | exact st_s | exact st_e (by decide) (by assumption) | exact st_e (by omega) (by assumption) | exact st_e (by decide) st_s | exact st_e (by omega) st_s | exact st_e (by decide) (st_e (by decide) (by assumption)) | exact st_e (by omega) (st_e (by omega) (by assumption))) (And.intro (by omega) ?_)))
  refine And.intro ⟨by omega, rR (by omega) (by omega), by show (0 : Int) < ((wtp b p : Nat) : Int); omega, by show ab_R ((wtp b p : Nat) : Int); exact rR (by omega) (by omega)⟩ ?_
  refine Exists.intro _ (And.intro (by first | assumption | exact st_s | exact st_e (by decide) (by assumption) | exact st_e (by omega) (by assumption) | exact st_e (by decide) st_s | exact st_e (by omega) st_s | exact st_e (by decide) (st_e (by decide) (by assumption)) | exact st_e (by omega) (st_e (by omega) (by assumption))) ?_)
  refine Exists.intro _ (Exists.intro _ (And.intro (by first | assumption | exact st_s | exact st_e (by decide) (by assumption) | exact st_e (by omega) (by assumption) | exact st_e (by decide) st_s | exact st_e (by omega) st_s | exact st_e (by decide) (st_e (by decide) (by assumption)) | exact st_e (by omega) (st_e (by omega) (by assumption))) (And.intro (by omega) ?_)))
  have e : (v : Int) / ((wtp b p : Nat) : Int) = ((v / wtp b p : Nat) : Int) := by rw [Int.natCast_ediv]
  have e2 : (0 : Int) ≤ (v : Int) / ((wtp b p : Nat) : Int) ∧ ab_R ((v : Int) / ((wtp b p : Nat) : Int)) := by
    rw [e]
    generalize v / wtp b p = z at hd
    exact ⟨by omega, rR (by omega) (by omega)⟩
  refine And.intro ⟨e2.1, e2.2, by show (0 : Int) < ((b p : Nat) : Int); omega, by show ab_R ((b p : Nat) : Int); exact rR (by omega) (by omega)⟩ ?_
  refine ⟨?_, rfl⟩
  show (Sum.inl (some (Sum.inl ((v : Int) / ((wtp b p : Nat) : Int) % ((b p : Nat) : Int)))) : ab_O) = _
  rw [e, ← Int.natCast_emod]
  rfl
set_option maxRecDepth 100000 in
set_option maxHeartbeats 1000000 in
theorem c_isTop (hC : IsC σ h rg card parts b va G) (ho : okb card parts b) (p x : Nat) (hp : p < parts) (hx : x < 1000) : ab_ev 1 yX3_isTop [rf h, .inl p, .inl x] σ (some (.inl (b2i (x + 1 == b p)))) σ := by
  obtain ⟨h0, h1, h2, h3, h4, h5, h6⟩ := id hC
  obtain ⟨o1, o2, o3, o4, o5, o6⟩ := ho
  have hb := o3 p
  have hbR : ab_R (((b p : Nat) : Int) - 1) := rR (by omega) (by omega)
  refine eX3_isTop rfl (fun At hA => ?_)
  have k3 : ∀ z : Int, z = b2i (x + 1 == b p) → At 3 [some (rf h), some (.inl p), some (.inl x)] [.inl z] σ 0 0 := fun z hz => by
    subst hz
    refine hA 3 _ rfl _ _ _ _ _ ?_
    refine And.intro (by first | exact Or.inl rfl | exact Or.inr rfl | exact b2i_01 _) ?_
    exact ⟨rfl, rfl⟩
  refine hA 0 _ rfl _ _ _ _ _ ?_
  refine Exists.intro _ (And.intro (by first | assumption | exact st_s | exact st_e (by decide) (by assumption) | exact st_e (by omega) (by assumption) | exact st_e (by decide) st_s | exact st_e (by omega) st_s | exact st_e (by decide) (st_e (by decide) (by assumption)) | exact st_e (by omega) (st_e (by omega) (by assumption))) ?_)
  refine Exists.intro _ (Exists.intro _ (And.intro (by first | assumption | exact st_s | exact st_e (by decide) (by assumption) | exact st_e (by omega) (by assumption) | exact st_e (by decide) st_s | exact st_e (by omega) st_s | exact st_e (by decide) (st_e (by decide) (by assumption)) | exact st_e (by omega) (st_e (by omega) (by assumption))) (And.intro (by omega) ?_)))
  refine And.intro (And.intro (rR (by omega) (by omega)) hbR) (And.intro (fun q => ?_) (fun q => ?_))
  · have q : ¬ ((x : Int) = ((b p : Nat) : Int) - 1) := q
    refine hA 2 _ rfl _ _ _ _ _ ?_
    exact k3 _ (by rw [beq_eq_false_iff_ne.mpr (by omega)]; rfl)
  · have q : ((x : Int) = ((b p : Nat) : Int) - 1) := q
    refine hA 1 _ rfl _ _ _ _ _ ?_
    exact k3 _ (by rw [beq_iff_eq.mpr (show x + 1 = b p by omega)]; rfl)
def wordsP (rg : Bool) (b : Nat → Nat) (G : Nat → Nat → Nat) (u p : Nat) : Nat := sm (fun j => cnt (sw (G (fsp rg b p + j))) u) (nbm rg b p)
set_option maxRecDepth 100000 in
set_option maxHeartbeats 1000000 in
theorem c_wordsOfPart (hC : IsC σ h rg card parts b va G) (ho : okb card parts b) (p u : Nat) (hp : p < parts) (hu : u ≤ 100) : ab_ev 3 yX3_wordsOfPart [rf h, .inl p, .inl u] σ (some (.inl (wordsP rg b G u p))) σ := by
  have hn := nbm_le (rg := rg) ho.2.2.1 p
  have hb := ho.2.2.1 p
  have hnR : ab_R ((nbm rg b p : Nat) : Int) := rR (by omega) (by omega)
  refine eX3_wordsOfPart rfl (fun At hA => ?_)
  have loop : ∀ m i : Nat, i + m = nbm rg b p → At 1 [some (rf h), some (.inl p), some (.inl u), some (.inl (sm (fun j => cnt (sw (G (fsp rg b p + j))) u) i)), some (.inl i)] [] σ 0 0 := by
    intro m
    induction m with
    | zero =>
      intro i hi
      refine hA 1 _ rfl _ _ _ _ _ ?_
      refine Exists.intro _ (And.intro hC.1 (And.intro rfl (ab_inv_ev (c_bitmapsOfPart hC ho p hp) (by decide) (Nat.le_refl _) (Nat.le_refl _) ?_)))
      refine And.intro (And.intro (by first | assumption | exact b2i_R _ | exact rR (by omega) (by omega) | exact rR (by simp only [Int.toNat_natCast]; omega) (by simp only [Int.toNat_natCast]; omega)) (by first | assumption | exact b2i_R _ | exact rR (by omega) (by omega) | exact rR (by simp only [Int.toNat_natCast]; omega) (by simp only [Int.toNat_natCast]; omega))) (And.intro (fun q => ?_) (fun q => ?_))
      · refine hA 3 _ rfl _ _ _ _ _ ?_
        refine ⟨?_, rfl⟩
        rw [show i = nbm rg b p by omega]
        rfl
      · omega
    | succ m ih =>
      intro i hi
      have hlt := fsp_lt hp (show i < nbm rg b p by omega)
      refine hA 1 _ rfl _ _ _ _ _ ?_
      refine Exists.intro _ (And.intro hC.1 (And.intro rfl (ab_inv_ev (c_bitmapsOfPart hC ho p hp) (by decide) (Nat.le_refl _) (Nat.le_refl _) ?_)))
      refine And.intro (And.intro (by first | assumption | exact b2i_R _ | exact rR (by omega) (by omega) | exact rR (by simp only [Int.toNat_natCast]; omega) (by simp only [Int.toNat_natCast]; omega)) (by first | assumption | exact b2i_R _ | exact rR (by omega) (by omega) | exact rR (by simp only [Int.toNat_natCast]; omega) (by simp only [Int.toNat_natCast]; omega))) (And.intro (fun q => ?_) (fun q => ?_))
      · omega
      · have hB := hC.2.2.2.2.2.2 _ hlt
        refine hA 2 _ rfl _ _ _ _ _ ?_
        refine Exists.intro _ (And.intro hC.1 (And.intro rfl (ab_inv_ev (c_bitmapAt hC ho p i hp (by omega)) (by decide) (Nat.le_refl _) (Nat.le_refl _) ?_)))
        refine Exists.intro _ (And.intro hB.1 (And.intro rfl (ab_inv_ev (c_wordCount hB u hu) (by decide) (Nat.le_refl _) (Nat.le_refl _) ?_)))
        exact ih (i + 1) (by omega)
  refine hA 0 _ rfl _ _ _ _ _ ?_
  exact loop (nbm rg b p) 0 (by omega)
set_option maxRecDepth 100000 in
set_option maxHeartbeats 1000000 in
theorem c_wordsOfColumn (hC : IsC σ h rg card parts b va G) (ho : okb card parts b) (u : Nat) (hu : u ≤ 100) : ab_ev 4 yX3_wordsOfColumn [rf h, .inl u] σ (some (.inl (sm (wordsP rg b G u) parts))) σ := by
  have h0 := hC.1
  have hp4 := ho.2.1
  refine eX3_wordsOfColumn rfl (fun At hA => ?_)
  have loop : ∀ m i : Nat, i + m = parts → At 1 [some (rf h), some (.inl u), some (.inl (sm (wordsP rg b G u) i)), some (.inl i)] [] σ 0 0 := by
    intro m
    induction m with
    | zero =>
      intro i hi
      refine hA 1 _ rfl _ _ _ _ _ ?_
      refine Exists.intro _ (And.intro (by first | assumption | exact st_s | exact st_e (by decide) (by assumption) | exact st_e (by omega) (by assumption) | exact st_e (by decide) st_s | exact st_e (by omega) st_s | exact st_e (by decide) (st_e (by decide) (by assumption)) | exact st_e (by omega) (st_e (by omega) (by assumption))) ?_)
      refine And.intro (And.intro (by first | assumption | exact b2i_R _ | exact rR (by omega) (by omega) | exact rR (by simp only [Int.toNat_natCast]; omega) (by simp only [Int.toNat_natCast]; omega)) (by first | assumption | exact b2i_R _ | exact rR (by omega) (by omega) | exact rR (by simp only [Int.toNat_natCast]; omega) (by simp only [Int.toNat_natCast]; omega))) (And.intro (fun q => ?_) (fun q => ?_))
      · refine hA 3 _ rfl _ _ _ _ _ ?_
        exact ⟨by rw [show i = parts by omega], rfl⟩
      · omega
    | succ m ih =>
      intro i hi
      refine hA 1 _ rfl _ _ _ _ _ ?_
      refine Exists.intro _ (And.intro (by first | assumption | exact st_s | exact st_e (by decide) (by assumption) | exact st_e (by omega) (by assumption) | exact st_e (by decide) st_s | exact st_e (by omega) st_s | exact st_e (by decide) (st_e (by decide) (by assumption)) | exact st_e (by omega) (st_e (by omega) (by assumption))) ?_)
      refine And.intro (And.intro (by first | assumption | exact b2i_R _ | exact rR (by omega) (by omega) | exact rR (by simp only [Int.toNat_natCast]; omega) (by simp only [Int.toNat_natCast]; omega)) (by first | assumption | exact b2i_R _ | exact rR (by omega) (by omega) | exact rR (by simp only [Int.toNat_natCast]; omega) (by simp only [Int.toNat_natCast]; omega))) (And.intro (fun q => ?_) (fun q => ?_))
      · omega
      · refine hA 2 _ rfl _ _ _ _ _ ?_
        refine Exists.intro _ (And.intro (by first | assumption | exact st_s | exact st_e (by decide) (by assumption) | exact st_e (by omega) (by assumption) | exact st_e (by decide) st_s | exact st_e (by omega) st_s | exact st_e (by decide) (st_e (by decide) (by assumption)) | exact st_e (by omega) (st_e (by omega) (by assumption))) (And.intro rfl (ab_inv_ev (c_wordsOfPart hC ho i u (by omega) hu) (by decide) (Nat.le_refl _) (Nat.le_refl _) ?_)))
        exact ih (i + 1) (by omega)
  refine hA 0 _ rfl _ _ _ _ _ ?_
  exact loop parts 0 (by omega)
/-- readings of le for a number below the card's last one -/
def rdg (rg : Bool) (b : Nat → Nat) (n p : Nat) : Nat := if rg then (if dig b p n + 1 == b p then 0 else 1) + (if decide (0 < p) && decide (0 < dig b p n) then 1 else 0) else dig b p n + 1
set_option maxRecDepth 100000 in
set_option maxHeartbeats 1000000 in
theorem c_readingsUpTo (hC : IsC σ h rg card parts b va G) (ho : okb card parts b) (n : Nat) (hn : n < 1000) : ab_ev 2 yX3_readingsUpTo [rf h, .inl n] σ (some (.inl (if card ≤ n + 1 then 0 else sm (rdg rg b n) parts : Nat))) σ := by
  have h0 := hC.1
  obtain ⟨o1, o2, o3, o4, o5, o6⟩ := id ho
  refine eX3_readingsUpTo rfl (fun At hA => ?_)
  have loop : ∀ (m i : Nat) (y : Option ab_V), i + m = parts → ¬ card ≤ n + 1 → At 3 [some (rf h), some (.inl n), some (.inl (sm (rdg rg b n) i)), some (.inl i), y] [] σ 0 0 := by
    intro m
    induction m with
    | zero =>
      intro i y hi hq
      refine hA 3 _ rfl _ _ _ _ _ ?_
      refine Exists.intro _ (And.intro (by first | assumption | exact st_s | exact st_e (by decide) (by assumption) | exact st_e (by omega) (by assumption) | exact st_e (by decide) st_s | exact st_e (by omega) st_s | exact st_e (by decide) (st_e (by decide) (by assumption)) | exact st_e (by omega) (st_e (by omega) (by assumption))) ?_)
      refine And.intro (And.intro (by first | assumption | exact b2i_R _ | exact rR (by omega) (by omega) | exact rR (by simp only [Int.toNat_natCast]; omega) (by simp only [Int.toNat_natCast]; omega)) (by first | assumption | exact b2i_R _ | exact rR (by omega) (by omega) | exact rR (by simp only [Int.toNat_natCast]; omega) (by simp only [Int.toNat_natCast]; omega))) (And.intro (fun q => ?_) (fun q => ?_))
      · refine hA 15 _ rfl _ _ _ _ _ ?_
        exact ⟨by rw [show i = parts by omega, if_neg hq], rfl⟩
      · omega
    | succ m ih =>
      intro i y hi hq
      have hd := dig_lt o3 i n
      have hb := o3 i
      have k14 : ∀ z : Int, z = sm (rdg rg b n) (i + 1) → At 14 [some (rf h), some (.inl n), some (.inl z), some (.inl i), some (.inl (dig b i n))] [] σ 0 0 := fun z hz => by
        subst hz
        refine hA 14 _ rfl _ _ _ _ _ ?_
        exact ih (i + 1) _ (by omega) hq
      have hs : ((sm (rdg rg b n) (i + 1) : Nat) : Int) = sm (rdg rg b n) i + (rdg rg b n i : Nat) := by
        show ((sm (rdg rg b n) i + rdg rg b n i : Nat) : Int) = _
        omega
      refine hA 3 _ rfl _ _ _ _ _ ?_
      refine Exists.intro _ (And.intro (by first | assumption | exact st_s | exact st_e (by decide) (by assumption) | exact st_e (by omega) (by assumption) | exact st_e (by decide) st_s | exact st_e (by omega) st_s | exact st_e (by decide) (st_e (by decide) (by assumption)) | exact st_e (by omega) (st_e (by omega) (by assumption))) ?_)
      refine And.intro (And.intro (by first | assumption | exact b2i_R _ | exact rR (by omega) (by omega) | exact rR (by simp only [Int.toNat_natCast]; omega) (by simp only [Int.toNat_natCast]; omega)) (by first | assumption | exact b2i_R _ | exact rR (by omega) (by omega) | exact rR (by simp only [Int.toNat_natCast]; omega) (by simp only [Int.toNat_natCast]; omega))) (And.intro (fun q => ?_) (fun q => ?_))
      · omega
      · refine hA 4 _ rfl _ _ _ _ _ ?_
        refine Exists.intro _ (And.intro (by first | assumption | exact st_s | exact st_e (by decide) (by assumption) | exact st_e (by omega) (by assumption) | exact st_e (by decide) st_s | exact st_e (by omega) st_s | exact st_e (by decide) (st_e (by decide) (by assumption)) | exact st_e (by omega) (st_e (by omega) (by assumption))) (And.intro rfl (ab_inv_ev (c_digitOf hC ho i n (by omega) (by omega)) (by decide) (Nat.le_refl _) (Nat.le_refl _) ?_)))
        refine Exists.intro _ (And.intro (by first | assumption | exact st_s | exact st_e (by decide) (by assumption) | exact st_e (by omega) (by assumption) | exact st_e (by decide) st_s | exact st_e (by omega) st_s | exact st_e (by decide) (st_e (by decide) (by assumption)) | exact st_e (by omega) (st_e (by omega) (by assumption))) ?_)
        refine And.intro (by first | assumption | exact b2i_R _ | exact rR (by omega) (by omega) | exact rR (by simp only [Int.toNat_natCast]; omega) (by simp only [Int.toNat_natCast]; omega)) (And.intro (fun q => ?_) (fun q => ?_))
        · have hq := b2i_0 q
          refine hA 13 _ rfl _ _ _ _ _ ?_
          refine k14 _ ?_
          rw [hs]
          unfold rdg
          rw [hq]
          show _ = _ + ((dig b i n + 1 : Nat) : Int)
          omega
        · have hr := b2i_1 q
          subst hr
          have k12 : ∀ z y : Int, y + z = sm (rdg true b n) (i + 1) → At 12 [some (rf h), some (.inl n), some (.inl y), some (.inl i), some (.inl (dig b i n))] [.inl z, .inl y] σ 0 0 := fun z y hz => by
            refine hA 12 _ rfl _ _ _ _ _ ?_
            exact k14 _ hz
          have k8 : ∀ z : Int, z = (if dig b i n + 1 == b i then 0 else 1) → At 8 [some (rf h), some (.inl n), some (.inl (sm (rdg true b n) i)), some (.inl i), some (.inl (dig b i n))] [.inl z, .inl (sm (rdg true b n) i)] σ 0 0 := fun z hz => by
            have e : ((rdg true b n i : Nat) : Int) = z + (if decide (0 < i) && decide (0 < dig b i n) then 1 else 0) := by
              rw [hz]
              unfold rdg
              rw [if_pos rfl]
              split <;> split <;> rfl
            refine hA 8 _ rfl _ _ _ _ _ ?_
            refine And.intro (by first | assumption | exact b2i_R _ | exact rR (by omega) (by omega) | exact rR (by simp only [Int.toNat_natCast]; omega) (by simp only [Int.toNat_natCast]; omega)) (And.intro (fun q => ?_) (fun q => ?_))
            · refine hA 11 _ rfl _ _ _ _ _ ?_
              refine k12 _ _ ?_
              rw [hs, e, if_neg (by rw [decide_eq_false (show ¬ 0 < i by omega)]; simp)]
              omega
            · refine hA 9 _ rfl _ _ _ _ _ ?_
              refine And.intro (by first | assumption | exact b2i_R _ | exact rR (by omega) (by omega) | exact rR (by simp only [Int.toNat_natCast]; omega) (by simp only [Int.toNat_natCast]; omega)) (And.intro (fun q => ?_) (fun q => ?_))
              · refine hA 11 _ rfl _ _ _ _ _ ?_
                refine k12 _ _ ?_
                rw [hs, e, if_neg (by rw [decide_eq_false (show ¬ 0 < dig b i n by omega)]; simp)]
                omega
              · refine hA 10 _ rfl _ _ _ _ _ ?_
                refine k12 _ _ ?_
                rw [hs, e, if_pos (by rw [decide_eq_true (show 0 < dig b i n by omega), decide_eq_true (show 0 < i by omega)]; rfl)]
                omega
          refine hA 5 _ rfl _ _ _ _ _ ?_
          refine Exists.intro _ (And.intro (by first | assumption | exact st_s | exact st_e (by decide) (by assumption) | exact st_e (by omega) (by assumption) | exact st_e (by decide) st_s | exact st_e (by omega) st_s | exact st_e (by decide) (st_e (by decide) (by assumption)) | exact st_e (by omega) (st_e (by omega) (by assumption))) (And.intro rfl (ab_inv_ev (c_isTop hC ho i (dig b i n) (by omega) (by omega)) (by decide) (Nat.le_refl _) (Nat.le_refl _) ?_)))
          refine And.intro (by first | assumption | exact b2i_R _ | exact rR (by omega) (by omega) | exact rR (by simp only [Int.toNat_natCast]; omega) (by simp only [Int.toNat_natCast]; omega)) (And.intro (fun q => ?_) (fun q => ?_))
          · have hq := b2i_0 q
            refine hA 7 _ rfl _ _ _ _ _ ?_
            exact k8 _ (by rw [hq]; rfl)
          · have hq := b2i_1 q
            refine hA 6 _ rfl _ _ _ _ _ ?_
            exact k8 _ (by rw [hq]; rfl)
  refine hA 0 _ rfl _ _ _ _ _ ?_
  refine Exists.intro _ (And.intro (by first | assumption | exact st_s | exact st_e (by decide) (by assumption) | exact st_e (by omega) (by assumption) | exact st_e (by decide) st_s | exact st_e (by omega) st_s | exact st_e (by decide) (st_e (by decide) (by assumption)) | exact st_e (by omega) (st_e (by omega) (by assumption))) ?_)
  refine And.intro (And.intro (by first | assumption | exact b2i_R _ | exact rR (by omega) (by omega) | exact rR (by simp only [Int.toNat_natCast]; omega) (by simp only [Int.toNat_natCast]; omega)) (by first | assumption | exact b2i_R _ | exact rR (by omega) (by omega) | exact rR (by simp only [Int.toNat_natCast]; omega) (by simp only [Int.toNat_natCast]; omega))) (And.intro (fun q => ?_) (fun q => ?_))
  · refine hA 2 _ rfl _ _ _ _ _ ?_
    exact loop parts 0 _ (by omega) (by omega)
  · refine hA 1 _ rfl _ _ _ _ _ ?_
    exact ⟨by rw [if_pos (by omega)]; rfl, rfl⟩
end Col
