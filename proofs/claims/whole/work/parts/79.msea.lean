-- ===== the model: the search =====
/-- the search's cells: what is tried up to place i, the best so far -/
def SB (σ τ : ab_H) (t : Nat → Int) (i : Nat) (tt : Nat → Nat) (B : B3) : Prop := fr (fun a => a = 57 ∨ a = 317 ∨ a = 318) σ τ ∧ (∃ t' : Nat → Int, τ.2 57 = some (m10 t') ∧ (∀ j, j ≠ 33 → j ≠ 34 → t' j = t j) ∧ t' 33 = B.1 ∧ (0 < B.1 → t' 34 = B.2.1)) ∧ (∃ g : Nat → Int, τ.2 317 = some (iar 4 g) ∧ ∀ j, j < i → g j = tt j) ∧ (∃ g : Nat → Int, τ.2 318 = some (iar 4 g) ∧ ∀ j, j < B.1 → g j = B.2.2 j) ∧ B.1 ≤ 4 ∧ (B.1 = 0 → B.2.1 = 1000000) ∧ B.2.1 ≤ 1000000
theorem SB.lo {σ τ : ab_H} {t : Nat → Int} {i j : Nat} {tt uu : Nat → Nat} {B : B3} (h : SB σ τ t i tt B) (hj : j ≤ i) (hu : ∀ x, x < j → tt x = uu x) : SB σ τ t j uu B := by
  obtain ⟨h1, h2, ⟨g, h3, h4⟩, h5⟩ := h
  exact ⟨h1, h2, ⟨g, h3, fun x hx => by rw [h4 x (by omega), hu x hx]⟩, h5⟩
theorem fb_s (s : Nat → B3 → B3) (n b : Nat) (B : B3) : fb s (n + 1) b B = fb s n (b + 1) (s b B) := rfl
theorem fb_mono {s : Nat → B3 → B3} (hs : ∀ b B, (s b B).2.1 ≤ B.2.1) : ∀ n b B, (fb s n b B).2.1 ≤ B.2.1 := by
  intro n
  induction n with
  | zero => intro b B; exact Nat.le_refl _
  | succ n ih => intro b B; exact Nat.le_trans (ih (b + 1) (s b B)) (hs b B)
theorem upb_mono (k card prod sc : Nat) (t : Nat → Nat) (B : B3) : (upb k card prod sc t B).2.1 ≤ B.2.1 := by
  unfold upb
  split
  · show sc ≤ _; omega
  · exact Nat.le_refl _
theorem enF_mono (k card : Nat) : ∀ (r i prod sum : Nat) (t : Nat → Nat) (B : B3), (enF k card r i prod sum t B).2.1 ≤ B.2.1 := by
  intro r
  induction r with
  | zero => intro i prod sum t B; exact upb_mono _ _ _ _ _ _
  | succ r ih => intro i prod sum t B; exact fb_mono (fun b B => ih _ _ _ _ B) 199 2 B
theorem enF_ub {k card : Nat} : ∀ (r i prod sum : Nat) (t : Nat → Nat) (B : B3), card ≤ prod → (enF k card r i prod sum t B).2.1 ≤ sum + r := by
  intro r
  induction r with
  | zero =>
    intro i prod sum t B h
    show (upb k card prod sum t B).2.1 ≤ _
    unfold upb
    split
    · exact Nat.le_refl _
    · omega
  | succ r ih =>
    intro i prod sum t B h
    have e : enF k card (r + 1) i prod sum t B = fb (fun b B => enF k card r (i + 1) (prod * b) (sum + b - 1) (ab_up t i b) B) (198 + 1) 2 B := rfl
    rw [e, fb_s]
    refine Nat.le_trans (fb_mono (fun b B => enF_mono k card r _ _ _ _ B) 198 3 _) ?_
    have := ih (i + 1) (prod * 2) (sum + 2 - 1) (ab_up t i 2) B (by omega)
    omega
/-- the result is what was there, or one found now -/
theorem fb_or {k : Nat} {s : Nat → B3 → B3} (hs : ∀ b B, s b B = B ∨ (s b B).1 = k) : ∀ n b B, fb s n b B = B ∨ (fb s n b B).1 = k := by
  intro n
  induction n with
  | zero => intro b B; exact Or.inl rfl
  | succ n ih =>
    intro b B
    rcases ih (b + 1) (s b B) with h | h
    · rcases hs b B with h2 | h2
      · exact Or.inl (by show fb s n (b + 1) (s b B) = B; rw [h, h2])
      · exact Or.inr (by show (fb s n (b + 1) (s b B)).1 = k; rw [h, h2])
    · exact Or.inr h
theorem upb_or (k card prod sc : Nat) (t : Nat → Nat) (B : B3) : upb k card prod sc t B = B ∨ (upb k card prod sc t B).1 = k := by
  unfold upb
  split
  · exact Or.inr rfl
  · exact Or.inl rfl
theorem enF_or (k card : Nat) : ∀ (r i prod sum : Nat) (t : Nat → Nat) (B : B3), enF k card r i prod sum t B = B ∨ (enF k card r i prod sum t B).1 = k := by
  intro r
  induction r with
  | zero => intro i prod sum t B; exact upb_or _ _ _ _ _ _
  | succ r ih => intro i prod sum t B; exact fb_or (fun b B => ih _ _ _ _ B) 199 2 B
/-- the least base that is enough -/
def lb (card prod : Nat) : Nat := max 2 ((card + prod - 1) / prod)
theorem lb_sp {card prod : Nat} (hc : 1 ≤ card) (hp : 1 ≤ prod) : card ≤ prod * lb card prod ∧ (∀ b, 2 ≤ b → b < lb card prod → prod * b < card) ∧ lb card prod ≤ max 2 card := by
  have h1 := Nat.lt_mul_div_succ (card + prod - 1) hp
  rw [Nat.mul_add, Nat.mul_one] at h1
  refine ⟨?_, fun b hb hlt => ?_, ?_⟩
  · have h2 : (card + prod - 1) / prod ≤ lb card prod := by unfold lb; omega
    have h3 := Nat.mul_le_mul_left prod h2
    omega
  · have h2 : b + 1 ≤ (card + prod - 1) / prod := by unfold lb at hlt; omega
    have h3 := (Nat.le_div_iff_mul_le hp).mp h2
    rw [Nat.add_mul, Nat.one_mul, Nat.mul_comm] at h3
    omega
  · have h2 : (card + prod - 1) / prod ≤ card := by
      refine Nat.div_le_of_le_mul ?_
      obtain ⟨a, rfl⟩ : ∃ a, card = a + 1 := ⟨card - 1, by omega⟩
      obtain ⟨b, rfl⟩ : ∃ b, prod = b + 1 := ⟨prod - 1, by omega⟩
      rw [Nat.add_mul, Nat.mul_add, Nat.mul_add]
      omega
    unfold lb
    omega
theorem enF_1 {k card i prod sum : Nat} {t : Nat → Nat} {B : B3} (hc : 1 ≤ card) (hc2 : card ≤ 200) (hp : 1 ≤ prod) : enF k card 1 i prod sum t B = if sum + lb card prod - 1 < B.2.1 then (k, sum + lb card prod - 1, ab_up t i (lb card prod)) else B := by
  obtain ⟨h1, h2, h3⟩ := lb_sp (card := card) (prod := prod) hc hp
  have hl2 : 2 ≤ lb card prod := by unfold lb; omega
  have key : ∀ m b, b + m = 201 → 2 ≤ b → b ≤ lb card prod → fb (fun b B => upb k card (prod * b) (sum + b - 1) (ab_up t i b) B) m b B = if sum + lb card prod - 1 < B.2.1 then (k, sum + lb card prod - 1, ab_up t i (lb card prod)) else B := by
    intro m
    induction m with
    | zero => intro b hb h h'; omega
    | succ m ih =>
      intro b hb h h'
      show fb _ m (b + 1) (upb k card (prod * b) (sum + b - 1) (ab_up t i b) B) = _
      rcases (show b < lb card prod ∨ b = lb card prod by omega) with hlt | rfl
      · have e : upb k card (prod * b) (sum + b - 1) (ab_up t i b) B = B := if_neg (fun q => by have := h2 b h hlt; omega)
        rw [e]
        exact ih (b + 1) (by omega) (by omega) (by omega)
      · have e : upb k card (prod * lb card prod) (sum + lb card prod - 1) (ab_up t i (lb card prod)) B = if sum + lb card prod - 1 < B.2.1 then (k, sum + lb card prod - 1, ab_up t i (lb card prod)) else B := by
          unfold upb
          by_cases q : sum + lb card prod - 1 < B.2.1
          · rw [if_pos ⟨h1, q⟩, if_pos q]
          · rw [if_neg (fun z => q z.2), if_neg q]
        rw [e]
        refine fb_id m _ (fun j hj _ => upb_id ?_)
        split
        · show sum + lb card prod - 1 ≤ _; omega
        · omega
  exact key 199 2 rfl (Nat.le_refl _) hl2
section Msea
variable {σ : ab_H} {t : Nat → Int} {card so : Nat}
set_option maxRecDepth 100000 in
set_option maxHeartbeats 1000000 in
theorem m_keeps {τ : ab_H} {tt : Nat → Nat} {B : B3} (hS : SB σ τ t so tt B) (hso : 1 ≤ so ∧ so ≤ 4) (cost : Nat) (hcost : cost < 1000000) : ab_call 1 0 0 yX10_keeps [rf 57, .inl so, .inl cost] τ (fun r σ' => r = .inl none ∧ SB σ σ' t so tt (if cost < B.2.1 then (so, cost, tt) else B)) := by
  obtain ⟨hf, ⟨t', h57, ht, h33, h34⟩, ⟨g, h317, hg⟩, ⟨g8, h318, hg8⟩, hB4, hB0, hBm⟩ := id hS
  refine eX10_keeps rfl (fun At hA => ?_)
  have k3 : cost < B.2.1 → At 3 [some (rf 57), some (.inl so), some (.inl cost), none] [] τ 0 0 := fun hlt => by
    have loop : ∀ (m i : Nat) (y : Nat → Int), i + m = so → (∀ j, j < i → y j = tt j) → At 4 [some (rf 57), some (.inl so), some (.inl cost), some (.inl i)] [] (ab_st (ab_st τ 57 (m10 (ab_up (ab_up t' 33 so) 34 cost))) 318 (iar 4 y)) 0 0 := by
      intro m
      induction m with
      | zero =>
        intro i y hi hy
        have hi : i = so := by omega
        refine hA 4 _ rfl _ _ _ _ _ ?_
        refine And.intro (And.intro (by first | assumption | exact b2i_R _ | exact rR (by omega) (by omega) | exact rR (by simp only [Int.toNat_natCast]; omega) (by simp only [Int.toNat_natCast]; omega)) (by first | assumption | exact b2i_R _ | exact rR (by omega) (by omega) | exact rR (by simp only [Int.toNat_natCast]; omega) (by simp only [Int.toNat_natCast]; omega))) (And.intro (fun q => ?_) (fun q => ?_))
        · refine hA 6 _ rfl _ _ _ _ _ ?_
          refine ⟨rfl, ?_⟩
          rw [if_pos hlt]
          refine ⟨(hf.st (by omega)).st (by omega), ⟨_, st_e (by omega) st_s, fun j h1 h2 => by rw [ab_up_n h2, ab_up_n h1]; exact ht j h1 h2, by rw [ab_up_n (by omega), ab_up_s], fun _ => ab_up_s⟩, ⟨g, st_e (by omega) (st_e (by omega) h317), hg⟩, ⟨y, st_s, fun j hj => hy j (by have hj : j < so := hj; omega)⟩, hso.2, fun h => ?_, ?_⟩
          · have h : so = 0 := h
            omega
          · show cost ≤ _; omega
        · omega
      | succ m ih =>
        intro i y hi hy
        have q57 : (ab_st (ab_st τ 57 (m10 (ab_up (ab_up t' 33 so) 34 cost))) 318 (iar 4 y)).2 57 = some (m10 (ab_up (ab_up t' 33 so) 34 cost)) := st_e (by omega) st_s
        have q317 : (ab_st (ab_st τ 57 (m10 (ab_up (ab_up t' 33 so) 34 cost))) 318 (iar 4 y)).2 317 = some (iar 4 g) := st_e (by omega) (st_e (by omega) h317)
        have ihi := ih (i + 1) (ab_up y i (g i)) (by omega) (fun j hj => by
          by_cases e : j = i
          · rw [e, ab_up_s]; exact hg i (by omega)
          · rw [ab_up_n e]; exact hy j (by omega))
        rw [← st_st (x := iar 4 y)] at ihi
        refine hA 4 _ rfl _ _ _ _ _ ?_
        refine And.intro (And.intro (by first | assumption | exact b2i_R _ | exact rR (by omega) (by omega) | exact rR (by simp only [Int.toNat_natCast]; omega) (by simp only [Int.toNat_natCast]; omega)) (by first | assumption | exact b2i_R _ | exact rR (by omega) (by omega) | exact rR (by simp only [Int.toNat_natCast]; omega) (by simp only [Int.toNat_natCast]; omega))) (And.intro (fun q => ?_) (fun q => ?_))
        · omega
        · refine hA 5 _ rfl _ _ _ _ _ ?_
          refine Exists.intro _ (And.intro (q57) ?_)
          refine Exists.intro _ (And.intro (q57) ?_)
          refine Exists.intro _ (Exists.intro _ (And.intro (q317) (And.intro (by omega) ?_)))
          refine Exists.intro _ (Exists.intro _ (And.intro (st_s) (And.intro (by omega) ?_)))
          exact ihi
    have l0 := loop so 0 g8 (by omega) (fun j hj => by omega)
    have h318' : (ab_st τ 57 (m10 (ab_up (ab_up t' 33 so) 34 cost))).2 318 = some (iar 4 g8) := st_e (by omega) h318
    rw [st_id h318'] at l0
    refine hA 3 _ rfl _ _ _ _ _ ?_
    refine Exists.intro _ (And.intro (h57) ?_)
    rw [m10_s33]
    refine Exists.intro _ (And.intro (st_s) ?_)
    rw [m10_s34, st_st]
    exact l0
  refine hA 0 _ rfl _ _ _ _ _ ?_
  refine Exists.intro _ (And.intro (h57) ?_)
  refine And.intro (show ab_R (t' 33) from rR (by omega) (by omega)) (And.intro (fun q => ?_) (fun q => ?_))
  · have q : t' 33 ≤ 0 := q
    have h0 := hB0 (by omega)
    exact k3 (by omega)
  · have q : 0 < t' 33 := q
    have h34 := h34 (by omega)
    refine hA 1 _ rfl _ _ _ _ _ ?_
    refine Exists.intro _ (And.intro (h57) ?_)
    refine And.intro (And.intro (rR (by omega) (by omega)) (show ab_R (t' 34) from rR (by omega) (by omega))) (And.intro (fun q => ?_) (fun q => ?_))
    · have q : ((cost : Nat) : Int) < t' 34 := q
      exact k3 (by omega)
    · have q : t' 34 ≤ ((cost : Nat) : Int) := q
      refine hA 2 _ rfl _ _ _ _ _ ?_
      refine ⟨rfl, ?_⟩
      rw [if_neg (by omega)]
      exact hS
set_option maxRecDepth 100000 in
set_option maxHeartbeats 1000000 in
theorem m_triesFew (hc : 2 ≤ card ∧ card ≤ 200) (hso : 1 ≤ so ∧ so ≤ 4) : ∀ (r i : Nat), i + (r + 1) = so → ∀ (τ : ab_H) (prod sum : Nat) (tt : Nat → Nat) (B : B3), 1 ≤ prod → prod ≤ 200 ^ i → sum ≤ 200 * i → SB σ τ t i tt B → ab_call (3 + r) 0 0 yX10_triesFew [rf 57, .inl card, .inl so, .inl i, .inl prod, .inl sum] τ (fun z σ' => z = .inl none ∧ SB σ σ' t i tt (enF so card (r + 1) i prod sum tt B)) := by
  intro r
  induction r with
  | zero =>
    intro i hi τ prod sum tt B hp1 hp hsum hS
    obtain ⟨hf, ⟨t', h57, ht, h33, h34⟩, ⟨g, h317, hg⟩, ⟨g8, h318, hg8⟩, hB4, hB0, hBm⟩ := id hS
    have hp2 : prod ≤ 200 ^ 3 := Nat.le_trans hp (Nat.pow_le_pow_right (by omega) (by omega))
    have hp2 : prod ≤ 8000000 := hp2
    have he := enF_1 (k := so) (i := i) (sum := sum) (t := tt) (B := B) (show 1 ≤ card by omega) hc.2 hp1
    have hlb := lb_sp (card := card) (show 1 ≤ card by omega) hp1
    have hl2 : 2 ≤ lb card prod := by unfold lb; omega
    have hi4 : i < 4 := by omega
    have hdv : ((card : Int) + (prod : Int) - 1) / (prod : Int) = (((card + prod - 1) / prod : Nat) : Int) := by
      rw [Int.natCast_ediv]
      congr 1
      omega
    have hdl : (card + prod - 1) / prod ≤ lb card prod := by unfold lb; omega
    have hmo := m_more (σ := τ) 2 (((card + prod - 1) / prod : Nat) : Int) (rR (by omega) (by omega)) (by
      generalize (card + prod - 1) / prod = z at hdl
      exact rR (by omega) (by omega))
    have hmx : ((if (2 : Int) ≤ (((card + prod - 1) / prod : Nat) : Int) then (((card + prod - 1) / prod : Nat) : Int) else 2) : Int) = ((lb card prod : Nat) : Int) := by
      unfold lb
      generalize (card + prod - 1) / prod = z
      split <;> omega
    rw [hmx, ← hdv] at hmo
    refine eX10_triesFew rfl (fun At hA => ?_)
    have k3 : At 3 [some (rf 57), some (.inl card), some (.inl so), some (.inl i), some (.inl prod), some (.inl sum), none] [] τ 0 0 := by
      refine hA 3 _ rfl _ _ _ _ _ ?_
      refine And.intro (And.intro (by first | assumption | exact b2i_R _ | exact rR (by omega) (by omega) | exact rR (by simp only [Int.toNat_natCast]; omega) (by simp only [Int.toNat_natCast]; omega)) (by first | assumption | exact b2i_R _ | exact rR (by omega) (by omega) | exact rR (by simp only [Int.toNat_natCast]; omega) (by simp only [Int.toNat_natCast]; omega))) (And.intro (fun q => ?_) (fun q => ?_))
      · omega
      · have q57 : (ab_st τ 317 (iar 4 (ab_up g i (lb card prod)))).2 57 = some (m10 t') := st_e (by omega) h57
        have hS2 : SB σ (ab_st τ 317 (iar 4 (ab_up g i (lb card prod)))) t so (ab_up tt i (lb card prod)) B := ⟨hf.st (by omega), ⟨t', q57, ht, h33, h34⟩, ⟨_, st_s, fun j hj => by
          by_cases e : j = i
          · rw [e, ab_up_s, ab_up_s]
          · rw [ab_up_n e, ab_up_n e]; exact hg j (by omega)⟩, ⟨g8, st_e (by omega) h318, hg8⟩, hB4, hB0, hBm⟩
        have hk := m_keeps hS2 hso (sum + lb card prod - 1) (by omega)
        have eu : ab_up g i ((lb card prod : Nat) : Int) ((i : Nat) : Int).toNat = lb card prod := ab_up_s
        have es : ((sum : Int) + ab_up g i ((lb card prod : Nat) : Int) ((i : Nat) : Int).toNat - 1) = ((sum + lb card prod - 1 : Nat) : Int) := by rw [eu]; omega
        rw [← es] at hk
        refine hA 4 _ rfl _ _ _ _ _ ?_
        refine Exists.intro _ (And.intro (h57) ?_)
        refine And.intro ⟨by omega, rR (by omega) (by omega), by omega, rR (by omega) (by omega)⟩ ?_
        refine And.intro rfl (ab_inv_ev hmo (by first | decide | omega) (by first | exact Nat.le_refl _ | omega) (by first | exact Nat.le_refl _ | omega) ?_)
        refine Exists.intro _ (Exists.intro _ (And.intro (h317) (And.intro (by omega) ?_)))
        refine Exists.intro _ (And.intro (q57) ?_)
        refine Exists.intro _ (Exists.intro _ (And.intro (st_s) (And.intro (by omega) ?_)))
        refine Exists.intro _ (And.intro q57 (And.intro rfl (ab_inv_of hk (by first | decide | omega) (by omega) (by omega) ?_)))
        intro z υ hpost
        obtain ⟨rfl, hS3⟩ := hpost
        refine ⟨rfl, ?_⟩
        rw [he]
        exact hS3.lo (by omega) (fun x hx => ab_up_n (by omega))
    refine hA 0 _ rfl _ _ _ _ _ ?_
    refine Exists.intro _ (And.intro (h57) ?_)
    refine And.intro (show ab_R (t' 33) from rR (by omega) (by omega)) (And.intro (fun q => ?_) (fun q => ?_))
    · exact k3
    · have q : 0 < t' 33 := q
      have h34 := h34 (by omega)
      refine hA 1 _ rfl _ _ _ _ _ ?_
      refine Exists.intro _ (And.intro (h57) ?_)
      refine And.intro (And.intro (rR (by omega) (by omega)) (show ab_R (t' 34) from rR (by omega) (by omega))) (And.intro (fun q => ?_) (fun q => ?_))
      · exact k3
      · have q : t' 34 ≤ (sum : Int) + (so : Int) - (i : Int) := q
        refine hA 2 _ rfl _ _ _ _ _ ?_
        refine ⟨rfl, ?_⟩
        rw [enF_id 1 i prod sum tt B (by omega)]
        exact hS
  | succ r ihr =>
    intro i hi τ prod sum tt B hp1 hp hsum hS
    obtain ⟨hf, ⟨t', h57, ht, h33, h34⟩, -, -, hB4, hB0, hBm⟩ := id hS
    have hi4 : i < 4 := by omega
    refine eX10_triesFew rfl (fun At hA => ?_)
    have loop : ∀ (m b : Nat) (υ : ab_H) (B' : B3), b + m = 201 → 2 ≤ b → SB σ υ t i tt B' → (card < b → B'.2.1 ≤ sum + card + r) → fb (fun b B => enF so card (r + 1) (i + 1) (prod * b) (sum + b - 1) (ab_up tt i b) B) m b B' = enF so card (r + 2) i prod sum tt B → At 6 [some (rf 57), some (.inl card), some (.inl so), some (.inl i), some (.inl prod), some (.inl sum), some (.inl b)] [] υ 0 0 := by
      intro m
      induction m with
      | zero =>
        intro b υ B' hb h2 hS' hub he
        have hmo := m_more (σ := υ) 2 card (rR (by omega) (by omega)) (rR (by omega) (by omega))
        rw [if_pos (by omega)] at hmo
        refine hA 6 _ rfl _ _ _ _ _ ?_
        refine And.intro rfl (ab_inv_ev hmo (by first | decide | omega) (by first | exact Nat.le_refl _ | omega) (by first | exact Nat.le_refl _ | omega) ?_)
        refine And.intro (And.intro (by first | assumption | exact b2i_R _ | exact rR (by omega) (by omega) | exact rR (by simp only [Int.toNat_natCast]; omega) (by simp only [Int.toNat_natCast]; omega)) (by first | assumption | exact b2i_R _ | exact rR (by omega) (by omega) | exact rR (by simp only [Int.toNat_natCast]; omega) (by simp only [Int.toNat_natCast]; omega))) (And.intro (fun q => ?_) (fun q => ?_))
        · refine hA 8 _ rfl _ _ _ _ _ ?_
          refine ⟨rfl, ?_⟩
          rw [← he]
          exact hS'
        · omega
      | succ m ih =>
        intro b υ B' hb h2 hS' hub he
        have hmo := m_more (σ := υ) 2 card (rR (by omega) (by omega)) (rR (by omega) (by omega))
        rw [if_pos (by omega)] at hmo
        obtain ⟨hf', ⟨u', u57, ut, u33, u34⟩, ⟨g, u317, hg⟩, ⟨g8, u318, hg8⟩, uB⟩ := id hS'
        by_cases hcb : card < b
        · have hub := hub hcb
          refine hA 6 _ rfl _ _ _ _ _ ?_
          refine And.intro rfl (ab_inv_ev hmo (by first | decide | omega) (by first | exact Nat.le_refl _ | omega) (by first | exact Nat.le_refl _ | omega) ?_)
          refine And.intro (And.intro (by first | assumption | exact b2i_R _ | exact rR (by omega) (by omega) | exact rR (by simp only [Int.toNat_natCast]; omega) (by simp only [Int.toNat_natCast]; omega)) (by first | assumption | exact b2i_R _ | exact rR (by omega) (by omega) | exact rR (by simp only [Int.toNat_natCast]; omega) (by simp only [Int.toNat_natCast]; omega))) (And.intro (fun q => ?_) (fun q => ?_))
          · refine hA 8 _ rfl _ _ _ _ _ ?_
            refine ⟨rfl, ?_⟩
            rw [← he]
            rw [fb_id (m + 1) b (fun j h1 h2 => enF_id (r + 1) _ _ _ _ _ (by omega))]
            exact hS'
          · omega
        · have hS2 : SB σ (ab_st υ 317 (iar 4 (ab_up g i b))) t (i + 1) (ab_up tt i b) B' := ⟨hf'.st (by omega), ⟨u', st_e (by omega) u57, ut, u33, u34⟩, ⟨_, st_s, fun j hj => by
            by_cases e : j = i
            · rw [e, ab_up_s, ab_up_s]
            · rw [ab_up_n e, ab_up_n e]; exact hg j (by omega)⟩, ⟨g8, st_e (by omega) u318, hg8⟩, uB⟩
          have hpb : prod * b ≤ 200 ^ (i + 1) := by
            rw [Nat.pow_succ]
            exact Nat.mul_le_mul hp (by omega)
          have hp1b : 1 ≤ prod * b := Nat.mul_pos (by omega) (by omega)
          have hr := ihr (i + 1) (by omega) (ab_st υ 317 (iar 4 (ab_up g i b))) (prod * b) (sum + b - 1) (ab_up tt i b) B' hp1b hpb (by omega) hS2
          rw [Int.natCast_mul, show ((sum + b - 1 : Nat) : Int) = (sum : Int) + (b : Int) - 1 by omega, Int.natCast_add i 1] at hr
          have q57 : (ab_st υ 317 (iar 4 (ab_up g i b))).2 57 = some (m10 u') := st_e (by omega) u57
          refine hA 6 _ rfl _ _ _ _ _ ?_
          refine And.intro rfl (ab_inv_ev hmo (by first | decide | omega) (by first | exact Nat.le_refl _ | omega) (by first | exact Nat.le_refl _ | omega) ?_)
          refine And.intro (And.intro (by first | assumption | exact b2i_R _ | exact rR (by omega) (by omega) | exact rR (by simp only [Int.toNat_natCast]; omega) (by simp only [Int.toNat_natCast]; omega)) (by first | assumption | exact b2i_R _ | exact rR (by omega) (by omega) | exact rR (by simp only [Int.toNat_natCast]; omega) (by simp only [Int.toNat_natCast]; omega))) (And.intro (fun q => ?_) (fun q => ?_))
          · omega
          · refine hA 7 _ rfl _ _ _ _ _ ?_
            refine Exists.intro _ (And.intro (u57) ?_)
            refine Exists.intro _ (Exists.intro _ (And.intro (u317) (And.intro (by omega) ?_)))
            refine Exists.intro _ (And.intro q57 (And.intro rfl (ab_inv_of hr (by first | decide | omega) (by omega) (by omega) ?_)))
            intro z υ2 hpost
            obtain ⟨rfl, hS3⟩ := hpost
            have ihb := ih (b + 1) υ2 _ (by omega) (by omega) (hS3.lo (by omega) (fun x hx => ab_up_n (by omega))) (fun hlt => by
              have hbc : b = card := by omega
              have := enF_ub (k := so) (card := card) (r + 1) (i + 1) (prod * b) (sum + b - 1) (ab_up tt i b) B' (by
                rw [hbc]
                exact Nat.le_mul_of_pos_left card hp1)
              omega) he
            
            exact ihb
    have k3 : At 3 [some (rf 57), some (.inl card), some (.inl so), some (.inl i), some (.inl prod), some (.inl sum), none] [] τ 0 0 := by
      refine hA 3 _ rfl _ _ _ _ _ ?_
      refine And.intro (And.intro (by first | assumption | exact b2i_R _ | exact rR (by omega) (by omega) | exact rR (by simp only [Int.toNat_natCast]; omega) (by simp only [Int.toNat_natCast]; omega)) (by first | assumption | exact b2i_R _ | exact rR (by omega) (by omega) | exact rR (by simp only [Int.toNat_natCast]; omega) (by simp only [Int.toNat_natCast]; omega))) (And.intro (fun q => ?_) (fun q => ?_))
      · refine hA 5 _ rfl _ _ _ _ _ ?_
        exact loop 199 2 τ B rfl (by omega) hS (fun h => by omega) rfl
      · omega
    refine hA 0 _ rfl _ _ _ _ _ ?_
    refine Exists.intro _ (And.intro (h57) ?_)
    refine And.intro (show ab_R (t' 33) from rR (by omega) (by omega)) (And.intro (fun q => ?_) (fun q => ?_))
    · exact k3
    · have q : 0 < t' 33 := q
      have h34 := h34 (by omega)
      refine hA 1 _ rfl _ _ _ _ _ ?_
      refine Exists.intro _ (And.intro (h57) ?_)
      refine And.intro (And.intro (rR (by omega) (by omega)) (show ab_R (t' 34) from rR (by omega) (by omega))) (And.intro (fun q => ?_) (fun q => ?_))
      · exact k3
      · have q : t' 34 ≤ (sum : Int) + (so : Int) - (i : Int) := q
        refine hA 2 _ rfl _ _ _ _ _ ?_
        refine ⟨rfl, ?_⟩
        rw [enF_id (r + 1 + 1) i prod sum tt B (by omega)]
        exact hS
end Msea
