-- ===== the model: lemmas of its calls that ask =====
theorem of_decide_eq_false_ne {p : Prop} (h : ¬ p) {i : Decidable p} : ¬ (@decide p i = true) := fun q => h (of_decide_eq_true q)
theorem hi0_jn {rows k : Nat} {v w : V1} (h1 : hi0 rows v) (h2 : hi0 rows w) : hi0 rows (jn k v w) := ⟨fun i => jo_lt (h1.1 i) (h2.1 i), fun x hx => jn_hi (h1.2 x hx) (h2.2 x hx)⟩
theorem hi0_tn {rows : Nat} (v : V1) : hi0 rows (tn rows v) := ⟨fun i => tn_lt rows v i, fun _ hx => tn_hi hx⟩
theorem sr_bd (p : Nat → Bool) : ∀ n i : Nat, -1 ≤ sr p i n ∧ sr p i n < (i + n : Nat) ∧ (sr p i n = -1 ∨ (i : Int) ≤ sr p i n) := by
  intro n
  induction n with
  | zero => intro i; exact ⟨Int.le_refl _, by show (-1 : Int) < _; omega, Or.inl rfl⟩
  | succ n ih =>
    intro i
    have := ih (i + 1)
    show -1 ≤ (if p i then (i : Int) else sr p (i + 1) n) ∧ (if p i then (i : Int) else sr p (i + 1) n) < _ ∧ ((if p i then (i : Int) else sr p (i + 1) n) = -1 ∨ (i : Int) ≤ (if p i then (i : Int) else sr p (i + 1) n))
    split <;> omega
theorem sr_sp (p : Nat → Bool) : ∀ n i : Nat, (sr p i n = -1 ∧ ∀ s, i ≤ s → s < i + n → p s = false) ∨ ∃ r : Nat, sr p i n = (r : Int) ∧ i ≤ r ∧ r < i + n ∧ p r = true ∧ ∀ s, i ≤ s → s < r → p s = false := by
  intro n
  induction n with
  | zero => intro i; exact Or.inl ⟨rfl, fun s h1 h2 => by omega⟩
  | succ n ih =>
    intro i
    have e : sr p i (n + 1) = if p i then (i : Int) else sr p (i + 1) n := rfl
    cases hp : p i with
    | true => exact Or.inr ⟨i, by rw [e, if_pos hp], Nat.le_refl _, by omega, hp, fun s h1 h2 => by omega⟩
    | false =>
      rw [e, if_neg (by rw [hp]; exact Bool.false_ne_true)]
      have hs : ∀ s, i ≤ s → (s = i ∨ i + 1 ≤ s) := fun s h => by omega
      rcases ih (i + 1) with ⟨h1, h2⟩ | ⟨r, h1, h2, h3, h4, h5⟩
      · refine Or.inl ⟨h1, fun s k1 k2 => ?_⟩
        rcases hs s k1 with rfl | h
        · exact hp
        · exact h2 s h (by omega)
      · refine Or.inr ⟨r, h1, by omega, by omega, h4, fun s k1 k2 => ?_⟩
        rcases hs s k1 with rfl | h
        · exact hp
        · exact h5 s h k2
theorem sel_0 {g : Nat → Nat} {rows : Nat} (h : hi0 rows g) (hr : rows ≤ 1500) : sel g 0 = sr (bit g) 0 (rows - 0) := by
  rcases sr_sp (bit g) (rows - 0) 0 with ⟨h1, h2⟩ | ⟨r, h1, h2, h3, h4, h5⟩
  · rw [h1]
    refine sr_no 1500 0 (fun s _ _ => ?_)
    by_cases hs : s < rows
    · rw [h2 s (by omega) (by omega)]; rfl
    · rw [h.2 s (by omega)]; rfl
  · rw [h1]
    refine sr_eq 1500 0 r (by omega) (by omega) ?_ (fun s _ k2 => by rw [h5 s (by omega) k2] <;> rfl)
    have := cnt_sk (p := bit g) (i := 0) r (fun j _ k2 => h5 j (by omega) (by omega))
    rw [Nat.zero_add] at this
    rw [h4, this]
    rfl
theorem sel_sp (g : Nat → Nat) (i : Nat) : (sel g i = -1 ∧ ∀ s, s < 1500 → ¬ (bit g s = true ∧ cnt (bit g) s = i)) ∨ ∃ r : Nat, sel g i = (r : Int) ∧ r < 1500 ∧ bit g r = true ∧ cnt (bit g) r = i := by
  rcases sr_sp (fun r => bit g r && decide (cnt (bit g) r = i)) 1500 0 with ⟨h1, h2⟩ | ⟨r, h1, h2, h3, h4, h5⟩
  · refine Or.inl ⟨h1, fun s hs hq => ?_⟩
    have := h2 s (Nat.zero_le _) (by omega)
    rw [hq.1, decide_eq_true hq.2] at this
    cases this
  · rw [Bool.and_eq_true, decide_eq_true_iff] at h4
    exact Or.inr ⟨r, h1, by omega, h4.1, h4.2⟩
theorem sel_up {g : Nat → Nat} {i : Nat} (h : sel g i = -1) : sel g (i + 1) = -1 := by
  rcases sel_sp g i with ⟨-, h2⟩ | ⟨r, h1, -⟩
  · rcases sel_sp g (i + 1) with ⟨k1, -⟩ | ⟨r, -, k2, k3, k4⟩
    · exact k1
    · obtain ⟨s, s1, s2, s3⟩ := cnt_nth (p := bit g) r i (by omega)
      exact absurd ⟨s2, s3⟩ (h2 s (by omega))
  · omega
theorem sel_st {g : Nat → Nat} {i : Nat} (h : sel g i = -1) (j : Nat) (hj : i ≤ j) : sel g j = -1 := by
  obtain ⟨d, rfl⟩ : ∃ d, j = i + d := ⟨j - i, by omega⟩
  induction d with
  | zero => exact h
  | succ d ih => exact sel_up (ih (by omega))
theorem sel_nx {g : Nat → Nat} {rows i z : Nat} (h : hi0 rows g) (hr : rows ≤ 1500) (hz : sel g i = (z : Int)) : sel g (i + 1) = sr (bit g) (z + 1) (rows - (z + 1)) := by
  rcases sel_sp g i with ⟨h1, -⟩ | ⟨r, h1, h2, h3, h4⟩
  · omega
  · have hrz : r = z := by omega
    subst hrz
    have ec : cnt (bit g) (r + 1) = i + 1 := by rw [cnt_s1 h3, h4]
    have hlt : r < rows := by
      rcases Nat.lt_or_ge r rows with k | k
      · exact k
      · rw [h.2 r k] at h3; cases h3
    rcases sr_sp (bit g) (rows - (r + 1)) (r + 1) with ⟨k1, k2⟩ | ⟨s, k1, k2, k3, k4, k5⟩
    · rw [k1]
      rcases sel_sp g (i + 1) with ⟨l1, -⟩ | ⟨s, l1, l2, l3, l4⟩
      · exact l1
      · have : r < s := by
          rcases Nat.lt_or_ge r s with q | q
          · exact q
          · have := cnt_mono (bit g) q
            omega
        have hs : s < rows := by
          rcases Nat.lt_or_ge s rows with k | k
          · exact k
          · rw [h.2 s k] at l3; cases l3
        rw [k2 s (by omega) (by omega)] at l3
        cases l3
    · rw [k1]
      have e2 := cnt_sk (p := bit g) (i := r + 1) (s - (r + 1)) (fun j q1 q2 => k5 j q1 (by omega))
      rw [show r + 1 + (s - (r + 1)) = s by omega, ec] at e2
      refine sr_eq 1500 0 s (by omega) (by omega) (by rw [k4, decide_eq_true e2] <;> rfl) (fun x _ q2 => ?_)
      cases hb : bit g x with
      | false => rfl
      | true =>
        have : cnt (bit g) (x + 1) ≤ cnt (bit g) s := cnt_mono (bit g) q2
        rw [cnt_s1 hb] at this
        rw [decide_eq_false (by omega)]
        rfl
/-- the greatest stretch that is no literal -/
def mws (g : Nat → Nat) (u : Nat) : Nat → Nat
  | 0 => 0
  | i + 1 => if lit (g i) then mws g u i else max (mws g u i) (strN g u i)
theorem mws_le (g : Nat → Nat) (u : Nat) : ∀ i, i ≤ u → mws g u i ≤ u := by
  intro i
  induction i with
  | zero => intro _; exact Nat.zero_le _
  | succ i ih =>
    intro h
    have := ih (by omega)
    have h2 := strN_pos (g := g) (u := u) (i := i) (by omega)
    unfold mws
    split <;> omega
theorem flr_wst {g : Nat → Nat} : ∀ n, lit (g n) = false → flr g (n + 1) + wst g n = n + 1 := by
  intro n
  induction n with
  | zero =>
    intro h
    show (if lit (g 0) then 0 else if sw g 0 then 1 else flr g 0 + 1) + 0 = 1
    rw [h, if_neg Bool.false_ne_true, if_pos (show sw g 0 = true from rfl)]
  | succ n ih =>
    intro h
    have e : flr g (n + 2) = if lit (g (n + 1)) then 0 else if sw g (n + 1) then 1 else flr g (n + 1) + 1 := rfl
    rw [e, h, if_neg Bool.false_ne_true]
    cases hs : sw g (n + 1) with
    | true => rw [if_pos rfl, wst_sw hs]; omega
    | false =>
      rw [if_neg Bool.false_ne_true]
      have e2 : wst g (n + 1) = if sw g (n + 1) then n + 1 else wst g n := rfl
      rw [e2, hs, if_neg Bool.false_ne_true]
      have hg : g (n + 1) = g n := by
        unfold sw at hs
        rw [Bool.or_eq_false_iff, Bool.or_eq_false_iff, Nat.add_sub_cancel] at hs
        have := hs.1.2
        exact Decidable.of_not_not (fun q => by rw [bne_iff_ne.mpr q] at this; cases this)
      have := ih (by rw [← hg]; exact h)
      omega
theorem wdf_fl (g : Nat → Nat) : ∀ u n, n < u → flr g (n + 1) ≤ wdf g u := by
  intro u
  induction u with
  | zero => intro n h; omega
  | succ u ih =>
    intro n h
    have e : wdf g (u + 1) = max (wdf g u) (flr g (u + 1)) := rfl
    rw [e]
    rcases (show n < u ∨ n = u by omega) with h | rfl
    · have := ih n h; omega
    · omega
theorem mws_st (g : Nat → Nat) (u : Nat) : ∀ i n, n < i → lit (g n) = false → strN g u n ≤ mws g u i := by
  intro i
  induction i with
  | zero => intro n h; omega
  | succ i ih =>
    intro n h hl
    have e : mws g u (i + 1) = if lit (g i) then mws g u i else max (mws g u i) (strN g u i) := rfl
    rw [e]
    rcases (show n < i ∨ n = i by omega) with h | rfl
    · have := ih n h hl
      split <;> omega
    · rw [hl, if_neg Bool.false_ne_true]
      omega
theorem wst_s (g : Nat → Nat) : ∀ n, sw g (wst g n) = true := by
  intro n
  induction n with
  | zero => rfl
  | succ n ih =>
    have e2 : wst g (n + 1) = if sw g (n + 1) then n + 1 else wst g n := rfl
    rw [e2]
    split
    · assumption
    · exact ih
theorem wst_no (g : Nat → Nat) : ∀ n j, wst g n < j → j ≤ n → sw g j = false := by
  intro n
  induction n with
  | zero => intro j h1 h2; omega
  | succ n ih =>
    intro j h1 h2
    have e2 : wst g (n + 1) = if sw g (n + 1) then n + 1 else wst g n := rfl
    rw [e2] at h1
    cases hs : sw g (n + 1) with
    | true => rw [hs, if_pos rfl] at h1; omega
    | false =>
      rw [hs, if_neg Bool.false_ne_true] at h1
      rcases (show j ≤ n ∨ j = n + 1 by omega) with h | rfl
      · exact ih j h1 h
      · exact hs
theorem wst_of {g : Nat → Nat} {p n : Nat} (hp : sw g p = true) (h : p ≤ n) (hn : ∀ j, p < j → j ≤ n → sw g j = false) : wst g n = p := by
  rcases Nat.lt_trichotomy (wst g n) p with q | q | q
  · rw [wst_no g n p q h] at hp; cases hp
  · exact q
  · have := hn _ q (wst_le g n)
    rw [wst_s] at this; cases this
theorem wen_of {g : Nat → Nat} {u p n : Nat} (h : p ≤ n) (hn : n < wen g u p) (hu : p < u) : wen g u n = wen g u p := by
  have h2 := wen_sp g u p hu
  have h3 := wen_sp g u n (by omega)
  rcases Nat.lt_trichotomy (wen g u n) (wen g u p) with q | q | q
  · have := wen_no (g := g) (u := u) (i := p) (j := wen g u n) (by omega) q
    rw [wen_sw (by omega) (by omega)] at this
    cases this
  · exact q
  · have := wen_no (g := g) (u := u) (i := n) (j := wen g u p) (by omega) q
    rw [wen_sw hu (by omega)] at this
    cases this
theorem lit_st {g : Nat → Nat} {p n : Nat} (h : p ≤ n) (hn : ∀ j, p < j → j ≤ n → sw g j = false) (hl : lit (g n) = false) : lit (g p) = false := by
  obtain ⟨d, rfl⟩ : ∃ d, n = p + d := ⟨n - p, by omega⟩
  induction d with
  | zero => exact hl
  | succ d ih =>
    refine ih (by omega) (fun j k1 k2 => hn j k1 (by omega)) ?_
    have hs := hn (p + d + 1) (by omega) (by omega)
    unfold sw at hs
    rw [Bool.or_eq_false_iff, Bool.or_eq_false_iff, Nat.add_sub_cancel] at hs
    have := hs.1.2
    have hg : g (p + d + 1) = g (p + d) := Decidable.of_not_not (fun q => by rw [bne_iff_ne.mpr q] at this; cases this)
    rw [← hg]
    exact hl
theorem mws_wdf (g : Nat → Nat) (u : Nat) : mws g u u = wdf g u := by
  refine Nat.le_antisymm ?_ ?_
  · have : ∀ i, i ≤ u → mws g u i ≤ wdf g u := by
      intro i
      induction i with
      | zero => intro _; exact Nat.zero_le _
      | succ i ih =>
        intro hi
        have h1 := ih (by omega)
        have e : mws g u (i + 1) = if lit (g i) then mws g u i else max (mws g u i) (strN g u i) := rfl
        rw [e]
        cases hl : lit (g i) with
        | true => rw [if_pos rfl]; exact h1
        | false =>
          rw [if_neg Bool.false_ne_true]
          have h2 := strN_wen (g := g) (u := u) (i := i) (by omega)
          have h3 := wen_sp g u i (by omega)
          have hno : ∀ j, i < j → j ≤ wen g u i - 1 → sw g j = false := fun j k1 k2 => wen_no (u := u) k1 (by omega)
          have hw : wst g (wen g u i - 1) ≤ i := by
            rcases Nat.lt_or_ge i (wst g (wen g u i - 1)) with q | q
            · have := hno _ q (wst_le g _)
              rw [wst_s] at this; cases this
            · exact q
          have hll : lit (g (wen g u i - 1)) = false := by
            have : ∀ d, i + d ≤ wen g u i - 1 → lit (g (i + d)) = false := by
              intro d
              induction d with
              | zero => intro _; exact hl
              | succ d ihd =>
                intro hd
                have hs := hno (i + d + 1) (by omega) (by omega)
                unfold sw at hs
                rw [Bool.or_eq_false_iff] at hs
                exact hs.2
            have := this (wen g u i - 1 - i) (by omega)
            rw [show i + (wen g u i - 1 - i) = wen g u i - 1 by omega] at this
            exact this
          have h4 := flr_wst (wen g u i - 1) hll
          have h5 := wdf_fl g u (wen g u i - 1) (by omega)
          omega
    exact this u (Nat.le_refl _)
  · have : ∀ i, i ≤ u → wdf g i ≤ mws g u u := by
      intro i
      induction i with
      | zero => intro _; exact Nat.zero_le _
      | succ i ih =>
        intro hi
        have h1 := ih (by omega)
        have e : wdf g (i + 1) = max (wdf g i) (flr g (i + 1)) := rfl
        rw [e]
        cases hl : lit (g i) with
        | true =>
          have e2 : flr g (i + 1) = if lit (g i) then 0 else if sw g i then 1 else flr g i + 1 := rfl
          rw [e2, hl, if_pos rfl]
          omega
        | false =>
          have h4 := flr_wst i hl
          have hle := wst_le g i
          have hls := lit_st hle (fun j k1 k2 => wst_no g i j k1 k2) hl
          have h6 := mws_st g u u (wst g i) (by omega) hls
          have h7 := strN_wen (g := g) (u := u) (i := wst g i) (by omega)
          have h8 : i < wen g u (wst g i) := by
            rcases Nat.lt_or_ge i (wen g u (wst g i)) with q | q
            · exact q
            · have h9 := wen_sp g u (wst g i) (by omega)
              have := wst_no g i _ h9.1 q
              rw [wen_sw (by omega) (by omega)] at this
              cases this
          omega
    exact this u (Nat.le_refl _)
set_option maxRecDepth 100000 in
set_option maxHeartbeats 1000000 in
theorem m_many2 {σ : ab_H} {t : Nat → Int} {rows : Nat} (h57 : σ.2 57 = some (m10 t)) (h13 : t 13 = rows) (hr : rows ≤ 1500) {h : Nat} {g : Nat → Nat} (hh : σ.2 h = some (bmc g)) (hg : hi0 rows g) : ab_ev 2 yX10_many [rf 57, rf h] σ (some (.inl (cnt (bit g) 1500))) σ := by
  have := m_many h57 h13 hr hh hg.1
  rw [cnt_hi hg hr] at this
  exact this
