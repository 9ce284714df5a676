-- ===== bitmaps: a mask of 15 rows for each group =====
/-- row r is in it -/
def bit (g : Nat → Nat) (r : Nat) : Bool := (g (r / 15)).testBit (r % 15)
/-- how many below n -/
def cnt (p : Nat → Bool) : Nat → Nat
  | 0 => 0
  | n + 1 => cnt p n + (p n).toNat
/-- the first from i on, n looked at -/
def sr (p : Nat → Bool) : Nat → Nat → Int
  | _, 0 => -1
  | i, n + 1 => if p i then i else sr p (i + 1) n
/-- the last below n -/
def sl (p : Nat → Bool) : Nat → Int
  | 0 => -1
  | n + 1 => if p n then n else sl p n
abbrev bmc (g : Nat → Nat) : ab_C := .inr (.inl (0, 100, fun i => ((g i : Nat) : Int)))
def IsB (σ : ab_H) (h : Nat) (g : Nat → Nat) : Prop := σ.2 h = some (.inl (2, [.inr (.inl (some (h + 1)))])) ∧ σ.2 (h + 1) = some (bmc g) ∧ ∀ i, g i < 32768
abbrev rf (a : Nat) : ab_V := .inr (.inl (some a))
theorem IsB.R {σ : ab_H} {h : Nat} {g : Nat → Nat} (hB : IsB σ h g) (i : Nat) : ab_R (g i : Int) := by
  have := hB.2.2 i
  exact rR (by omega) (by omega)
theorem pop_cnt (g : Nat → Nat) (i : Nat) : ∀ k, k ≤ 15 → cnt (bit g) (15 * i + k) = cnt (bit g) (15 * i) + pop (g i) k := by
  intro k
  induction k with
  | zero => intro _; rfl
  | succ k ih =>
    intro hk
    show cnt (bit g) (15 * i + k) + (bit g (15 * i + k)).toNat = _ + (pop (g i) k + ((g i).testBit k).toNat)
    rw [ih (by omega)]
    unfold bit
    rw [show (15 * i + k) / 15 = i by omega, show (15 * i + k) % 15 = k by omega]
    omega
theorem cnt_g (g : Nat → Nat) (i : Nat) : cnt (bit g) (15 * (i + 1)) = cnt (bit g) (15 * i) + pop (g i) 15 := by
  have := pop_cnt g i 15 (by omega)
  rw [show 15 * (i + 1) = 15 * i + 15 by omega]
  exact this
theorem cnt_le (p : Nat → Bool) : ∀ n, cnt p n ≤ n := by
  intro n
  induction n with
  | zero => exact Nat.le_refl _
  | succ n ih => show cnt p n + (p n).toNat ≤ n + 1; have := Bool.toNat_le (p n); omega
/-- the rows that there are in group i -/
def rg (i rows : Nat) : Nat := 2 ^ (min 15 (rows - 15 * i)) - 1
theorem rg_lt (i rows : Nat) : rg i rows < 32768 := by
  unfold rg
  have : 2 ^ (min 15 (rows - 15 * i)) ≤ 2 ^ 15 := Nat.pow_le_pow_right (by omega) (by omega)
  omega
theorem rg_bit (i rows k : Nat) : (rg i rows).testBit k = decide (k < 15 ∧ 15 * i + k < rows) := by
  unfold rg
  rw [Nat.testBit_two_pow_sub_one]
  congr 1
  apply propext
  omega
set_option maxRecDepth 100000 in
set_option maxHeartbeats 1000000 in
theorem c_rowsOfGroup (σ : ab_H) (i rows : Nat) (hi : i < 100) (hr : rows ≤ 1500) : ab_ev 1 yX2_rowsOfGroup [.inl i, .inl rows] σ (some (.inl (rg i rows))) σ := by
  refine eX2_rowsOfGroup rfl (fun At hA => ?_)
  refine hA 0 _ rfl _ _ _ _ _ ?_
  have e1 : max 0 (min 15 ((rows : Int) - (i : Int) * 15)) = ((min 15 (rows - 15 * i) : Nat) : Int) := by omega
  refine And.intro ⟨rR (by omega) (by omega), rR (by omega) (by omega), by decide⟩ (And.intro rfl ?_)
  refine And.intro ⟨rR (by omega) (by omega), rR (by omega) (by omega), by decide⟩ (And.intro rfl ?_)
  refine And.intro ?_ rfl
  have e2 : ab_shl 1 (max 0 (min 15 ((rows : Int) - (i : Int) * 15))) - 1 = ((rg i rows : Nat) : Int) := by
    rw [e1]
    have hp : 2 ^ (min 15 (rows - 15 * i)) ≤ 2 ^ 15 := Nat.pow_le_pow_right (by omega) (by omega)
    have hp0 : 0 < 2 ^ (min 15 (rows - 15 * i)) := Nat.pow_pos (by omega)
    have e3 := nb_shl (a := 1) (k := min 15 (rows - 15 * i)) (by omega) (by omega)
    rw [show ab_shl 1 ((min 15 (rows - 15 * i) : Nat) : Int) = _ from e3]
    unfold rg
    omega
  rw [← e2]
def lit (z : Nat) : Bool := z != 0 && z != 32767
/-- a word starts at group i -/
def sw (g : Nat → Nat) (i : Nat) : Bool := i == 0 || g i != g (i - 1) || lit (g i)
/-- the mask ahead of group i -/
def bf (g : Nat → Nat) (i : Nat) : Int := if i = 0 then -1 else ((g (i - 1) : Nat) : Int)
theorem bf_s (g : Nat → Nat) (i : Nat) : bf g (i + 1) = ((g i : Nat) : Int) := by unfold bf; rw [if_neg (by omega)]; rfl
theorem bf_R {g : Nat → Nat} (hg : ∀ i, g i < 32768) (i : Nat) : ab_R (bf g i) := by
  unfold bf
  split
  · exact rR (by omega) (by omega)
  · have := hg (i - 1)
    exact rR (by omega) (by omega)
set_option maxRecDepth 100000 in
set_option maxHeartbeats 1000000 in
theorem c_startsWord0 (σ : ab_H) (a b : Int) (ha : ab_R a) (hb : ab_R b) : ab_ev 1 yX2_startsWord [.inl a, .inl b] σ (some (.inl (b2i (decide (a ≠ b) || (decide (a ≠ 0) && decide (a ≠ 32767)))))) σ := by
  refine eX2_startsWord rfl (fun At hA => ?_)
  generalize hv : (decide (a ≠ b) || (decide (a ≠ 0) && decide (a ≠ 32767))) = v
  have k5 : ∀ z : Int, z = b2i v → At 5 [some (.inl a), some (.inl b)] [.inl z] σ 0 0 := fun z hz => by
    refine hA 5 _ rfl _ _ _ _ _ ?_
    refine And.intro ?_ ?_
    · rw [hz]; exact b2i_01 v
    · exact ⟨by rw [hz, hv], rfl⟩
  have k3 : v = true → At 3 [some (.inl a), some (.inl b)] [] σ 0 0 := fun h => by
    refine hA 3 _ rfl _ _ _ _ _ ?_
    exact k5 _ (by rw [h]; rfl)
  have k4 : v = false → At 4 [some (.inl a), some (.inl b)] [] σ 0 0 := fun h => by
    refine hA 4 _ rfl _ _ _ _ _ ?_
    exact k5 _ (by rw [h]; rfl)
  refine hA 0 _ rfl _ _ _ _ _ ?_
  refine And.intro (And.intro (by assumption) (by assumption)) (And.intro (fun q => ?_) (fun q => ?_))
  · exact k3 (by rw [← hv]; simp [q])
  · refine hA 1 _ rfl _ _ _ _ _ ?_
    refine And.intro ha (And.intro (fun q2 => ?_) (fun q2 => ?_))
    · exact k4 (by rw [← hv]; subst q; simp [q2])
    · refine hA 2 _ rfl _ _ _ _ _ ?_
      refine And.intro (And.intro ha (rR (by omega) (by omega))) (And.intro (fun q3 => ?_) (fun q3 => ?_))
      · exact k4 (by rw [← hv]; subst q; simp [q3])
      · exact k3 (by rw [← hv]; simp [q2, q3])
theorem sw_eq {g : Nat → Nat} (i : Nat) : (decide ((g i : Int) ≠ bf g i) || (decide ((g i : Int) ≠ 0) && decide ((g i : Int) ≠ 32767))) = sw g i := by
  unfold sw bf lit
  by_cases h : i = 0
  · subst h
    simp
  · rw [if_neg h]
    have e1 : decide ((g i : Int) ≠ ((g (i - 1) : Nat) : Int)) = (g i != g (i - 1)) := by
      rw [bne, Bool.eq_iff_iff]
      simp
      omega
    have e2 : decide ((g i : Int) ≠ 0) = (g i != 0) := by
      rw [bne, Bool.eq_iff_iff]
      simp
    have e3 : decide ((g i : Int) ≠ 32767) = (g i != 32767) := by
      rw [bne, Bool.eq_iff_iff]
      simp
      omega
    have h9 : (i == 0) = false := by simp [h]
    rw [e1, e2, e3, h9, Bool.false_or]
theorem c_startsWord (σ : ab_H) {g : Nat → Nat} (hg : ∀ i, g i < 32768) (i : Nat) : ab_ev 1 yX2_startsWord [.inl (g i), .inl (bf g i)] σ (some (.inl (b2i (sw g i)))) σ := by
  rw [← sw_eq i]
  have := hg i
  exact c_startsWord0 σ _ _ (rR (by omega) (by omega)) (bf_R hg i)
set_option maxRecDepth 100000 in
set_option maxHeartbeats 1000000 in
theorem c_wordCount {σ : ab_H} {h : Nat} {g : Nat → Nat} (hB : IsB σ h g) (u : Nat) (hu : u ≤ 100) : ab_ev 2 yX2_wordCount [rf h, .inl u] σ (some (.inl (cnt (sw g) u))) σ := by
  obtain ⟨h1, h2, hg⟩ := id hB
  have hR := hB.R
  refine eX2_wordCount rfl (fun At hA => ?_)
  have loop : ∀ n i : Nat, i + n = u → At 1 [some (rf h), some (.inl u), some (.inl (cnt (sw g) i)), some (.inl (bf g i)), some (.inl i)] [] σ 0 0 := by
    intro n
    induction n with
    | zero =>
      intro i hi
      refine hA 1 _ rfl _ _ _ _ _ ?_
      refine And.intro (And.intro (by first | assumption | exact b2i_R _ | exact rR (by omega) (by omega)) (by first | assumption | exact b2i_R _ | exact rR (by omega) (by omega))) (And.intro (fun q => ?_) (fun q => ?_))
      · refine hA 5 _ rfl _ _ _ _ _ ?_
        exact ⟨by rw [show i = u by omega], rfl⟩
      · omega
    | succ n ih =>
      intro i hi
      refine hA 1 _ rfl _ _ _ _ _ ?_
      refine And.intro (And.intro (by first | assumption | exact b2i_R _ | exact rR (by omega) (by omega)) (by first | assumption | exact b2i_R _ | exact rR (by omega) (by omega))) (And.intro (fun q => ?_) (fun q => ?_))
      · omega
      · refine hA 2 _ rfl _ _ _ _ _ ?_
        refine Exists.intro _ (And.intro h1 ?_)
        refine Exists.intro _ (Exists.intro _ (And.intro h2 (And.intro (by omega) ?_)))
        refine And.intro rfl (ab_inv_ev (c_startsWord σ hg i) (by decide) (Nat.le_refl _) (Nat.le_refl _) ?_)
        have k4 : ∀ w : Int, w = cnt (sw g) (i + 1) → At 4 [some (rf h), some (.inl u), some (.inl w), some (.inl (bf g i)), some (.inl i)] [] σ 0 0 := fun w hw => by
          refine hA 4 _ rfl _ _ _ _ _ ?_
          refine Exists.intro _ (And.intro h1 ?_)
          refine Exists.intro _ (Exists.intro _ (And.intro h2 (And.intro (by omega) ?_)))
          have := ih (i + 1) (by omega)
          rw [bf_s, ← hw] at this
          exact this
        refine And.intro (by first | assumption | exact b2i_R _ | exact rR (by omega) (by omega)) (And.intro (fun q => ?_) (fun q => ?_))
        · exact k4 _ (by show _ = ((cnt (sw g) i + (sw g i).toNat : Nat) : Int); rw [b2i_0 q]; simp)
        · refine hA 3 _ rfl _ _ _ _ _ ?_
          exact k4 _ (by show _ = ((cnt (sw g) i + (sw g i).toNat : Nat) : Int); rw [b2i_1 q]; simp)
  refine hA 0 _ rfl _ _ _ _ _ ?_
  exact loop u 0 (by omega)
set_option maxRecDepth 100000 in
set_option maxHeartbeats 1000000 in
theorem c_count {σ : ab_H} {h : Nat} {g : Nat → Nat} (hB : IsB σ h g) : ab_ev 2 yX2_count [rf h] σ (some (.inl (cnt (bit g) 1500))) σ := by
  obtain ⟨h1, h2, hg⟩ := id hB
  refine eX2_count rfl (fun At hA => ?_)
  have loop : ∀ n i : Nat, i + n = 100 → At 1 [some (rf h), some (.inl (cnt (bit g) (15 * i))), some (.inl i)] [] σ 0 0 := by
    intro n
    induction n with
    | zero =>
      intro i hi
      refine hA 1 _ rfl _ _ _ _ _ ?_
      refine And.intro (And.intro (by first | assumption | exact b2i_R _ | exact rR (by omega) (by omega)) (by first | assumption | exact b2i_R _ | exact rR (by omega) (by omega))) (And.intro (fun q => ?_) (fun q => ?_))
      · refine hA 3 _ rfl _ _ _ _ _ ?_
        exact ⟨by rw [show i = 100 by omega], rfl⟩
      · omega
    | succ n ih =>
      intro i hi
      refine hA 1 _ rfl _ _ _ _ _ ?_
      refine And.intro (And.intro (by first | assumption | exact b2i_R _ | exact rR (by omega) (by omega)) (by first | assumption | exact b2i_R _ | exact rR (by omega) (by omega))) (And.intro (fun q => ?_) (fun q => ?_))
      · omega
      · refine hA 2 _ rfl _ _ _ _ _ ?_
        refine Exists.intro _ (And.intro h1 ?_)
        refine Exists.intro _ (Exists.intro _ (And.intro h2 (And.intro (by omega) ?_)))
        refine And.intro rfl (ab_inv_ev (c_bitCount σ (g i) (hg i)) (by decide) (Nat.le_refl _) (Nat.le_refl _) ?_)
        have := ih (i + 1) (by omega)
        rw [cnt_g, Int.natCast_add] at this
        exact this
  refine hA 0 _ rfl _ _ _ _ _ ?_
  exact loop 100 0 (by omega)
set_option maxRecDepth 100000 in
set_option maxHeartbeats 1000000 in
theorem c_literalCount {σ : ab_H} {h : Nat} {g : Nat → Nat} (hB : IsB σ h g) (u : Nat) (hu : u ≤ 100) : ab_ev 1 yX2_literalCount [rf h, .inl u] σ (some (.inl (cnt (fun i => lit (g i)) u))) σ := by
  obtain ⟨h1, h2, hg⟩ := id hB
  have hR := hB.R
  refine eX2_literalCount rfl (fun At hA => ?_)
  have loop : ∀ n i : Nat, i + n = u → At 1 [some (rf h), some (.inl u), some (.inl (cnt (fun i => lit (g i)) i)), some (.inl i)] [] σ 0 0 := by
    intro n
    induction n with
    | zero =>
      intro i hi
      refine hA 1 _ rfl _ _ _ _ _ ?_
      refine And.intro (And.intro (by first | assumption | exact b2i_R _ | exact rR (by omega) (by omega)) (by first | assumption | exact b2i_R _ | exact rR (by omega) (by omega))) (And.intro (fun q => ?_) (fun q => ?_))
      · refine hA 6 _ rfl _ _ _ _ _ ?_
        exact ⟨by rw [show i = u by omega], rfl⟩
      · omega
    | succ n ih =>
      intro i hi
      have k5 : ∀ w : Int, w = cnt (fun i => lit (g i)) (i + 1) → At 5 [some (rf h), some (.inl u), some (.inl w), some (.inl i)] [] σ 0 0 := fun w hw => by
        refine hA 5 _ rfl _ _ _ _ _ ?_
        have := ih (i + 1) (by omega)
        rw [← hw] at this
        exact this
      have hs : ((cnt (fun i => lit (g i)) (i + 1) : Nat) : Int) = cnt (fun i => lit (g i)) i + ((lit (g i)).toNat : Int) := by
        show ((cnt (fun i => lit (g i)) i + (lit (g i)).toNat : Nat) : Int) = _
        omega
      refine hA 1 _ rfl _ _ _ _ _ ?_
      refine And.intro (And.intro (by first | assumption | exact b2i_R _ | exact rR (by omega) (by omega)) (by first | assumption | exact b2i_R _ | exact rR (by omega) (by omega))) (And.intro (fun q => ?_) (fun q => ?_))
      · omega
      · refine hA 2 _ rfl _ _ _ _ _ ?_
        refine Exists.intro _ (And.intro h1 ?_)
        refine Exists.intro _ (Exists.intro _ (And.intro h2 (And.intro (by omega) ?_)))
        refine And.intro (hR i) (And.intro (fun q1 => ?_) (fun q1 => ?_))
        · have q1 : g i = 0 := by have q1 : ((g i : Nat) : Int) = 0 := q1; omega
          exact k5 _ (by rw [hs]; unfold lit; rw [q1]; simp)
        · have q1 : g i ≠ 0 := by have q1 : ((g i : Nat) : Int) ≠ 0 := q1; omega
          refine hA 3 _ rfl _ _ _ _ _ ?_
          refine Exists.intro _ (And.intro h1 ?_)
          refine Exists.intro _ (Exists.intro _ (And.intro h2 (And.intro (by omega) ?_)))
          refine And.intro (And.intro (hR i) (rR (by omega) (by omega))) (And.intro (fun q2 => ?_) (fun q2 => ?_))
          · have q2 : g i = 32767 := by have q2 : ((g i : Nat) : Int) = 32767 := q2; omega
            exact k5 _ (by rw [hs]; unfold lit; rw [q2]; simp)
          · have q2 : g i ≠ 32767 := by have q2 : ((g i : Nat) : Int) ≠ 32767 := q2; omega
            refine hA 4 _ rfl _ _ _ _ _ ?_
            exact k5 _ (by rw [hs]; unfold lit; rw [show (g i != 0) = true from bne_iff_ne.mpr q1, show (g i != 32767) = true from bne_iff_ne.mpr q2]; rfl)
  refine hA 0 _ rfl _ _ _ _ _ ?_
  exact loop u 0 (by omega)
