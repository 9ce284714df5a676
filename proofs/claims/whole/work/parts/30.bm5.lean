-- ===== bitmaps: the rest =====
/-- the stretch of ones that ends ahead of n -/
def run (p : Nat → Bool) : Nat → Nat
  | 0 => 0
  | n + 1 => if p n then run p n + 1 else 0
def lng (p : Nat → Bool) : Nat → Nat
  | 0 => 0
  | n + 1 => max (lng p n) (run p (n + 1))
def pv (p : Nat → Bool) : Nat → Bool
  | 0 => false
  | r + 1 => p r
def stc (p : Nat → Bool) (n : Nat) : Nat := cnt (fun r => p r && !pv p r) n
theorem run_le (p : Nat → Bool) : ∀ n, run p n ≤ n := by
  intro n
  induction n with
  | zero => exact Nat.le_refl _
  | succ n ih => unfold run; split <;> omega
theorem lng_le (p : Nat → Bool) : ∀ n, lng p n ≤ n := by
  intro n
  induction n with
  | zero => exact Nat.le_refl _
  | succ n ih => have := run_le p (n + 1); unfold lng; omega
/-- the fill that ends ahead of n -/
def flr (g : Nat → Nat) : Nat → Nat
  | 0 => 0
  | n + 1 => if lit (g n) then 0 else if sw g n then 1 else flr g n + 1
def wdf (g : Nat → Nat) : Nat → Nat
  | 0 => 0
  | n + 1 => max (wdf g n) (flr g (n + 1))
theorem flr_le (g : Nat → Nat) : ∀ n, flr g n ≤ n := by
  intro n
  induction n with
  | zero => exact Nat.le_refl _
  | succ n ih => unfold flr; split <;> (try split) <;> omega
theorem wdf_le (g : Nat → Nat) : ∀ n, wdf g n ≤ n := by
  intro n
  induction n with
  | zero => exact Nat.le_refl _
  | succ n ih => have := flr_le g (n + 1); unfold wdf; omega
/-- where the word that group k is in begins, and ends -/
def wst (g : Nat → Nat) : Nat → Nat
  | 0 => 0
  | k + 1 => if sw g (k + 1) then k + 1 else wst g k
def wen (g : Nat → Nat) (u k : Nat) : Nat := rn (fun i => !sw g i) (k + 1) (u - (k + 1))
def gw (g : Nat → Nat) (u k : Nat) : Nat := wen g u k - wst g k
def wrd (g : Nat → Nat) (u i : Nat) : Nat := if lit (g i) then g i else 32768 + (if g i = 32767 then 16384 else 0) + gw g u i
def wps (g : Nat → Nat) (u k : Nat) : Nat := rn (fun i => !(sw g i && cnt (sw g) i == k)) 0 u
theorem lit_f {z : Nat} (h : lit z = false) : z = 0 ∨ z = 32767 := by
  unfold lit at h
  rw [Bool.and_eq_false_iff] at h
  rcases h with h | h <;> simp at h <;> omega
theorem lit_t {z : Nat} (h : lit z = true) : z ≠ 0 ∧ z ≠ 32767 := by
  unfold lit at h
  rw [Bool.and_eq_true] at h
  exact ⟨bne_iff_ne.mp h.1, bne_iff_ne.mp h.2⟩
theorem lit_0 : lit 0 = false := by decide
theorem lit_1 : lit 32767 = false := by decide
theorem lit_y {z : Nat} (h : z ≠ 0) (h1 : z ≠ 32767) : lit z = true := by
  unfold lit
  rw [bne_iff_ne.mpr h, bne_iff_ne.mpr h1]
  rfl
theorem sw_lit {g : Nat → Nat} {i : Nat} (h : lit (g i) = true) : sw g i = true := by unfold sw; rw [h]; simp
theorem wst_sw {g : Nat → Nat} {k : Nat} (h : sw g k = true) : wst g k = k := by
  cases k with
  | zero => rfl
  | succ k => show (if sw g (k + 1) then k + 1 else wst g k) = _; rw [if_pos h]
theorem sw_sc {g : Nat → Nat} {i : Nat} (h : lit (g i) = false) : sw g (i + 1) = (g (i + 1) != g i) := by
  unfold sw
  rw [show (i + 1 == 0) = false from rfl, Bool.false_or, Nat.add_sub_cancel]
  by_cases e : g (i + 1) = g i
  · rw [e, h]; simp
  · rw [bne_iff_ne.mpr e]; rfl
theorem wst_le (g : Nat → Nat) : ∀ k, wst g k ≤ k := by
  intro k
  induction k with
  | zero => exact Nat.le_refl _
  | succ k ih => unfold wst; split <;> omega
theorem wen_sp (g : Nat → Nat) (u k : Nat) (hk : k < u) : k + 1 ≤ wen g u k ∧ wen g u k ≤ u := by
  have := rn_sp (fun i => !sw g i) (u - (k + 1)) (k + 1)
  unfold wen
  omega
theorem lit_gw {g : Nat → Nat} {u k : Nat} (h : lit (g k) = true) : gw g u k = 1 := by
  unfold gw wen
  rw [wst_sw (sw_lit h), rn_no]
  · omega
  · show (!sw g (k + 1)) = false
    rw [Bool.not_eq_false']
    by_cases e : g (k + 1) = g k
    · exact sw_lit (by rw [e]; exact h)
    · unfold sw
      rw [Nat.add_sub_cancel, bne_iff_ne.mpr e]
      simp
section Bm5
variable {σ : ab_H} {h : Nat} {g : Nat → Nat}
set_option maxRecDepth 100000 in
set_option maxHeartbeats 1000000 in
theorem c_stepsWith {o : Nat} {f : Nat → Nat} (hB : IsB σ h g) (hO : IsB σ o f) (u : Nat) (hu : u ≤ 100) : ab_ev 2 yX2_stepsWith [rf h, rf o, .inl u] σ (some (.inl (cnt (fun i => sw g i || sw f i) u))) σ := by
  obtain ⟨h1, h2, hg⟩ := id hB
  obtain ⟨h3, h4, hf⟩ := id hO
  refine eX2_stepsWith rfl (fun At hA => ?_)
  have loop : ∀ (n i : Nat) (y7 y8 : Option ab_V), i + n = u → At 1 [some (rf h), some (rf o), some (.inl u), some (.inl (cnt (fun i => sw g i || sw f i) i)), some (.inl (bf g i)), some (.inl (bf f i)), some (.inl i), y7, y8] [] σ 0 0 := by
    intro n
    induction n with
    | zero =>
      intro i y7 y8 hi
      refine hA 1 _ rfl _ _ _ _ _ ?_
      refine And.intro (And.intro (by first | assumption | exact b2i_R _ | exact rR (by omega) (by omega) | exact rR (by simp only [Int.toNat_natCast]; omega) (by simp only [Int.toNat_natCast]; omega)) (by first | assumption | exact b2i_R _ | exact rR (by omega) (by omega) | exact rR (by simp only [Int.toNat_natCast]; omega) (by simp only [Int.toNat_natCast]; omega))) (And.intro (fun q => ?_) (fun q => ?_))
      · refine hA 6 _ rfl _ _ _ _ _ ?_
        exact ⟨by rw [show i = u by omega], rfl⟩
      · omega
    | succ n ih =>
      intro i y7 y8 hi
      have hs : ((cnt (fun i => sw g i || sw f i) (i + 1) : Nat) : Int) = cnt (fun i => sw g i || sw f i) i + ((sw g i || sw f i).toNat : Int) := by
        show ((cnt (fun i => sw g i || sw f i) i + (sw g i || sw f i).toNat : Nat) : Int) = _
        omega
      have k5 : ∀ w : Int, w = cnt (fun i => sw g i || sw f i) (i + 1) → At 5 [some (rf h), some (rf o), some (.inl u), some (.inl w), some (.inl (bf g i)), some (.inl (bf f i)), some (.inl i), some (.inl (g i)), some (.inl (f i))] [] σ 0 0 := fun w hw => by
        subst hw
        refine hA 5 _ rfl _ _ _ _ _ ?_
        have := ih (i + 1) (some (.inl (g i))) (some (.inl (f i))) (by omega)
        rw [bf_s, bf_s] at this
        exact this
      have k4 : (sw g i || sw f i) = true → At 4 [some (rf h), some (rf o), some (.inl u), some (.inl (cnt (fun i => sw g i || sw f i) i)), some (.inl (bf g i)), some (.inl (bf f i)), some (.inl i), some (.inl (g i)), some (.inl (f i))] [] σ 0 0 := fun hq => by
        refine hA 4 _ rfl _ _ _ _ _ ?_
        exact k5 _ (by rw [hs, hq]; rfl)
      refine hA 1 _ rfl _ _ _ _ _ ?_
      refine And.intro (And.intro (by first | assumption | exact b2i_R _ | exact rR (by omega) (by omega) | exact rR (by simp only [Int.toNat_natCast]; omega) (by simp only [Int.toNat_natCast]; omega)) (by first | assumption | exact b2i_R _ | exact rR (by omega) (by omega) | exact rR (by simp only [Int.toNat_natCast]; omega) (by simp only [Int.toNat_natCast]; omega))) (And.intro (fun q => ?_) (fun q => ?_))
      · omega
      · refine hA 2 _ rfl _ _ _ _ _ ?_
        refine Exists.intro _ (And.intro (by first | assumption | exact st_s | exact st_e (by decide) (by assumption) | exact st_e (by omega) (by assumption) | exact st_e (by decide) st_s | exact st_e (by omega) st_s | exact st_e (by decide) (st_e (by decide) (by assumption)) | exact st_e (by omega) (st_e (by omega) (by assumption))) ?_)
        refine Exists.intro _ (Exists.intro _ (And.intro (by first | assumption | exact st_s | exact st_e (by decide) (by assumption) | exact st_e (by omega) (by assumption) | exact st_e (by decide) st_s | exact st_e (by omega) st_s | exact st_e (by decide) (st_e (by decide) (by assumption)) | exact st_e (by omega) (st_e (by omega) (by assumption))) (And.intro (by omega) ?_)))
        refine Exists.intro _ (And.intro (by first | assumption | exact st_s | exact st_e (by decide) (by assumption) | exact st_e (by omega) (by assumption) | exact st_e (by decide) st_s | exact st_e (by omega) st_s | exact st_e (by decide) (st_e (by decide) (by assumption)) | exact st_e (by omega) (st_e (by omega) (by assumption))) ?_)
        refine Exists.intro _ (Exists.intro _ (And.intro (by first | assumption | exact st_s | exact st_e (by decide) (by assumption) | exact st_e (by omega) (by assumption) | exact st_e (by decide) st_s | exact st_e (by omega) st_s | exact st_e (by decide) (st_e (by decide) (by assumption)) | exact st_e (by omega) (st_e (by omega) (by assumption))) (And.intro (by omega) ?_)))
        refine And.intro rfl (ab_inv_ev (c_startsWord σ hg i) (by decide) (Nat.le_refl _) (Nat.le_refl _) ?_)
        refine And.intro (by first | assumption | exact b2i_R _ | exact rR (by omega) (by omega) | exact rR (by simp only [Int.toNat_natCast]; omega) (by simp only [Int.toNat_natCast]; omega)) (And.intro (fun q => ?_) (fun q => ?_))
        · exact k4 (by rw [b2i_1 q]; rfl)
        · have hq := b2i_0 q
          refine hA 3 _ rfl _ _ _ _ _ ?_
          refine And.intro rfl (ab_inv_ev (c_startsWord σ hf i) (by decide) (Nat.le_refl _) (Nat.le_refl _) ?_)
          refine And.intro (by first | assumption | exact b2i_R _ | exact rR (by omega) (by omega) | exact rR (by simp only [Int.toNat_natCast]; omega) (by simp only [Int.toNat_natCast]; omega)) (And.intro (fun q => ?_) (fun q => ?_))
          · exact k5 _ (by rw [hs, hq, b2i_0 q]; simp)
          · exact k4 (by rw [b2i_1 q]; simp)
  refine hA 0 _ rfl _ _ _ _ _ ?_
  exact loop u 0 _ _ (by omega)
set_option maxRecDepth 100000 in
set_option maxHeartbeats 1000000 in
theorem c_groupsOfWordAt (hB : IsB σ h g) (k u : Nat) (hk : k < u) (hu : u ≤ 100) : ab_ev 1 yX2_groupsOfWordAt [rf h, .inl k, .inl u] σ (some (.inl (gw g u k))) σ := by
  obtain ⟨h1, h2, hg⟩ := id hB
  have hR := hB.R
  have hwl := wst_le g k
  have hws := wen_sp g u k hk
  have hRk := hR k
  refine eX2_groupsOfWordAt rfl (fun At hA => ?_)
  have k3 : lit (g k) = false → At 3 [some (rf h), some (.inl k), some (.inl u), some (.inl (g k)), none, none] [] σ 0 0 := fun hl => by
    have up : ∀ (n i : Nat), i + n = u → rn (fun i => !sw g i) i n = wen g u k → k + 1 ≤ i → (g (i - 1) = g k) → At 8 [some (rf h), some (.inl k), some (.inl u), some (.inl (g k)), some (.inl (wst g k)), some (.inl i)] [] σ 0 0 := by
      intro n
      induction n with
      | zero =>
        intro i hi hr hki hgi
        have hr : i = wen g u k := hr
        refine hA 8 _ rfl _ _ _ _ _ ?_
        refine And.intro (And.intro (by first | assumption | exact b2i_R _ | exact rR (by omega) (by omega) | exact rR (by simp only [Int.toNat_natCast]; omega) (by simp only [Int.toNat_natCast]; omega)) (by first | assumption | exact b2i_R _ | exact rR (by omega) (by omega) | exact rR (by simp only [Int.toNat_natCast]; omega) (by simp only [Int.toNat_natCast]; omega))) (And.intro (fun q => ?_) (fun q => ?_))
        · refine hA 11 _ rfl _ _ _ _ _ ?_
          refine ⟨?_, rfl⟩
          rw [hr]
          unfold gw
          show _ = (Sum.inl (some (Sum.inl (((wen g u k - wst g k : Nat)) : Int))) : ab_O)
          congr 3
          omega
        · omega
      | succ n ih =>
        intro i hi hr hki hgi
        have hsw : sw g i = (g i != g k) := by
          have := sw_sc (g := g) (i := i - 1) (by rw [hgi]; exact hl)
          rw [show i - 1 + 1 = i by omega, hgi] at this
          exact this
        refine hA 8 _ rfl _ _ _ _ _ ?_
        refine And.intro (And.intro (by first | assumption | exact b2i_R _ | exact rR (by omega) (by omega) | exact rR (by simp only [Int.toNat_natCast]; omega) (by simp only [Int.toNat_natCast]; omega)) (by first | assumption | exact b2i_R _ | exact rR (by omega) (by omega) | exact rR (by simp only [Int.toNat_natCast]; omega) (by simp only [Int.toNat_natCast]; omega))) (And.intro (fun q => ?_) (fun q => ?_))
        · omega
        · refine hA 9 _ rfl _ _ _ _ _ ?_
          refine Exists.intro _ (And.intro (by first | assumption | exact st_s | exact st_e (by decide) (by assumption) | exact st_e (by omega) (by assumption) | exact st_e (by decide) st_s | exact st_e (by omega) st_s | exact st_e (by decide) (st_e (by decide) (by assumption)) | exact st_e (by omega) (st_e (by omega) (by assumption))) ?_)
          refine Exists.intro _ (Exists.intro _ (And.intro (by first | assumption | exact st_s | exact st_e (by decide) (by assumption) | exact st_e (by omega) (by assumption) | exact st_e (by decide) st_s | exact st_e (by omega) st_s | exact st_e (by decide) (st_e (by decide) (by assumption)) | exact st_e (by omega) (st_e (by omega) (by assumption))) (And.intro (by omega) ?_)))
          refine And.intro (And.intro (hR i) hRk) (And.intro (fun q => ?_) (fun q => ?_))
          · have q : ((g i : Nat) : Int) ≠ ((g k : Nat) : Int) := q
            refine hA 11 _ rfl _ _ _ _ _ ?_
            rw [rn_no (by show (!sw g i) = false; rw [hsw, Bool.not_eq_false', bne_iff_ne]; omega)] at hr
            refine ⟨?_, rfl⟩
            rw [hr]
            unfold gw
            show _ = (Sum.inl (some (Sum.inl (((wen g u k - wst g k : Nat)) : Int))) : ab_O)
            congr 3
            omega
          · have q : ((g i : Nat) : Int) = ((g k : Nat) : Int) := q
            refine hA 10 _ rfl _ _ _ _ _ ?_
            refine ih (i + 1) (by omega) ?_ (by omega) (by rw [Nat.add_sub_cancel]; omega)
            rw [← hr, rn_st]
            show (!sw g i) = true
            rw [hsw, Bool.not_eq_true', bne_eq_false_iff_eq]
            omega
    have dn : ∀ (i : Nat), i ≤ k → g i = g k → wst g i = wst g k → At 4 [some (rf h), some (.inl k), some (.inl u), some (.inl (g k)), some (.inl i), none] [] σ 0 0 := by
      intro i
      induction i with
      | zero =>
        intro hi hgi hw
        have k7 : At 7 [some (rf h), some (.inl k), some (.inl u), some (.inl (g k)), some (.inl (wst g k)), none] [] σ 0 0 := by
          refine hA 7 _ rfl _ _ _ _ _ ?_
          exact up (u - (k + 1)) (k + 1) (by omega) rfl (Nat.le_refl _) (by rw [Nat.add_sub_cancel])
        refine hA 4 _ rfl _ _ _ _ _ ?_
        refine And.intro (by first | assumption | exact b2i_R _ | exact rR (by omega) (by omega) | exact rR (by simp only [Int.toNat_natCast]; omega) (by simp only [Int.toNat_natCast]; omega)) (And.intro (fun q => ?_) (fun q => ?_))
        · rw [← hw] at k7
          exact k7
        · exact absurd (show (0 : Int) < 0 from q) (by decide)
      | succ i ih =>
        intro hi hgi hw
        have k7 : At 7 [some (rf h), some (.inl k), some (.inl u), some (.inl (g k)), some (.inl (wst g k)), none] [] σ 0 0 := by
          refine hA 7 _ rfl _ _ _ _ _ ?_
          exact up (u - (k + 1)) (k + 1) (by omega) rfl (Nat.le_refl _) (by rw [Nat.add_sub_cancel])
        have e1 : (((i + 1 : Nat) : Int) - 1).toNat = i := by omega
        have e2 : ((i + 1 : Nat) : Int) - 1 = (i : Nat) := by omega
        refine hA 4 _ rfl _ _ _ _ _ ?_
        refine And.intro (by first | assumption | exact b2i_R _ | exact rR (by omega) (by omega) | exact rR (by simp only [Int.toNat_natCast]; omega) (by simp only [Int.toNat_natCast]; omega)) (And.intro (fun q => ?_) (fun q => ?_))
        · have q : ((i + 1 : Nat) : Int) ≤ 0 := q
          omega
        · refine hA 5 _ rfl _ _ _ _ _ ?_
          refine Exists.intro _ (And.intro (by first | assumption | exact st_s | exact st_e (by decide) (by assumption) | exact st_e (by omega) (by assumption) | exact st_e (by decide) st_s | exact st_e (by omega) st_s | exact st_e (by decide) (st_e (by decide) (by assumption)) | exact st_e (by omega) (st_e (by omega) (by assumption))) ?_)
          refine Exists.intro _ (Exists.intro _ (And.intro (by first | assumption | exact st_s | exact st_e (by decide) (by assumption) | exact st_e (by omega) (by assumption) | exact st_e (by decide) st_s | exact st_e (by omega) st_s | exact st_e (by decide) (st_e (by decide) (by assumption)) | exact st_e (by omega) (st_e (by omega) (by assumption))) (And.intro (by omega) ?_)))
          rw [e1]
          refine And.intro (And.intro (hR i) hRk) (And.intro (fun q => ?_) (fun q => ?_))
          · have q : ((g i : Nat) : Int) ≠ ((g k : Nat) : Int) := q
            have hs : sw g (i + 1) = true := by
              unfold sw
              rw [Nat.add_sub_cancel, bne_iff_ne.mpr (show g (i + 1) ≠ g i by omega)]
              simp
            rw [← hw, wst_sw hs] at k7
            exact k7
          · have q : ((g i : Nat) : Int) = ((g k : Nat) : Int) := q
            refine hA 6 _ rfl _ _ _ _ _ ?_
            have hs : sw g (i + 1) = false := by
              rw [sw_sc (by rw [show g i = g k by omega]; exact hl), bne_eq_false_iff_eq]
              omega
            have := ih (by omega) (by omega) (by
              rw [← hw]
              show wst g i = if sw g (i + 1) then i + 1 else wst g i
              rw [hs]
              rfl)
            rw [← e2] at this
            exact this
    refine hA 3 _ rfl _ _ _ _ _ ?_
    exact dn k (Nat.le_refl _) rfl rfl
  refine hA 0 _ rfl _ _ _ _ _ ?_
  refine Exists.intro _ (And.intro (by first | assumption | exact st_s | exact st_e (by decide) (by assumption) | exact st_e (by omega) (by assumption) | exact st_e (by decide) st_s | exact st_e (by omega) st_s | exact st_e (by decide) (st_e (by decide) (by assumption)) | exact st_e (by omega) (st_e (by omega) (by assumption))) ?_)
  refine Exists.intro _ (Exists.intro _ (And.intro (by first | assumption | exact st_s | exact st_e (by decide) (by assumption) | exact st_e (by omega) (by assumption) | exact st_e (by decide) st_s | exact st_e (by omega) st_s | exact st_e (by decide) (st_e (by decide) (by assumption)) | exact st_e (by omega) (st_e (by omega) (by assumption))) (And.intro (by omega) ?_)))
  refine And.intro hRk (And.intro (fun q => ?_) (fun q => ?_))
  · have q : ((g k : Nat) : Int) = 0 := q
    exact k3 (by rw [show g k = 0 by omega]; rfl)
  · have q : ((g k : Nat) : Int) ≠ 0 := q
    refine hA 1 _ rfl _ _ _ _ _ ?_
    refine And.intro (And.intro hRk (rR (by omega) (by omega))) (And.intro (fun q2 => ?_) (fun q2 => ?_))
    · have q2 : ((g k : Nat) : Int) = 32767 := q2
      exact k3 (by rw [show g k = 32767 by omega]; rfl)
    · have q2 : ((g k : Nat) : Int) ≠ 32767 := q2
      refine hA 2 _ rfl _ _ _ _ _ ?_
      rw [lit_gw (lit_y (by omega) (by omega))]
      exact ⟨rfl, rfl⟩
set_option maxRecDepth 100000 in
set_option maxHeartbeats 1000000 in
theorem c_wordFrom (hB : IsB σ h g) (k u : Nat) (hk : k < u) (hu : u ≤ 100) : ab_ev 2 yX2_wordFrom [rf h, .inl k, .inl u] σ (some (.inl (wrd g u k))) σ := by
  obtain ⟨h1, h2, hg⟩ := id hB
  have hR := hB.R
  have hRk := hR k
  refine eX2_wordFrom rfl (fun At hA => ?_)
  have k3 : lit (g k) = false → At 3 [some (rf h), some (.inl k), some (.inl u), some (.inl (g k))] [] σ 0 0 := fun hl => by
    have k6 : ∀ z : Int, z = (if g k = 32767 then 16384 else 0 : Nat) → At 6 [some (rf h), some (.inl k), some (.inl u), some (.inl (g k))] [.inl z, .inl 32768] σ 0 0 := fun z hz => by
      subst hz
      refine hA 6 _ rfl _ _ _ _ _ ?_
      refine Exists.intro _ (And.intro (by first | assumption | exact st_s | exact st_e (by decide) (by assumption) | exact st_e (by omega) (by assumption) | exact st_e (by decide) st_s | exact st_e (by omega) st_s | exact st_e (by decide) (st_e (by decide) (by assumption)) | exact st_e (by omega) (st_e (by omega) (by assumption))) (And.intro rfl (ab_inv_ev (c_groupsOfWordAt hB k u hk hu) (by decide) (Nat.le_refl _) (Nat.le_refl _) ?_)))
      refine ⟨?_, rfl⟩
      have e : wrd g u k = 32768 + (if g k = 32767 then 16384 else 0) + gw g u k := if_neg (by rw [hl]; decide)
      rw [e]
      rfl
    refine hA 3 _ rfl _ _ _ _ _ ?_
    refine And.intro (And.intro hRk (rR (by omega) (by omega))) (And.intro (fun q2 => ?_) (fun q2 => ?_))
    · have q2 : ((g k : Nat) : Int) ≠ 32767 := q2
      refine hA 5 _ rfl _ _ _ _ _ ?_
      exact k6 _ (by rw [if_neg (by omega)]; rfl)
    · have q2 : ((g k : Nat) : Int) = 32767 := q2
      refine hA 4 _ rfl _ _ _ _ _ ?_
      exact k6 _ (by rw [if_pos (by omega)]; rfl)
  refine hA 0 _ rfl _ _ _ _ _ ?_
  refine Exists.intro _ (And.intro (by first | assumption | exact st_s | exact st_e (by decide) (by assumption) | exact st_e (by omega) (by assumption) | exact st_e (by decide) st_s | exact st_e (by omega) st_s | exact st_e (by decide) (st_e (by decide) (by assumption)) | exact st_e (by omega) (st_e (by omega) (by assumption))) ?_)
  refine Exists.intro _ (Exists.intro _ (And.intro (by first | assumption | exact st_s | exact st_e (by decide) (by assumption) | exact st_e (by omega) (by assumption) | exact st_e (by decide) st_s | exact st_e (by omega) st_s | exact st_e (by decide) (st_e (by decide) (by assumption)) | exact st_e (by omega) (st_e (by omega) (by assumption))) (And.intro (by omega) ?_)))
  refine And.intro hRk (And.intro (fun q => ?_) (fun q => ?_))
  · have q : ((g k : Nat) : Int) = 0 := q
    exact k3 (by rw [show g k = 0 by omega]; rfl)
  · have q : ((g k : Nat) : Int) ≠ 0 := q
    refine hA 1 _ rfl _ _ _ _ _ ?_
    refine And.intro (And.intro hRk (rR (by omega) (by omega))) (And.intro (fun q2 => ?_) (fun q2 => ?_))
    · have q2 : ((g k : Nat) : Int) = 32767 := q2
      exact k3 (by rw [show g k = 32767 by omega]; rfl)
    · have q2 : ((g k : Nat) : Int) ≠ 32767 := q2
      refine hA 2 _ rfl _ _ _ _ _ ?_
      unfold wrd
      rw [if_pos (lit_y (by omega) (by omega))]
      exact ⟨rfl, rfl⟩
set_option maxRecDepth 100000 in
set_option maxHeartbeats 1000000 in
theorem c_wordAt (hB : IsB σ h g) (k u : Nat) (hk : k < cnt (sw g) u) (hu : u ≤ 100) : ab_ev 3 yX2_wordAt [rf h, .inl k, .inl u] σ (some (.inl (wrd g u (wps g u k)))) σ := by
  obtain ⟨h1, h2, hg⟩ := id hB
  have hcu := cnt_le (sw g) u
  refine eX2_wordAt rfl (fun At hA => ?_)
  have loop : ∀ (n i : Nat), i + n = u → cnt (sw g) i ≤ k → rn (fun i => !(sw g i && cnt (sw g) i == k)) i n = wps g u k → At 1 [some (rf h), some (.inl k), some (.inl u), some (.inl (cnt (sw g) i)), some (.inl (bf g i)), some (.inl i)] [] σ 0 0 := by
    intro n
    induction n with
    | zero =>
      intro i hi hc hr
      have : i = u := by omega
      subst this
      omega
    | succ n ih =>
      intro i hi hc hr
      have k6 : ∀ w : Int, w = cnt (sw g) (i + 1) → cnt (sw g) (i + 1) ≤ k → (!(sw g i && cnt (sw g) i == k)) = true → At 6 [some (rf h), some (.inl k), some (.inl u), some (.inl w), some (.inl (bf g i)), some (.inl i)] [] σ 0 0 := fun w hw hc2 hp => by
        subst hw
        refine hA 6 _ rfl _ _ _ _ _ ?_
        refine Exists.intro _ (And.intro (by first | assumption | exact st_s | exact st_e (by decide) (by assumption) | exact st_e (by omega) (by assumption) | exact st_e (by decide) st_s | exact st_e (by omega) st_s | exact st_e (by decide) (st_e (by decide) (by assumption)) | exact st_e (by omega) (st_e (by omega) (by assumption))) ?_)
        refine Exists.intro _ (Exists.intro _ (And.intro (by first | assumption | exact st_s | exact st_e (by decide) (by assumption) | exact st_e (by omega) (by assumption) | exact st_e (by decide) st_s | exact st_e (by omega) st_s | exact st_e (by decide) (st_e (by decide) (by assumption)) | exact st_e (by omega) (st_e (by omega) (by assumption))) (And.intro (by omega) ?_)))
        rw [rn_st hp] at hr
        have := ih (i + 1) (by omega) hc2 hr
        rw [bf_s] at this
        exact this
      have hs : cnt (sw g) (i + 1) = cnt (sw g) i + (sw g i).toNat := rfl
      refine hA 1 _ rfl _ _ _ _ _ ?_
      refine And.intro (And.intro (by first | assumption | exact b2i_R _ | exact rR (by omega) (by omega) | exact rR (by simp only [Int.toNat_natCast]; omega) (by simp only [Int.toNat_natCast]; omega)) (by first | assumption | exact b2i_R _ | exact rR (by omega) (by omega) | exact rR (by simp only [Int.toNat_natCast]; omega) (by simp only [Int.toNat_natCast]; omega))) (And.intro (fun q => ?_) (fun q => ?_))
      · omega
      · refine hA 2 _ rfl _ _ _ _ _ ?_
        refine Exists.intro _ (And.intro (by first | assumption | exact st_s | exact st_e (by decide) (by assumption) | exact st_e (by omega) (by assumption) | exact st_e (by decide) st_s | exact st_e (by omega) st_s | exact st_e (by decide) (st_e (by decide) (by assumption)) | exact st_e (by omega) (st_e (by omega) (by assumption))) ?_)
        refine Exists.intro _ (Exists.intro _ (And.intro (by first | assumption | exact st_s | exact st_e (by decide) (by assumption) | exact st_e (by omega) (by assumption) | exact st_e (by decide) st_s | exact st_e (by omega) st_s | exact st_e (by decide) (st_e (by decide) (by assumption)) | exact st_e (by omega) (st_e (by omega) (by assumption))) (And.intro (by omega) ?_)))
        refine And.intro rfl (ab_inv_ev (c_startsWord σ hg i) (by decide) (Nat.le_refl _) (Nat.le_refl _) ?_)
        refine And.intro (by first | assumption | exact b2i_R _ | exact rR (by omega) (by omega) | exact rR (by simp only [Int.toNat_natCast]; omega) (by simp only [Int.toNat_natCast]; omega)) (And.intro (fun q => ?_) (fun q => ?_))
        · have hq := b2i_0 q
          rw [hq] at hs
          exact k6 _ (by rw [hs]; rfl) (by rw [hs]; exact hc) (by rw [hq]; rfl)
        · have hq := b2i_1 q
          rw [hq] at hs
          refine hA 3 _ rfl _ _ _ _ _ ?_
          refine And.intro (And.intro (by first | assumption | exact b2i_R _ | exact rR (by omega) (by omega) | exact rR (by simp only [Int.toNat_natCast]; omega) (by simp only [Int.toNat_natCast]; omega)) (by first | assumption | exact b2i_R _ | exact rR (by omega) (by omega) | exact rR (by simp only [Int.toNat_natCast]; omega) (by simp only [Int.toNat_natCast]; omega))) (And.intro (fun q => ?_) (fun q => ?_))
          · refine hA 5 _ rfl _ _ _ _ _ ?_
            refine k6 _ (by rw [hs]; rfl) (by rw [hs]; show cnt (sw g) i + 1 ≤ k; omega) ?_
            rw [hq, beq_eq_false_iff_ne.mpr (by omega)]
            rfl
          · rw [rn_no (by rw [hq, beq_iff_eq.mpr (by omega)]; rfl)] at hr
            subst hr
            refine hA 4 _ rfl _ _ _ _ _ ?_
            refine Exists.intro _ (And.intro (by first | assumption | exact st_s | exact st_e (by decide) (by assumption) | exact st_e (by omega) (by assumption) | exact st_e (by decide) st_s | exact st_e (by omega) st_s | exact st_e (by decide) (st_e (by decide) (by assumption)) | exact st_e (by omega) (st_e (by omega) (by assumption))) (And.intro rfl (ab_inv_ev (c_wordFrom hB (wps g u k) u (by omega) hu) (by decide) (Nat.le_refl _) (Nat.le_refl _) ?_)))
            exact ⟨rfl, rfl⟩
  refine hA 0 _ rfl _ _ _ _ _ ?_
  exact loop u 0 (by omega) (Nat.zero_le _) rfl
set_option maxRecDepth 100000 in
set_option maxHeartbeats 1000000 in
theorem c_widestFill (hB : IsB σ h g) (u : Nat) (hu : u ≤ 100) : ab_ev 2 yX2_widestFill [rf h, .inl u] σ (some (.inl (wdf g u))) σ := by
  obtain ⟨h1, h2, hg⟩ := id hB
  have hR := hB.R
  refine eX2_widestFill rfl (fun At hA => ?_)
  have loop : ∀ (n i : Nat) (y6 : Option ab_V), i + n = u → At 1 [some (rf h), some (.inl u), some (.inl (wdf g i)), some (.inl (flr g i)), some (.inl (bf g i)), some (.inl i), y6] [] σ 0 0 := by
    intro n
    induction n with
    | zero =>
      intro i y6 hi
      refine hA 1 _ rfl _ _ _ _ _ ?_
      refine And.intro (And.intro (by first | assumption | exact b2i_R _ | exact rR (by omega) (by omega) | exact rR (by simp only [Int.toNat_natCast]; omega) (by simp only [Int.toNat_natCast]; omega)) (by first | assumption | exact b2i_R _ | exact rR (by omega) (by omega) | exact rR (by simp only [Int.toNat_natCast]; omega) (by simp only [Int.toNat_natCast]; omega))) (And.intro (fun q => ?_) (fun q => ?_))
      · refine hA 10 _ rfl _ _ _ _ _ ?_
        exact ⟨by rw [show i = u by omega], rfl⟩
      · omega
    | succ n ih =>
      intro i y6 hi
      have hRi := hR i
      have hgi := hg i
      have hbR := bf_R hg i
      have hwl := wdf_le g i
      have hfl := flr_le g (i + 1)
      have k9 : ∀ z : Int, z = flr g (i + 1) → At 9 [some (rf h), some (.inl u), some (.inl (wdf g i)), some (.inl z), some (.inl (bf g i)), some (.inl i), some (.inl (g i))] [] σ 0 0 := fun z hz => by
        subst hz
        refine hA 9 _ rfl _ _ _ _ _ ?_
        refine And.intro ⟨by first | assumption | exact b2i_R _ | exact rR (by omega) (by omega) | exact rR (by simp only [Int.toNat_natCast]; omega) (by simp only [Int.toNat_natCast]; omega), by first | assumption | exact b2i_R _ | exact rR (by omega) (by omega) | exact rR (by simp only [Int.toNat_natCast]; omega) (by simp only [Int.toNat_natCast]; omega), by decide⟩ (And.intro rfl ?_)
        have e : max ((wdf g i : Nat) : Int) ((flr g (i + 1) : Nat) : Int) = ((wdf g (i + 1) : Nat) : Int) := by
          show _ = ((max (wdf g i) (flr g (i + 1)) : Nat) : Int)
          omega
        rw [e]
        have := ih (i + 1) (some (.inl (g i))) (by omega)
        rw [bf_s] at this
        exact this
      have k5 : lit (g i) = false → At 5 [some (rf h), some (.inl u), some (.inl (wdf g i)), some (.inl (flr g i)), some (.inl (bf g i)), some (.inl i), some (.inl (g i))] [] σ 0 0 := fun hl => by
        have k8 : ∀ z : Int, z = flr g (i + 1) → At 8 [some (rf h), some (.inl u), some (.inl (wdf g i)), some (.inl (flr g i)), some (.inl (bf g i)), some (.inl i), some (.inl (g i))] [.inl z] σ 0 0 := fun z hz => by
          refine hA 8 _ rfl _ _ _ _ _ ?_
          exact k9 _ hz
        have hf1 : flr g (i + 1) = if sw g i then 1 else flr g i + 1 := by
          show (if lit (g i) then 0 else if sw g i then 1 else flr g i + 1) = _
          rw [if_neg (by rw [hl]; decide)]
        have hsw : sw g i = decide ((g i : Int) ≠ bf g i) := by
          rw [← sw_eq i]
          rcases lit_f hl with h | h <;> rw [h] <;> simp
        refine hA 5 _ rfl _ _ _ _ _ ?_
        refine And.intro (And.intro (by first | assumption | exact b2i_R _ | exact rR (by omega) (by omega) | exact rR (by simp only [Int.toNat_natCast]; omega) (by simp only [Int.toNat_natCast]; omega)) (by first | assumption | exact b2i_R _ | exact rR (by omega) (by omega) | exact rR (by simp only [Int.toNat_natCast]; omega) (by simp only [Int.toNat_natCast]; omega))) (And.intro (fun q => ?_) (fun q => ?_))
        · have q : ((g i : Nat) : Int) ≠ bf g i := q
          refine hA 7 _ rfl _ _ _ _ _ ?_
          exact k8 _ (by rw [hf1, hsw, if_pos (by rw [decide_eq_true q])]; rfl)
        · have q : ((g i : Nat) : Int) = bf g i := q
          refine hA 6 _ rfl _ _ _ _ _ ?_
          exact k8 _ (by rw [hf1, hsw, if_neg (by rw [decide_eq_false (fun h => h q)]; decide)]; rfl)
      refine hA 1 _ rfl _ _ _ _ _ ?_
      refine And.intro (And.intro (by first | assumption | exact b2i_R _ | exact rR (by omega) (by omega) | exact rR (by simp only [Int.toNat_natCast]; omega) (by simp only [Int.toNat_natCast]; omega)) (by first | assumption | exact b2i_R _ | exact rR (by omega) (by omega) | exact rR (by simp only [Int.toNat_natCast]; omega) (by simp only [Int.toNat_natCast]; omega))) (And.intro (fun q => ?_) (fun q => ?_))
      · omega
      · refine hA 2 _ rfl _ _ _ _ _ ?_
        refine Exists.intro _ (And.intro (by first | assumption | exact st_s | exact st_e (by decide) (by assumption) | exact st_e (by omega) (by assumption) | exact st_e (by decide) st_s | exact st_e (by omega) st_s | exact st_e (by decide) (st_e (by decide) (by assumption)) | exact st_e (by omega) (st_e (by omega) (by assumption))) ?_)
        refine Exists.intro _ (Exists.intro _ (And.intro (by first | assumption | exact st_s | exact st_e (by decide) (by assumption) | exact st_e (by omega) (by assumption) | exact st_e (by decide) st_s | exact st_e (by omega) st_s | exact st_e (by decide) (st_e (by decide) (by assumption)) | exact st_e (by omega) (st_e (by omega) (by assumption))) (And.intro (by omega) ?_)))
        refine And.intro hRi (And.intro (fun q => ?_) (fun q => ?_))
        · have q : ((g i : Nat) : Int) = 0 := q
          exact k5 (by rw [show g i = 0 by omega]; rfl)
        · have q : ((g i : Nat) : Int) ≠ 0 := q
          refine hA 3 _ rfl _ _ _ _ _ ?_
          refine And.intro (And.intro hRi (rR (by omega) (by omega))) (And.intro (fun q2 => ?_) (fun q2 => ?_))
          · have q2 : ((g i : Nat) : Int) = 32767 := q2
            exact k5 (by rw [show g i = 32767 by omega]; rfl)
          · have q2 : ((g i : Nat) : Int) ≠ 32767 := q2
            refine hA 4 _ rfl _ _ _ _ _ ?_
            refine k9 _ ?_
            show (0 : Int) = (((if lit (g i) then 0 else if sw g i then 1 else flr g i + 1) : Nat) : Int)
            rw [if_pos (lit_y (by omega) (by omega))]
            rfl
  refine hA 0 _ rfl _ _ _ _ _ ?_
  exact loop u 0 _ (by omega)
set_option maxRecDepth 100000 in
set_option maxHeartbeats 1000000 in
theorem c_stretchCount (hB : IsB σ h g) : ab_ev 2 yX2_stretchCount [rf h] σ (some (.inl (stc (bit g) 1500))) σ := by
  have h1 := hB.1
  refine eX2_stretchCount rfl (fun At hA => ?_)
  have loop : ∀ (n i : Nat) (y4 : Option ab_V), i + n = 1500 → At 1 [some (rf h), some (.inl (stc (bit g) i)), some (.inl (b2i (pv (bit g) i))), some (.inl i), y4] [] σ 0 0 := by
    intro n
    induction n with
    | zero =>
      intro i y4 hi
      refine hA 1 _ rfl _ _ _ _ _ ?_
      refine And.intro (And.intro (by first | assumption | exact b2i_R _ | exact rR (by omega) (by omega) | exact rR (by simp only [Int.toNat_natCast]; omega) (by simp only [Int.toNat_natCast]; omega)) (by first | assumption | exact b2i_R _ | exact rR (by omega) (by omega) | exact rR (by simp only [Int.toNat_natCast]; omega) (by simp only [Int.toNat_natCast]; omega))) (And.intro (fun q => ?_) (fun q => ?_))
      · refine hA 6 _ rfl _ _ _ _ _ ?_
        exact ⟨by rw [show i = 1500 by omega], rfl⟩
      · omega
    | succ n ih =>
      intro i y4 hi
      have hs : ((stc (bit g) (i + 1) : Nat) : Int) = stc (bit g) i + ((bit g i && !pv (bit g) i).toNat : Int) := by
        show ((stc (bit g) i + (bit g i && !pv (bit g) i).toNat : Nat) : Int) = _
        omega
      have k5 : ∀ z : Int, z = stc (bit g) (i + 1) → At 5 [some (rf h), some (.inl z), some (.inl (b2i (pv (bit g) i))), some (.inl i), some (.inl (b2i (bit g i)))] [] σ 0 0 := fun z hz => by
        subst hz
        refine hA 5 _ rfl _ _ _ _ _ ?_
        exact ih (i + 1) _ (by omega)
      refine hA 1 _ rfl _ _ _ _ _ ?_
      refine And.intro (And.intro (by first | assumption | exact b2i_R _ | exact rR (by omega) (by omega) | exact rR (by simp only [Int.toNat_natCast]; omega) (by simp only [Int.toNat_natCast]; omega)) (by first | assumption | exact b2i_R _ | exact rR (by omega) (by omega) | exact rR (by simp only [Int.toNat_natCast]; omega) (by simp only [Int.toNat_natCast]; omega))) (And.intro (fun q => ?_) (fun q => ?_))
      · omega
      · refine hA 2 _ rfl _ _ _ _ _ ?_
        refine Exists.intro _ (And.intro (by first | assumption | exact st_s | exact st_e (by decide) (by assumption) | exact st_e (by omega) (by assumption) | exact st_e (by decide) st_s | exact st_e (by omega) st_s | exact st_e (by decide) (st_e (by decide) (by assumption)) | exact st_e (by omega) (st_e (by omega) (by assumption))) (And.intro rfl (ab_inv_ev (c_contains hB i (by omega)) (by decide) (Nat.le_refl _) (Nat.le_refl _) ?_)))
        refine And.intro (by first | assumption | exact b2i_R _ | exact rR (by omega) (by omega) | exact rR (by simp only [Int.toNat_natCast]; omega) (by simp only [Int.toNat_natCast]; omega)) (And.intro (fun q => ?_) (fun q => ?_))
        · exact k5 _ (by rw [hs, b2i_0 q]; simp)
        · have hq := b2i_1 q
          refine hA 3 _ rfl _ _ _ _ _ ?_
          refine And.intro (by first | assumption | exact b2i_R _ | exact rR (by omega) (by omega) | exact rR (by simp only [Int.toNat_natCast]; omega) (by simp only [Int.toNat_natCast]; omega)) (And.intro (fun q => ?_) (fun q => ?_))
          · exact k5 _ (by rw [hs, b2i_1 q]; simp)
          · refine hA 4 _ rfl _ _ _ _ _ ?_
            exact k5 _ (by rw [hs, b2i_0 q, hq]; rfl)
  refine hA 0 _ rfl _ _ _ _ _ ?_
  exact loop 1500 0 _ (by omega)
set_option maxRecDepth 100000 in
set_option maxHeartbeats 1000000 in
theorem c_longestStretch (hB : IsB σ h g) : ab_ev 2 yX2_longestStretch [rf h] σ (some (.inl (lng (bit g) 1500))) σ := by
  have h1 := hB.1
  refine eX2_longestStretch rfl (fun At hA => ?_)
  have loop : ∀ (n i : Nat), i + n = 1500 → At 1 [some (rf h), some (.inl (lng (bit g) i)), some (.inl (run (bit g) i)), some (.inl i)] [] σ 0 0 := by
    intro n
    induction n with
    | zero =>
      intro i hi
      refine hA 1 _ rfl _ _ _ _ _ ?_
      refine And.intro (And.intro (by first | assumption | exact b2i_R _ | exact rR (by omega) (by omega) | exact rR (by simp only [Int.toNat_natCast]; omega) (by simp only [Int.toNat_natCast]; omega)) (by first | assumption | exact b2i_R _ | exact rR (by omega) (by omega) | exact rR (by simp only [Int.toNat_natCast]; omega) (by simp only [Int.toNat_natCast]; omega))) (And.intro (fun q => ?_) (fun q => ?_))
      · refine hA 6 _ rfl _ _ _ _ _ ?_
        exact ⟨by rw [show i = 1500 by omega], rfl⟩
      · omega
    | succ n ih =>
      intro i hi
      have hl := lng_le (bit g) i
      have hl2 := run_le (bit g) (i + 1)
      have k5 : ∀ z : Int, z = run (bit g) (i + 1) → At 5 [some (rf h), some (.inl (lng (bit g) i)), some (.inl (run (bit g) i)), some (.inl i)] [.inl z] σ 0 0 := fun z hz => by
        subst hz
        refine hA 5 _ rfl _ _ _ _ _ ?_
        refine And.intro ⟨by first | assumption | exact b2i_R _ | exact rR (by omega) (by omega) | exact rR (by simp only [Int.toNat_natCast]; omega) (by simp only [Int.toNat_natCast]; omega), by first | assumption | exact b2i_R _ | exact rR (by omega) (by omega) | exact rR (by simp only [Int.toNat_natCast]; omega) (by simp only [Int.toNat_natCast]; omega), by decide⟩ (And.intro rfl ?_)
        have e : max ((lng (bit g) i : Nat) : Int) ((run (bit g) (i + 1) : Nat) : Int) = ((lng (bit g) (i + 1) : Nat) : Int) := by
          show _ = ((max (lng (bit g) i) (run (bit g) (i + 1)) : Nat) : Int)
          omega
        rw [e]
        exact ih (i + 1) (by omega)
      refine hA 1 _ rfl _ _ _ _ _ ?_
      refine And.intro (And.intro (by first | assumption | exact b2i_R _ | exact rR (by omega) (by omega) | exact rR (by simp only [Int.toNat_natCast]; omega) (by simp only [Int.toNat_natCast]; omega)) (by first | assumption | exact b2i_R _ | exact rR (by omega) (by omega) | exact rR (by simp only [Int.toNat_natCast]; omega) (by simp only [Int.toNat_natCast]; omega))) (And.intro (fun q => ?_) (fun q => ?_))
      · omega
      · refine hA 2 _ rfl _ _ _ _ _ ?_
        refine Exists.intro _ (And.intro (by first | assumption | exact st_s | exact st_e (by decide) (by assumption) | exact st_e (by omega) (by assumption) | exact st_e (by decide) st_s | exact st_e (by omega) st_s | exact st_e (by decide) (st_e (by decide) (by assumption)) | exact st_e (by omega) (st_e (by omega) (by assumption))) (And.intro rfl (ab_inv_ev (c_contains hB i (by omega)) (by decide) (Nat.le_refl _) (Nat.le_refl _) ?_)))
        refine And.intro (by first | assumption | exact b2i_R _ | exact rR (by omega) (by omega) | exact rR (by simp only [Int.toNat_natCast]; omega) (by simp only [Int.toNat_natCast]; omega)) (And.intro (fun q => ?_) (fun q => ?_))
        · refine hA 4 _ rfl _ _ _ _ _ ?_
          refine k5 _ ?_
          show (0 : Int) = (((if bit g i then run (bit g) i + 1 else 0) : Nat) : Int)
          rw [b2i_0 q]
          rfl
        · refine hA 3 _ rfl _ _ _ _ _ ?_
          refine k5 _ ?_
          show (_ : Int) = (((if bit g i then run (bit g) i + 1 else 0) : Nat) : Int)
          rw [b2i_1 q]
          rfl
  refine hA 0 _ rfl _ _ _ _ _ ?_
  exact loop 1500 0 (by omega)
def meas (g : Nat → Nat) (u : Nat) : Nat → Int
  | 0 => cnt (bit g) 1500
  | 1 => cnt (sw g) u
  | 2 => cnt (fun i => lit (g i)) u
  | 3 => (cnt (sw g) u : Int) - cnt (fun i => lit (g i)) u
  | 4 => sr (bit g) 0 1500
  | 5 => sl (bit g) 1500
  | 6 => stc (bit g) 1500
  | _ => lng (bit g) 1500
set_option maxRecDepth 100000 in
set_option maxHeartbeats 1000000 in
theorem c_measure (hB : IsB σ h g) (k u : Nat) (hk : k < 8) (hu : u ≤ 100) : ab_ev 3 yX2_measure [rf h, .inl k, .inl u] σ (some (.inl (meas g u k))) σ := by
  have h1 := hB.1
  refine eX2_measure rfl (fun At hA => ?_)
  refine hA 0 _ rfl _ _ _ _ _ ?_
  refine And.intro (by first | assumption | exact b2i_R _ | exact rR (by omega) (by omega) | exact rR (by simp only [Int.toNat_natCast]; omega) (by simp only [Int.toNat_natCast]; omega)) ?_
  have k1 : k = 0 → At 1 [some (rf h), some (.inl k), some (.inl u)] [] σ 0 0 := fun e => by
    subst e
    refine hA 1 _ rfl _ _ _ _ _ ?_
    refine Exists.intro _ (And.intro (by first | assumption | exact st_s | exact st_e (by decide) (by assumption) | exact st_e (by omega) (by assumption) | exact st_e (by decide) st_s | exact st_e (by omega) st_s | exact st_e (by decide) (st_e (by decide) (by assumption)) | exact st_e (by omega) (st_e (by omega) (by assumption))) (And.intro rfl (ab_inv_ev (c_count hB) (by decide) (Nat.le_refl _) (Nat.le_refl _) ?_)))
    exact ⟨rfl, rfl⟩
  have k2 : k = 1 → At 2 [some (rf h), some (.inl k), some (.inl u)] [] σ 0 0 := fun e => by
    subst e
    refine hA 2 _ rfl _ _ _ _ _ ?_
    refine Exists.intro _ (And.intro (by first | assumption | exact st_s | exact st_e (by decide) (by assumption) | exact st_e (by omega) (by assumption) | exact st_e (by decide) st_s | exact st_e (by omega) st_s | exact st_e (by decide) (st_e (by decide) (by assumption)) | exact st_e (by omega) (st_e (by omega) (by assumption))) (And.intro rfl (ab_inv_ev (c_wordCount hB u hu) (by decide) (Nat.le_refl _) (Nat.le_refl _) ?_)))
    exact ⟨rfl, rfl⟩
  have k3 : k = 2 → At 3 [some (rf h), some (.inl k), some (.inl u)] [] σ 0 0 := fun e => by
    subst e
    refine hA 3 _ rfl _ _ _ _ _ ?_
    refine Exists.intro _ (And.intro (by first | assumption | exact st_s | exact st_e (by decide) (by assumption) | exact st_e (by omega) (by assumption) | exact st_e (by decide) st_s | exact st_e (by omega) st_s | exact st_e (by decide) (st_e (by decide) (by assumption)) | exact st_e (by omega) (st_e (by omega) (by assumption))) (And.intro rfl (ab_inv_ev (c_literalCount hB u hu) (by decide) (Nat.le_refl _) (Nat.le_refl _) ?_)))
    exact ⟨rfl, rfl⟩
  have k4 : k = 3 → At 4 [some (rf h), some (.inl k), some (.inl u)] [] σ 0 0 := fun e => by
    subst e
    refine hA 4 _ rfl _ _ _ _ _ ?_
    refine Exists.intro _ (And.intro (by first | assumption | exact st_s | exact st_e (by decide) (by assumption) | exact st_e (by omega) (by assumption) | exact st_e (by decide) st_s | exact st_e (by omega) st_s | exact st_e (by decide) (st_e (by decide) (by assumption)) | exact st_e (by omega) (st_e (by omega) (by assumption))) (And.intro rfl (ab_inv_ev (c_wordCount hB u hu) (by decide) (Nat.le_refl _) (Nat.le_refl _) ?_)))
    refine Exists.intro _ (And.intro (by first | assumption | exact st_s | exact st_e (by decide) (by assumption) | exact st_e (by omega) (by assumption) | exact st_e (by decide) st_s | exact st_e (by omega) st_s | exact st_e (by decide) (st_e (by decide) (by assumption)) | exact st_e (by omega) (st_e (by omega) (by assumption))) (And.intro rfl (ab_inv_ev (c_literalCount hB u hu) (by decide) (Nat.le_refl _) (Nat.le_refl _) ?_)))
    exact ⟨rfl, rfl⟩
  have k5 : k = 4 → At 5 [some (rf h), some (.inl k), some (.inl u)] [] σ 0 0 := fun e => by
    subst e
    refine hA 5 _ rfl _ _ _ _ _ ?_
    refine Exists.intro _ (And.intro (by first | assumption | exact st_s | exact st_e (by decide) (by assumption) | exact st_e (by omega) (by assumption) | exact st_e (by decide) st_s | exact st_e (by omega) st_s | exact st_e (by decide) (st_e (by decide) (by assumption)) | exact st_e (by omega) (st_e (by omega) (by assumption))) (And.intro rfl (ab_inv_ev (c_firstRowFrom hB 0 (by omega)) (by decide) (Nat.le_refl _) (Nat.le_refl _) ?_)))
    exact ⟨rfl, rfl⟩
  have k6 : k = 5 → At 6 [some (rf h), some (.inl k), some (.inl u)] [] σ 0 0 := fun e => by
    subst e
    refine hA 6 _ rfl _ _ _ _ _ ?_
    refine Exists.intro _ (And.intro (by first | assumption | exact st_s | exact st_e (by decide) (by assumption) | exact st_e (by omega) (by assumption) | exact st_e (by decide) st_s | exact st_e (by omega) st_s | exact st_e (by decide) (st_e (by decide) (by assumption)) | exact st_e (by omega) (st_e (by omega) (by assumption))) (And.intro rfl (ab_inv_ev (c_lastRow hB) (by decide) (Nat.le_refl _) (Nat.le_refl _) ?_)))
    exact ⟨rfl, rfl⟩
  have k7 : k = 6 → At 7 [some (rf h), some (.inl k), some (.inl u)] [] σ 0 0 := fun e => by
    subst e
    refine hA 7 _ rfl _ _ _ _ _ ?_
    refine Exists.intro _ (And.intro (by first | assumption | exact st_s | exact st_e (by decide) (by assumption) | exact st_e (by omega) (by assumption) | exact st_e (by decide) st_s | exact st_e (by omega) st_s | exact st_e (by decide) (st_e (by decide) (by assumption)) | exact st_e (by omega) (st_e (by omega) (by assumption))) (And.intro rfl (ab_inv_ev (c_stretchCount hB) (by decide) (Nat.le_refl _) (Nat.le_refl _) ?_)))
    exact ⟨rfl, rfl⟩
  have k8 : k = 7 → At 8 [some (rf h), some (.inl k), some (.inl u)] [] σ 0 0 := fun e => by
    subst e
    refine hA 8 _ rfl _ _ _ _ _ ?_
    refine Exists.intro _ (And.intro (by first | assumption | exact st_s | exact st_e (by decide) (by assumption) | exact st_e (by omega) (by assumption) | exact st_e (by decide) st_s | exact st_e (by omega) st_s | exact st_e (by decide) (st_e (by decide) (by assumption)) | exact st_e (by omega) (st_e (by omega) (by assumption))) (And.intro rfl (ab_inv_ev (c_longestStretch hB) (by decide) (Nat.le_refl _) (Nat.le_refl _) ?_)))
    exact ⟨rfl, rfl⟩
  exact And.intro (fun q => k1 (by omega)) (fun q0 => And.intro (fun q => k2 (by omega)) (fun q1 => And.intro (fun q => k3 (by omega)) (fun q2 => And.intro (fun q => k4 (by omega)) (fun q3 => And.intro (fun q => k5 (by omega)) (fun q4 => And.intro (fun q => k6 (by omega)) (fun q5 => And.intro (fun q => k7 (by omega)) (fun q6 => k8 (by omega))))))))
end Bm5
