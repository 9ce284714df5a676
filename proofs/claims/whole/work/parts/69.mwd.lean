-- ===== the model: words, as the class tells them =====
theorem sort_lit {z : Nat} : lit z = decide (sort3 z = 2) := by
  unfold sort3
  by_cases h0 : z = 0
  · rw [if_pos h0, h0]; rfl
  · rw [if_neg h0]
    by_cases h1 : z = 32767
    · rw [if_pos h1, h1]; rfl
    · rw [if_neg h1, lit_y h0 h1]; rfl
theorem sort_le (z : Nat) : sort3 z ≤ 2 := by unfold sort3; split <;> (try split) <;> omega
theorem sort_eq {y z : Nat} (h : sort3 z < 2) : sort3 y = sort3 z ↔ y = z := by
  unfold sort3 at *
  by_cases y0 : y = 0 <;> by_cases z0 : z = 0 <;> by_cases y1 : y = 32767 <;> by_cases z1 : z = 32767 <;> simp [y0, z0, y1, z1] at h ⊢ <;> omega
/-- the next place that begins a word -/
theorem str_rn {g : Nat → Nat} {u i : Nat} (h : sort3 (g i) < 2) : ∀ m l, l + m = u - i → 1 ≤ l → i < u → g (i + l - 1) = g i → i + str g u i m l = rn (fun j => !sw g j) (i + l) m := by
  intro m
  induction m with
  | zero => intro l _ _ _ _; rfl
  | succ m ih =>
    intro l hl h1 hu hp
    have e1 : str g u i (m + 1) l = if i + l < u ∧ sort3 (g (i + l)) = sort3 (g i) then str g u i m (l + 1) else l := rfl
    have e2 : rn (fun j => !sw g j) (i + l) (m + 1) = if (!sw g (i + l)) = true then rn (fun j => !sw g j) (i + l + 1) m else i + l := rfl
    have hl0 : lit (g (i + l - 1)) = false := by
      rw [hp, sort_lit]
      exact decide_eq_false (by omega)
    have hsw : sw g (i + l) = (g (i + l) != g i) := by
      have := sw_sc (i := i + l - 1) hl0
      rw [show i + l - 1 + 1 = i + l by omega, hp] at this
      exact this
    rw [e1, e2]
    by_cases e : g (i + l) = g i
    · rw [if_pos ⟨by omega, by rw [e]⟩, if_pos (by rw [hsw, e]; simp)]
      exact ih (l + 1) (by omega) (by omega) hu (by rw [show i + (l + 1) - 1 = i + l by omega]; exact e)
    · rw [if_neg (fun q => e ((sort_eq h).mp q.2)), if_neg (by rw [hsw, bne_iff_ne.mpr e]; simp)]
theorem strN_wen {g : Nat → Nat} {u i : Nat} (hi : i < u) : i + strN g u i = wen g u i := by
  unfold strN
  by_cases h : sort3 (g i) < 2
  · rw [if_pos h]
    have e1 : str g u i (u - i) 1 = str g u i (u - (i + 1) + 1) 1 := by rw [show u - i = u - (i + 1) + 1 by omega]
    have := str_rn h (u - (i + 1)) 1 (by omega) (Nat.le_refl _) hi (by rw [Nat.add_sub_cancel])
    unfold wen
    rw [← this]
    have e3 : ∀ m l, l + m = u - i → 1 ≤ l → str g u i (m + 1) l = str g u i m l := by
      intro m
      induction m with
      | zero =>
        intro l hl h1
        show (if i + l < u ∧ _ then _ else l) = l
        rw [if_neg (by omega)]
      | succ m ih =>
        intro l hl h1
        show (if i + l < u ∧ _ then str g u i (m + 1) (l + 1) else l) = (if i + l < u ∧ _ then str g u i m (l + 1) else l)
        rw [ih (l + 1) (by omega) (by omega)]
    rw [e1, e3 _ 1 (by omega) (Nat.le_refl _)]
  · rw [if_neg h]
    have hl : lit (g i) = true := by
      rw [sort_lit]
      have := sort_le (g i)
      exact decide_eq_true (by omega)
    have h2 := lit_gw (u := u) hl
    unfold gw at h2
    rw [wst_sw (sw_lit hl)] at h2
    have := (wen_sp g u i hi).1
    omega
theorem strN_pos {g : Nat → Nat} {u i : Nat} (hi : i < u) : 1 ≤ strN g u i ∧ i + strN g u i ≤ u := by
  have h1 := strN_wen (g := g) hi
  have h2 := wen_sp g u i hi
  omega
/-- behind a stretch a word begins -/
theorem wen_sw {g : Nat → Nat} {u i : Nat} (hi : i < u) (h : wen g u i < u) : sw g (wen g u i) = true := by
  have := (rn_sp (fun j => !sw g j) (u - (i + 1)) (i + 1)).2.2.2
  unfold wen at h ⊢
  have := this (by omega)
  exact (Bool.not_eq_false' ..).mp this
theorem wen_no {g : Nat → Nat} {u i j : Nat} (h1 : i < j) (h2 : j < wen g u i) : sw g j = false := by
  have := (rn_sp (fun j => !sw g j) (u - (i + 1)) (i + 1)).2.2.1 j (by omega) h2
  exact (Bool.not_eq_true' _).mp this
theorem cnt_sk {p : Nat → Bool} {i : Nat} : ∀ m, (∀ j, i ≤ j → j < i + m → p j = false) → cnt p (i + m) = cnt p i := by
  intro m
  induction m with
  | zero => intro _; rfl
  | succ m ih =>
    intro h
    show cnt p (i + m) + (p (i + m)).toNat = _
    rw [h (i + m) (by omega) (by omega), ih (fun j h1 h2 => h j h1 (by omega))]
    rfl
theorem cnt_nx {p : Nat → Bool} {i e : Nat} (h : i < e) (hp : p i = true) (hn : ∀ j, i < j → j < e → p j = false) : cnt p e = cnt p i + 1 := by
  have := cnt_sk (p := p) (i := i + 1) (e - (i + 1)) (fun j h1 h2 => hn j (by omega) (by omega))
  rw [show i + 1 + (e - (i + 1)) = e by omega, cnt_s1 hp] at this
  exact this
/-- how many words there are of a kind: all (1), literals (2), fills (3) -/
def wcP (g : Nat → Nat) (what : Nat) (i : Nat) : Bool := sw g i && (what == 1 || (lit (g i) == (what == 2)))
/-- bits above the last row are 0 -/
def hi0 (rows : Nat) (g : Nat → Nat) : Prop := (∀ i, g i < 32768) ∧ ∀ x, rows ≤ x → bit g x = false
theorem hi0_z {rows : Nat} {g : Nat → Nat} (h : hi0 rows g) {i : Nat} (hi : gu rows ≤ i) : g i = 0 := by
  have hgs := gu_sp rows
  have h2 : rows ≤ 15 * i := Nat.le_trans hgs.1 (by omega)
  refine ms_eq (h.1 i) (by decide) (fun j hj => ?_)
  rw [← bit_at g i j hj, h.2 _ (by omega), Nat.zero_testBit]
theorem cnt_hi {rows : Nat} {g : Nat → Nat} (h : hi0 rows g) (hr : rows ≤ 1500) : cnt (bit g) (15 * gu rows) = cnt (bit g) 1500 := by
  have hgs := gu_sp rows
  have hgl := gu_le hr
  have := cnt_sk (p := bit g) (i := 15 * gu rows) (1500 - 15 * gu rows) (fun j h1 _ => h.2 j (by omega))
  rw [show 15 * gu rows + (1500 - 15 * gu rows) = 1500 by omega] at this
  exact this.symm
section Mwd
variable {σ : ab_H} {t : Nat → Int} {rows : Nat}
set_option maxRecDepth 100000 in
set_option maxHeartbeats 1000000 in
theorem m_has {h : Nat} {g : Nat → Nat} (hh : σ.2 h = some (bmc g)) (hg : ∀ i, g i < 32768) (r : Nat) (hr : r < 1500) : ab_ev 1 yX10_has [rf h, .inl r] σ (some (.inl (b2i (bit g r)))) σ := by
  have e := bit_e g hg r
  refine eX10_has rfl (fun At hA => ?_)
  have k3 : ∀ z : Int, z = b2i (bit g r) → At 3 [some (rf h), some (.inl r)] [.inl z] σ 0 0 := fun z hz => by
    refine hA 3 _ rfl _ _ _ _ _ ?_
    exact And.intro (by rw [hz]; exact b2i_01 _) ⟨by rw [hz], rfl⟩
  refine hA 0 _ rfl _ _ _ _ _ ?_
  refine And.intro ⟨by omega, rR (by omega) (by omega), by omega, rR (by omega) (by omega)⟩ ?_
  refine Exists.intro _ (Exists.intro _ (And.intro (hh) (And.intro (by omega) ?_)))
  refine And.intro ⟨by omega, rR (by omega) (by omega), by omega, rR (by omega) (by omega)⟩ ?_
  refine And.intro (And.intro (e ▸ rR (by have := Bool.toNat_le (bit g r); omega) (by have := Bool.toNat_le (bit g r); omega)) (rR (by omega) (by omega))) (And.intro (fun q => ?_) (fun q => ?_))
  · have q' : ((bit g r).toNat : Int) ≠ 1 := fun c => q (e.trans c)
    refine hA 2 _ rfl _ _ _ _ _ ?_
    exact k3 _ (by cases hb : bit g r <;> rw [hb] at q' <;> simp at q' ⊢; rfl)
  · have q' : ((bit g r).toNat : Int) = 1 := e.symm.trans q
    refine hA 1 _ rfl _ _ _ _ _ ?_
    exact k3 _ (by cases hb : bit g r <;> rw [hb] at q' <;> simp at q' ⊢; rfl)
set_option maxRecDepth 100000 in
set_option maxHeartbeats 1000000 in
theorem m_sets {h : Nat} {g : Nat → Nat} (h2 : σ.2 h = some (bmc g)) (hg : ∀ i, g i < 32768) (r : Nat) (hr : r < 1500) : ab_ev 1 yX10_sets [rf h, .inl r] σ none (ab_st σ h (bmc (pt g r true))) := by
  have hgr := hg (r / 15)
  have h2p : 2 ^ (r % 15) ≤ 2 ^ 14 := Nat.pow_le_pow_right (by omega) (by omega)
  have es : ab_shl 1 ((r % 15 : Nat) : Int) = ((2 ^ (r % 15) : Nat) : Int) := by
    have := nb_shl (a := 1) (k := r % 15) (by omega) (by omega)
    rw [Nat.one_mul] at this
    exact this
  have e2 : ab_or ((g (r / 15) : Nat) : Int) (ab_shl 1 ((r % 15 : Nat) : Int)) = ((g (r / 15) ||| 2 ^ (r % 15) : Nat) : Int) := by
    rw [es, nb_or (by omega) (by omega)]
  have eu : ab_st σ h (.inr (.inl (0, 100, ab_up (fun i => ((g i : Nat) : Int)) (r / 15) (ab_or ((g (r / 15) : Nat) : Int) (ab_shl 1 ((r % 15 : Nat) : Int)))))) = ab_st σ h (bmc (pt g r true)) := by
    rw [e2]
    congr 5
    funext j
    unfold pt ab_up
    split <;> rfl
  refine eX10_sets rfl (fun At hA => ?_)
  refine hA 0 _ rfl _ _ _ _ _ ?_
  refine And.intro ⟨by omega, rR (by omega) (by omega), by omega, rR (by omega) (by omega)⟩ ?_
  refine Exists.intro _ (Exists.intro _ (And.intro (h2) (And.intro (by omega) ?_)))
  refine And.intro ⟨by omega, rR (by omega) (by omega), by omega, rR (by omega) (by omega)⟩ ?_
  refine Exists.intro _ (Exists.intro _ (And.intro (h2) (And.intro (by omega) ?_)))
  exact ⟨rfl, eu⟩
set_option maxRecDepth 100000 in
set_option maxHeartbeats 1000000 in
theorem m_many (h57 : σ.2 57 = some (m10 t)) (h13 : t 13 = rows) (hr : rows ≤ 1500) {h : Nat} {g : Nat → Nat} (hh : σ.2 h = some (bmc g)) (hg : ∀ i, g i < 32768) : ab_ev 2 yX10_many [rf 57, rf h] σ (some (.inl (cnt (bit g) (15 * gu rows)))) σ := by
  have hgl := gu_le hr
  have hgr := m_groups h57 h13 hr
  refine eX10_many rfl (fun At hA => ?_)
  have loop : ∀ n i : Nat, i + n = gu rows → At 1 [some (rf 57), some (rf h), some (.inl (cnt (bit g) (15 * i))), some (.inl i)] [] σ 0 0 := by
    intro n
    induction n with
    | zero =>
      intro i hi
      refine hA 1 _ rfl _ _ _ _ _ ?_
      refine Exists.intro _ (And.intro (by first | assumption | exact st_s | exact st_e (by decide) (by assumption) | exact st_e (by omega) (by assumption) | exact st_e (by decide) st_s | exact st_e (by omega) st_s | exact st_e (by decide) (st_e (by decide) (by assumption)) | exact st_e (by omega) (st_e (by omega) (by assumption))) (And.intro rfl (ab_inv_ev hgr (by first | decide | omega) (by first | exact Nat.le_refl _ | omega) (by first | exact Nat.le_refl _ | omega) ?_)))
      refine And.intro (And.intro (by first | assumption | exact b2i_R _ | exact rR (by omega) (by omega) | exact rR (by simp only [Int.toNat_natCast]; omega) (by simp only [Int.toNat_natCast]; omega)) (by first | assumption | exact b2i_R _ | exact rR (by omega) (by omega) | exact rR (by simp only [Int.toNat_natCast]; omega) (by simp only [Int.toNat_natCast]; omega))) (And.intro (fun q => ?_) (fun q => ?_))
      · refine hA 3 _ rfl _ _ _ _ _ ?_
        exact ⟨by rw [show i = gu rows by omega], rfl⟩
      · omega
    | succ n ih =>
      intro i hi
      refine hA 1 _ rfl _ _ _ _ _ ?_
      refine Exists.intro _ (And.intro (by first | assumption | exact st_s | exact st_e (by decide) (by assumption) | exact st_e (by omega) (by assumption) | exact st_e (by decide) st_s | exact st_e (by omega) st_s | exact st_e (by decide) (st_e (by decide) (by assumption)) | exact st_e (by omega) (st_e (by omega) (by assumption))) (And.intro rfl (ab_inv_ev hgr (by first | decide | omega) (by first | exact Nat.le_refl _ | omega) (by first | exact Nat.le_refl _ | omega) ?_)))
      refine And.intro (And.intro (by first | assumption | exact b2i_R _ | exact rR (by omega) (by omega) | exact rR (by simp only [Int.toNat_natCast]; omega) (by simp only [Int.toNat_natCast]; omega)) (by first | assumption | exact b2i_R _ | exact rR (by omega) (by omega) | exact rR (by simp only [Int.toNat_natCast]; omega) (by simp only [Int.toNat_natCast]; omega))) (And.intro (fun q => ?_) (fun q => ?_))
      · omega
      · refine hA 2 _ rfl _ _ _ _ _ ?_
        refine Exists.intro _ (Exists.intro _ (And.intro (hh) (And.intro (by omega) ?_)))
        refine And.intro rfl (ab_inv_ev (m_ones (g i) (hg i)) (by first | decide | omega) (by first | exact Nat.le_refl _ | omega) (by first | exact Nat.le_refl _ | omega) ?_)
        have := ih (i + 1) (by omega)
        rw [cnt_g, Int.natCast_add] at this
        exact this
  refine hA 0 _ rfl _ _ _ _ _ ?_
  exact loop (gu rows) 0 (by omega)
set_option maxRecDepth 100000 in
set_option maxHeartbeats 1000000 in
theorem m_turns (h57 : σ.2 57 = some (m10 t)) (h13 : t 13 = rows) (hr : rows ≤ 1500) {h : Nat} (hn : 57 ≠ h) {g : Nat → Nat} (hh : σ.2 h = some (bmc g)) (hg : hi0 rows g) : ab_ev 4 yX10_turns [rf 57, rf h] σ none (ab_st σ h (bmc (tn rows g))) := by
  have hgl := gu_le hr
  have ez : mix (gu rows) (tn rows g) g = tn rows g := by
    funext j
    unfold mix
    by_cases hj : j < gu rows
    · rw [if_pos hj]
    · rw [if_neg hj]
      unfold tn
      have h1 : g j = 0 := hi0_z hg (by omega)
      have hgs := gu_sp rows
      have h2 : rg j rows = 0 := by
        unfold rg
        rw [show rows - 15 * j = 0 by omega]
        rfl
      rw [h1, h2]
      rfl
  rw [← ez]
  refine eX10_turns rfl (fun At hA => ?_)
  have loop : ∀ n i : Nat, i + n = gu rows → At 1 [some (rf 57), some (rf h), some (.inl i)] [] (ab_st σ h (bmc (mix i (tn rows g) g))) 0 0 := by
    intro n
    induction n with
    | zero =>
      intro i hi
      have q57 : (ab_st σ h (bmc (mix i (tn rows g) g))).2 57 = some (m10 t) := st_e hn h57
      refine hA 1 _ rfl _ _ _ _ _ ?_
      refine Exists.intro _ (And.intro (by first | assumption | exact st_s | exact st_e (by decide) (by assumption) | exact st_e (by omega) (by assumption) | exact st_e (by decide) st_s | exact st_e (by omega) st_s | exact st_e (by decide) (st_e (by decide) (by assumption)) | exact st_e (by omega) (st_e (by omega) (by assumption))) (And.intro rfl (ab_inv_ev (m_groups q57 h13 hr) (by first | decide | omega) (by first | exact Nat.le_refl _ | omega) (by first | exact Nat.le_refl _ | omega) ?_)))
      refine And.intro (And.intro (by first | assumption | exact b2i_R _ | exact rR (by omega) (by omega) | exact rR (by simp only [Int.toNat_natCast]; omega) (by simp only [Int.toNat_natCast]; omega)) (by first | assumption | exact b2i_R _ | exact rR (by omega) (by omega) | exact rR (by simp only [Int.toNat_natCast]; omega) (by simp only [Int.toNat_natCast]; omega))) (And.intro (fun q => ?_) (fun q => ?_))
      · refine hA 3 _ rfl _ _ _ _ _ ?_
        exact ⟨rfl, by rw [show i = gu rows by omega]⟩
      · omega
    | succ n ih =>
      intro i hi
      have q57 : (ab_st σ h (bmc (mix i (tn rows g) g))).2 57 = some (m10 t) := st_e hn h57
      refine hA 1 _ rfl _ _ _ _ _ ?_
      refine Exists.intro _ (And.intro (by first | assumption | exact st_s | exact st_e (by decide) (by assumption) | exact st_e (by omega) (by assumption) | exact st_e (by decide) st_s | exact st_e (by omega) st_s | exact st_e (by decide) (st_e (by decide) (by assumption)) | exact st_e (by omega) (st_e (by omega) (by assumption))) (And.intro rfl (ab_inv_ev (m_groups q57 h13 hr) (by first | decide | omega) (by first | exact Nat.le_refl _ | omega) (by first | exact Nat.le_refl _ | omega) ?_)))
      refine And.intro (And.intro (by first | assumption | exact b2i_R _ | exact rR (by omega) (by omega) | exact rR (by simp only [Int.toNat_natCast]; omega) (by simp only [Int.toNat_natCast]; omega)) (by first | assumption | exact b2i_R _ | exact rR (by omega) (by omega) | exact rR (by simp only [Int.toNat_natCast]; omega) (by simp only [Int.toNat_natCast]; omega))) (And.intro (fun q => ?_) (fun q => ?_))
      · omega
      · have := ih (i + 1) (by omega)
        have er := rg_lt i rows
        have eg := hg.1 i
        have e2 : ab_and ((rg i rows : Nat) : Int) (ab_xor ((mix i (tn rows g) g i : Nat) : Int) (-1)) = ((tn rows g i : Nat) : Int) := by
          rw [mix_ge (Nat.le_refl i), nb_not (by omega) (by omega)]
          rfl
        rw [show ab_st σ h (bmc (mix (i + 1) (tn rows g) g)) = ab_st (ab_st σ h (bmc (mix i (tn rows g) g))) h (.inr (.inl (0, 100, ab_up (fun j => ((mix i (tn rows g) g j : Nat) : Int)) i (ab_and ((rg i rows : Nat) : Int) (ab_xor ((mix i (tn rows g) g i : Nat) : Int) (-1)))))) by rw [st_st, e2, mix_s i (tn rows g) g _ rfl]] at this
        refine hA 2 _ rfl _ _ _ _ _ ?_
        refine Exists.intro _ (And.intro q57 (And.intro rfl (ab_inv_ev (m_whole q57 h13 hr i (by omega)) (by first | decide | omega) (by first | exact Nat.le_refl _ | omega) (by first | exact Nat.le_refl _ | omega) ?_)))
        refine Exists.intro _ (Exists.intro _ (And.intro (st_s) (And.intro (by omega) ?_)))
        refine Exists.intro _ (Exists.intro _ (And.intro (st_s) (And.intro (by omega) ?_)))
        exact this
  refine hA 0 _ rfl _ _ _ _ _ ?_
  have := loop (gu rows) 0 (by omega)
  rw [mix_0, st_id hh] at this
  exact this
set_option maxRecDepth 100000 in
set_option maxHeartbeats 1000000 in
theorem m_nextIn (h57 : σ.2 57 = some (m10 t)) (h13 : t 13 = rows) (hr : rows ≤ 1500) {h : Nat} {g : Nat → Nat} (hh : σ.2 h = some (bmc g)) (hg : ∀ i, g i < 32768) (i0 : Nat) (hi0 : i0 ≤ rows) : ab_ev 2 yX10_nextIn [rf 57, rf h, .inl i0] σ (some (.inl (sr (bit g) i0 (rows - i0)))) σ := by
  refine eX10_nextIn rfl (fun At hA => ?_)
  have loop : ∀ n i : Nat, i + n = rows → sr (bit g) i0 (rows - i0) = sr (bit g) i n → At 1 [some (rf 57), some (rf h), some (.inl i0), some (.inl i)] [] σ 0 0 := by
    intro n
    induction n with
    | zero =>
      intro i hi he
      refine hA 1 _ rfl _ _ _ _ _ ?_
      refine Exists.intro _ (And.intro (by first | assumption | exact st_s | exact st_e (by decide) (by assumption) | exact st_e (by omega) (by assumption) | exact st_e (by decide) st_s | exact st_e (by omega) st_s | exact st_e (by decide) (st_e (by decide) (by assumption)) | exact st_e (by omega) (st_e (by omega) (by assumption))) ?_)
      refine And.intro (And.intro (by first | assumption | exact b2i_R _ | exact rR (by omega) (by omega) | exact rR (by simp only [Int.toNat_natCast]; omega) (by simp only [Int.toNat_natCast]; omega)) (by first | assumption | exact b2i_R _ | exact rR (by omega) (by omega) | exact rR (by simp only [Int.toNat_natCast]; omega) (by simp only [Int.toNat_natCast]; omega))) (And.intro (fun q => ?_) (fun q => ?_))
      · refine hA 5 _ rfl _ _ _ _ _ ?_
        exact ⟨by rw [he]; rfl, rfl⟩
      · omega
    | succ n ih =>
      intro i hi he
      have e2 : sr (bit g) i (n + 1) = if bit g i then (i : Int) else sr (bit g) (i + 1) n := rfl
      refine hA 1 _ rfl _ _ _ _ _ ?_
      refine Exists.intro _ (And.intro (by first | assumption | exact st_s | exact st_e (by decide) (by assumption) | exact st_e (by omega) (by assumption) | exact st_e (by decide) st_s | exact st_e (by omega) st_s | exact st_e (by decide) (st_e (by decide) (by assumption)) | exact st_e (by omega) (st_e (by omega) (by assumption))) ?_)
      refine And.intro (And.intro (by first | assumption | exact b2i_R _ | exact rR (by omega) (by omega) | exact rR (by simp only [Int.toNat_natCast]; omega) (by simp only [Int.toNat_natCast]; omega)) (by first | assumption | exact b2i_R _ | exact rR (by omega) (by omega) | exact rR (by simp only [Int.toNat_natCast]; omega) (by simp only [Int.toNat_natCast]; omega))) (And.intro (fun q => ?_) (fun q => ?_))
      · omega
      · refine hA 2 _ rfl _ _ _ _ _ ?_
        refine And.intro rfl (ab_inv_ev (m_has hh hg i (by omega)) (by first | decide | omega) (by first | exact Nat.le_refl _ | omega) (by first | exact Nat.le_refl _ | omega) ?_)
        refine And.intro (by first | assumption | exact b2i_R _ | exact rR (by omega) (by omega) | exact rR (by simp only [Int.toNat_natCast]; omega) (by simp only [Int.toNat_natCast]; omega)) (And.intro (fun q => ?_) (fun q => ?_))
        · refine hA 4 _ rfl _ _ _ _ _ ?_
          refine ih (i + 1) (by omega) ?_
          rw [he, e2, if_neg (by rw [b2i_0 q]; simp)]
        · refine hA 3 _ rfl _ _ _ _ _ ?_
          exact ⟨by rw [he, e2, if_pos (b2i_1 q)], rfl⟩
  refine hA 0 _ rfl _ _ _ _ _ ?_
  exact loop (rows - i0) i0 (by omega) rfl
set_option maxRecDepth 100000 in
set_option maxHeartbeats 1000000 in
theorem m_lastIn (h57 : σ.2 57 = some (m10 t)) (h13 : t 13 = rows) (hr : rows ≤ 1500) {h : Nat} {g : Nat → Nat} (hh : σ.2 h = some (bmc g)) (hg : ∀ i, g i < 32768) : ab_ev 2 yX10_lastIn [rf 57, rf h] σ (some (.inl (sl (bit g) rows))) σ := by
  refine eX10_lastIn rfl (fun At hA => ?_)
  have loop : ∀ (n : Nat) (z : Int), n ≤ rows → z = (n : Int) - 1 → sl (bit g) rows = sl (bit g) n → At 1 [some (rf 57), some (rf h), some (.inl z)] [] σ 0 0 := by
    intro n
    induction n with
    | zero =>
      intro z hi hz he
      refine hA 1 _ rfl _ _ _ _ _ ?_
      refine And.intro (by first | assumption | exact b2i_R _ | exact rR (by omega) (by omega) | exact rR (by simp only [Int.toNat_natCast]; omega) (by simp only [Int.toNat_natCast]; omega)) (And.intro (fun q => ?_) (fun q => ?_))
      · refine hA 5 _ rfl _ _ _ _ _ ?_
        exact ⟨by rw [he]; rfl, rfl⟩
      · omega
    | succ n ih =>
      intro z hi hz he
      have hz : z = (n : Int) := by omega
      subst hz
      have e2 : sl (bit g) (n + 1) = if bit g n then (n : Int) else sl (bit g) n := rfl
      refine hA 1 _ rfl _ _ _ _ _ ?_
      refine And.intro (by first | assumption | exact b2i_R _ | exact rR (by omega) (by omega) | exact rR (by simp only [Int.toNat_natCast]; omega) (by simp only [Int.toNat_natCast]; omega)) (And.intro (fun q => ?_) (fun q => ?_))
      · omega
      · refine hA 2 _ rfl _ _ _ _ _ ?_
        refine And.intro rfl (ab_inv_ev (m_has hh hg n (by omega)) (by first | decide | omega) (by first | exact Nat.le_refl _ | omega) (by first | exact Nat.le_refl _ | omega) ?_)
        refine And.intro (by first | assumption | exact b2i_R _ | exact rR (by omega) (by omega) | exact rR (by simp only [Int.toNat_natCast]; omega) (by simp only [Int.toNat_natCast]; omega)) (And.intro (fun q => ?_) (fun q => ?_))
        · refine hA 4 _ rfl _ _ _ _ _ ?_
          refine ih _ (by omega) (by omega) ?_
          rw [he, e2, if_neg (by rw [b2i_0 q]; simp)]
        · refine hA 3 _ rfl _ _ _ _ _ ?_
          exact ⟨by rw [he, e2, if_pos (b2i_1 q)], rfl⟩
  refine hA 0 _ rfl _ _ _ _ _ ?_
  refine Exists.intro _ (And.intro (by first | assumption | exact st_s | exact st_e (by decide) (by assumption) | exact st_e (by omega) (by assumption) | exact st_e (by decide) st_s | exact st_e (by omega) st_s | exact st_e (by decide) (st_e (by decide) (by assumption)) | exact st_e (by omega) (st_e (by omega) (by assumption))) ?_)
  exact loop rows _ (Nat.le_refl _) (by omega) rfl
set_option maxRecDepth 100000 in
set_option maxHeartbeats 1000000 in
theorem m_words (h57 : σ.2 57 = some (m10 t)) (h13 : t 13 = rows) (hr : rows ≤ 1500) {h : Nat} {g : Nat → Nat} (hh : σ.2 h = some (bmc g)) (hg : ∀ i, g i < 32768) (what : Nat) (hw : what < 4) : ab_ev 4 yX10_words [rf 57, rf h, .inl what] σ (some (.inl (cnt (wcP g what) (gu rows)))) σ := by
  have hgl := gu_le hr
  have hgr := m_groups h57 h13 hr
  have hwl := cnt_le (wcP g what)
  have hs := fun j (hj : j < 100) => m_sort (σ := σ) (N := 100) hh hj (by decide) (hg j)
  have hst := fun j (hj : j < gu rows) => m_stretch h57 h13 hr hh hg j hj
  refine eX10_words rfl (fun At hA => ?_)
  have loop : ∀ (n i : Nat) (y : Option ab_V), i + n = gu rows → (i < gu rows → sw g i = true) → At 1 [some (rf 57), some (rf h), some (.inl what), some (.inl (cnt (wcP g what) i)), some (.inl i), y] [] σ 0 0 := by
    intro n
    induction n using Nat.strongRecOn with
    | ind n ih =>
      intro i y hi hsw
      have hwi := hwl i
      by_cases hlt : i < gu rows
      · have hsi := hsw hlt
        have hsp := strN_pos (g := g) hlt
        have hwe := strN_wen (g := g) hlt
        have h3 := sort_le (g i)
        have hl := sort_lit (z := g i)
        have hgo : ∀ b : Nat, b = (wcP g what i).toNat → ∀ y, At 12 [some (rf 57), some (rf h), some (.inl what), some (.inl (cnt (wcP g what) i)), some (.inl i), y] [.inl b, .inl (cnt (wcP g what) i)] σ 0 0 := fun b hb y => by
          have := ih (gu rows - (i + strN g (gu rows) i)) (by omega) (i + strN g (gu rows) i) y (by omega) (fun h2 => by rw [hwe] at h2 ⊢; exact wen_sw hlt h2)
          have ec : cnt (wcP g what) (i + strN g (gu rows) i) = cnt (wcP g what) i + b := by
            have := cnt_sk (p := wcP g what) (i := i + 1) (wen g (gu rows) i - (i + 1)) (fun j h1 h2 => by unfold wcP; rw [wen_no (g := g) (u := gu rows) (i := i) (by omega) (by omega)]; rfl)
            rw [show i + 1 + (wen g (gu rows) i - (i + 1)) = wen g (gu rows) i by omega] at this
            rw [hwe, this, hb]
            rfl
          rw [ec, Int.natCast_add, Int.natCast_add] at this
          refine hA 12 _ rfl _ _ _ _ _ ?_
          refine Exists.intro _ (And.intro (by first | assumption | exact st_s | exact st_e (by decide) (by assumption) | exact st_e (by omega) (by assumption) | exact st_e (by decide) st_s | exact st_e (by omega) st_s | exact st_e (by decide) (st_e (by decide) (by assumption)) | exact st_e (by omega) (st_e (by omega) (by assumption))) (And.intro rfl (ab_inv_ev (hst i hlt) (by first | decide | omega) (by first | exact Nat.le_refl _ | omega) (by first | exact Nat.le_refl _ | omega) ?_)))
          exact this
        have h5 : ∀ z : Int, z = b2i (lit (g i)) → ∀ y, At 5 [some (rf 57), some (rf h), some (.inl what), some (.inl (cnt (wcP g what) i)), some (.inl i), y] [.inl z] σ 0 0 := fun z hz y => by
          have hz1 : z = 0 ∨ z = 1 := by rw [hz]; exact b2i_01 _
          have h10 : wcP g what i = true → ∀ y, At 10 [some (rf 57), some (rf h), some (.inl what), some (.inl (cnt (wcP g what) i)), some (.inl i), y] [.inl (cnt (wcP g what) i)] σ 0 0 := fun hb y => by
            refine hA 10 _ rfl _ _ _ _ _ ?_
            exact hgo 1 (by rw [hb]; rfl) y
          have h11 : wcP g what i = false → ∀ y, At 11 [some (rf 57), some (rf h), some (.inl what), some (.inl (cnt (wcP g what) i)), some (.inl i), y] [.inl (cnt (wcP g what) i)] σ 0 0 := fun hb y => by
            refine hA 11 _ rfl _ _ _ _ _ ?_
            exact hgo 0 (by rw [hb]; rfl) y
          refine hA 5 _ rfl _ _ _ _ _ ?_
          refine And.intro (And.intro (by first | assumption | exact b2i_R _ | exact rR (by omega) (by omega) | exact rR (by simp only [Int.toNat_natCast]; omega) (by simp only [Int.toNat_natCast]; omega)) (by first | assumption | exact b2i_R _ | exact rR (by omega) (by omega) | exact rR (by simp only [Int.toNat_natCast]; omega) (by simp only [Int.toNat_natCast]; omega))) (And.intro (fun q => ?_) (fun q => ?_))
          · have hw1 : what = 1 := by omega
            exact h10 (by unfold wcP; rw [hsi, hw1]; rfl) _
          · have hw1 : what ≠ 1 := by omega
            have hwb : (what == 1) = false := beq_eq_false_iff_ne.mpr hw1
            refine hA 6 _ rfl _ _ _ _ _ ?_
            refine And.intro (And.intro (by first | assumption | exact b2i_R _ | exact rR (by omega) (by omega) | exact rR (by simp only [Int.toNat_natCast]; omega) (by simp only [Int.toNat_natCast]; omega)) (by first | assumption | exact b2i_R _ | exact rR (by omega) (by omega) | exact rR (by simp only [Int.toNat_natCast]; omega) (by simp only [Int.toNat_natCast]; omega))) (And.intro (fun q => ?_) (fun q => ?_))
            · have hw2 : what ≠ 2 := by omega
              have hwc : (what == 2) = false := beq_eq_false_iff_ne.mpr hw2
              refine hA 8 _ rfl _ _ _ _ _ ?_
              refine hA 9 _ rfl _ _ _ _ _ ?_
              refine And.intro (And.intro (by first | assumption | exact b2i_R _ | exact rR (by omega) (by omega) | exact rR (by simp only [Int.toNat_natCast]; omega) (by simp only [Int.toNat_natCast]; omega)) (by first | assumption | exact b2i_R _ | exact rR (by omega) (by omega) | exact rR (by simp only [Int.toNat_natCast]; omega) (by simp only [Int.toNat_natCast]; omega))) (And.intro (fun q => ?_) (fun q => ?_))
              · exact h11 (by unfold wcP; rw [hsi, hwb, hwc]; cases hh2 : lit (g i) <;> rw [hh2] at hz <;> simp [b2i] at hz ⊢; omega) _
              · exact h10 (by unfold wcP; rw [hsi, hwb, hwc]; cases hh2 : lit (g i) <;> rw [hh2] at hz <;> simp [b2i] at hz ⊢; omega) _
            · have hw2 : what = 2 := by omega
              have hwc : (what == 2) = true := by rw [hw2]; rfl
              refine hA 7 _ rfl _ _ _ _ _ ?_
              refine hA 9 _ rfl _ _ _ _ _ ?_
              refine And.intro (And.intro (by first | assumption | exact b2i_R _ | exact rR (by omega) (by omega) | exact rR (by simp only [Int.toNat_natCast]; omega) (by simp only [Int.toNat_natCast]; omega)) (by first | assumption | exact b2i_R _ | exact rR (by omega) (by omega) | exact rR (by simp only [Int.toNat_natCast]; omega) (by simp only [Int.toNat_natCast]; omega))) (And.intro (fun q => ?_) (fun q => ?_))
              · exact h11 (by unfold wcP; rw [hsi, hwb, hwc]; cases hh2 : lit (g i) <;> rw [hh2] at hz <;> simp [b2i] at hz ⊢; omega) _
              · exact h10 (by unfold wcP; rw [hsi, hwb, hwc]; cases hh2 : lit (g i) <;> rw [hh2] at hz <;> simp [b2i] at hz ⊢; omega) _
        refine hA 1 _ rfl _ _ _ _ _ ?_
        refine Exists.intro _ (And.intro (by first | assumption | exact st_s | exact st_e (by decide) (by assumption) | exact st_e (by omega) (by assumption) | exact st_e (by decide) st_s | exact st_e (by omega) st_s | exact st_e (by decide) (st_e (by decide) (by assumption)) | exact st_e (by omega) (st_e (by omega) (by assumption))) (And.intro rfl (ab_inv_ev hgr (by first | decide | omega) (by first | exact Nat.le_refl _ | omega) (by first | exact Nat.le_refl _ | omega) ?_)))
        refine And.intro (And.intro (by first | assumption | exact b2i_R _ | exact rR (by omega) (by omega) | exact rR (by simp only [Int.toNat_natCast]; omega) (by simp only [Int.toNat_natCast]; omega)) (by first | assumption | exact b2i_R _ | exact rR (by omega) (by omega) | exact rR (by simp only [Int.toNat_natCast]; omega) (by simp only [Int.toNat_natCast]; omega))) (And.intro (fun q => ?_) (fun q => ?_))
        · omega
        · refine hA 2 _ rfl _ _ _ _ _ ?_
          refine And.intro rfl (ab_inv_ev (hs i (by omega)) (by first | decide | omega) (by first | exact Nat.le_refl _ | omega) (by first | exact Nat.le_refl _ | omega) ?_)
          refine And.intro (And.intro (by first | assumption | exact b2i_R _ | exact rR (by omega) (by omega) | exact rR (by simp only [Int.toNat_natCast]; omega) (by simp only [Int.toNat_natCast]; omega)) (by first | assumption | exact b2i_R _ | exact rR (by omega) (by omega) | exact rR (by simp only [Int.toNat_natCast]; omega) (by simp only [Int.toNat_natCast]; omega))) (And.intro (fun q => ?_) (fun q => ?_))
          · refine hA 4 _ rfl _ _ _ _ _ ?_
            exact h5 0 (by rw [hl, decide_eq_false (by omega)]; rfl) _
          · refine hA 3 _ rfl _ _ _ _ _ ?_
            exact h5 1 (by rw [hl, decide_eq_true (by omega)]; rfl) _
      · have hi2 : i = gu rows := by omega
        refine hA 1 _ rfl _ _ _ _ _ ?_
        refine Exists.intro _ (And.intro (by first | assumption | exact st_s | exact st_e (by decide) (by assumption) | exact st_e (by omega) (by assumption) | exact st_e (by decide) st_s | exact st_e (by omega) st_s | exact st_e (by decide) (st_e (by decide) (by assumption)) | exact st_e (by omega) (st_e (by omega) (by assumption))) (And.intro rfl (ab_inv_ev hgr (by first | decide | omega) (by first | exact Nat.le_refl _ | omega) (by first | exact Nat.le_refl _ | omega) ?_)))
        refine And.intro (And.intro (by first | assumption | exact b2i_R _ | exact rR (by omega) (by omega) | exact rR (by simp only [Int.toNat_natCast]; omega) (by simp only [Int.toNat_natCast]; omega)) (by first | assumption | exact b2i_R _ | exact rR (by omega) (by omega) | exact rR (by simp only [Int.toNat_natCast]; omega) (by simp only [Int.toNat_natCast]; omega))) (And.intro (fun q => ?_) (fun q => ?_))
        · refine hA 13 _ rfl _ _ _ _ _ ?_
          exact ⟨by rw [hi2], rfl⟩
        · omega
  refine hA 0 _ rfl _ _ _ _ _ ?_
  exact loop (gu rows) 0 _ (by omega) (fun _ => rfl)
end Mwd
