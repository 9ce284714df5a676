-- ===== the model: words by their place, steps, what is told of a bitmap =====
theorem rn_eq {p : Nat → Bool} {i n r : Nat} (h1 : i ≤ r) (h2 : r < i + n) (hp : p r = false) (hb : ∀ j, i ≤ j → j < r → p j = true) : rn p i n = r := by
  obtain ⟨k1, k2, k3, k4⟩ := rn_sp p n i
  rcases Nat.lt_trichotomy (rn p i n) r with h | h | h
  · have := k4 (by omega)
    rw [hb _ k1 h] at this
    cases this
  · exact h
  · rw [k3 r h1 h] at hp
    cases hp
theorem wps_eq {g : Nat → Nat} {u i : Nat} (hi : i < u) (hs : sw g i = true) : wps g u (cnt (sw g) i) = i := by
  unfold wps
  refine rn_eq (Nat.zero_le _) (by omega) ?_ (fun j _ hj => ?_)
  · rw [hs, beq_self_eq_true]; rfl
  · by_cases h : sw g j = true
    · have := cnt_lt hj h
      rw [h, beq_eq_false_iff_ne.mpr (by omega)]
      rfl
    · rw [Bool.eq_false_iff.mpr h]
      rfl
theorem cnt_wc1 (g : Nat → Nat) (u : Nat) : cnt (wcP g 1) u = cnt (sw g) u := cnt_ext u (fun r _ => by unfold wcP; rw [show ((1 : Nat) == 1) = true from rfl, Bool.true_or, Bool.and_true])
theorem cnt_wc2 (g : Nat → Nat) (u : Nat) : cnt (wcP g 2) u = cnt (fun i => lit (g i)) u := cnt_ext u (fun r _ => by
  unfold wcP
  cases h : lit (g r)
  · simp
  · rw [sw_lit h]; rfl)
theorem cnt_wc3 (g : Nat → Nat) : ∀ u, cnt (wcP g 3) u + cnt (fun i => lit (g i)) u = cnt (sw g) u := by
  intro u
  induction u with
  | zero => rfl
  | succ u ih =>
    show cnt (wcP g 3) u + (wcP g 3 u).toNat + (cnt (fun i => lit (g i)) u + (lit (g u)).toNat) = cnt (sw g) u + (sw g u).toNat
    have : (wcP g 3 u).toNat + (lit (g u)).toNat = (sw g u).toNat := by
      unfold wcP
      cases h : lit (g u)
      · simp
      · rw [sw_lit h]; rfl
    omega
theorem sr_cut {p : Nat → Bool} {rows : Nat} (h : ∀ x, rows ≤ x → p x = false) : ∀ (n i m : Nat), i + n = rows → n ≤ m → sr p i m = sr p i n := by
  intro n
  induction n with
  | zero => intro i m hi _; exact sr_no m i (fun s h1 _ => h s (by omega))
  | succ n ih =>
    intro i m hi hm
    obtain ⟨m, rfl⟩ : ∃ k, m = k + 1 := ⟨m - 1, by omega⟩
    show (if p i then (i : Int) else sr p (i + 1) m) = if p i then (i : Int) else sr p (i + 1) n
    rw [ih (i + 1) m (by omega) (by omega)]
theorem sl_cut {p : Nat → Bool} {rows : Nat} (h : ∀ x, rows ≤ x → p x = false) : ∀ m, sl p (rows + m) = sl p rows := by
  intro m
  induction m with
  | zero => rfl
  | succ m ih =>
    show (if p (rows + m) then ((rows + m : Nat) : Int) else sl p (rows + m)) = _
    rw [h _ (by omega), if_neg (by simp), ih]
theorem lng_cut {p : Nat → Bool} {rows : Nat} (h : ∀ x, rows ≤ x → p x = false) : ∀ m, lng p (rows + m) = lng p rows := by
  intro m
  induction m with
  | zero => rfl
  | succ m ih =>
    show max (lng p (rows + m)) (if p (rows + m) then run p (rows + m) + 1 else 0) = _
    rw [h _ (by omega), if_neg (by simp), ih]
    exact Nat.max_zero _
theorem stc_cut {p : Nat → Bool} {rows : Nat} (h : ∀ x, rows ≤ x → p x = false) (m : Nat) : stc p (rows + m) = stc p rows := cnt_sk m (fun j h1 _ => by rw [h j h1]; rfl)
theorem run_pv (p : Nat → Bool) (r : Nat) : run p r = 0 ↔ pv p r = false := by
  cases r with
  | zero => exact ⟨fun _ => rfl, fun _ => rfl⟩
  | succ r =>
    show (if p r then run p r + 1 else 0) = 0 ↔ p r = false
    cases h : p r
    · simp
    · simp
section Mwa
variable {σ : ab_H} {t : Nat → Int} {rows : Nat}
set_option maxRecDepth 100000 in
set_option maxHeartbeats 1000000 in
theorem m_wordAt (h57 : σ.2 57 = some (m10 t)) (h13 : t 13 = rows) (hr : rows ≤ 1500) {h : Nat} {g : Nat → Nat} (hh : σ.2 h = some (bmc g)) (hg : ∀ i, g i < 32768) (k : Nat) (hk : k < cnt (sw g) (gu rows)) : ab_ev 4 yX10_wordAt [rf 57, rf h, .inl k] σ (some (.inl (wrd g (gu rows) (wps g (gu rows) k)))) σ := by
  have hgl := gu_le hr
  have hgr := m_groups h57 h13 hr
  have hwl := cnt_le (sw g)
  have hwk := hwl (gu rows)
  have hs := fun j (hj : j < 100) => m_sort (σ := σ) (N := 100) hh hj (by decide) (hg j)
  have hst := fun j (hj : j < gu rows) => m_stretch h57 h13 hr hh hg j hj
  refine eX10_wordAt rfl (fun At hA => ?_)
  have loop : ∀ (n i : Nat), i + n = gu rows → (i < gu rows → sw g i = true) → cnt (sw g) i ≤ k → At 1 [some (rf 57), some (rf h), some (.inl k), some (.inl (cnt (sw g) i)), some (.inl i)] [] σ 0 0 := by
    intro n
    induction n using Nat.strongRecOn with
    | ind n ih =>
      intro i hi hsw hik
      have hwi := hwl i
      by_cases hlt : i < gu rows
      · have hsi := hsw hlt
        have hsp := strN_pos (g := g) hlt
        have hwe := strN_wen (g := g) hlt
        have h3 := sort_le (g i)
        have hl := sort_lit (z := g i)
        have hgi := hg i
        refine hA 1 _ rfl _ _ _ _ _ ?_
        refine Exists.intro _ (And.intro (by first | assumption | exact st_s | exact st_e (by decide) (by assumption) | exact st_e (by omega) (by assumption) | exact st_e (by decide) st_s | exact st_e (by omega) st_s | exact st_e (by decide) (st_e (by decide) (by assumption)) | exact st_e (by omega) (st_e (by omega) (by assumption))) (And.intro rfl (ab_inv_ev hgr (by first | decide | omega) (by first | exact Nat.le_refl _ | omega) (by first | exact Nat.le_refl _ | omega) ?_)))
        refine And.intro (And.intro (by first | assumption | exact b2i_R _ | exact rR (by omega) (by omega) | exact rR (by simp only [Int.toNat_natCast]; omega) (by simp only [Int.toNat_natCast]; omega)) (by first | assumption | exact b2i_R _ | exact rR (by omega) (by omega) | exact rR (by simp only [Int.toNat_natCast]; omega) (by simp only [Int.toNat_natCast]; omega))) (And.intro (fun q => ?_) (fun q => ?_))
        · omega
        · refine hA 2 _ rfl _ _ _ _ _ ?_
          refine And.intro (And.intro (by first | assumption | exact b2i_R _ | exact rR (by omega) (by omega) | exact rR (by simp only [Int.toNat_natCast]; omega) (by simp only [Int.toNat_natCast]; omega)) (by first | assumption | exact b2i_R _ | exact rR (by omega) (by omega) | exact rR (by simp only [Int.toNat_natCast]; omega) (by simp only [Int.toNat_natCast]; omega))) (And.intro (fun q => ?_) (fun q => ?_))
          · refine hA 10 _ rfl _ _ _ _ _ ?_
            refine Exists.intro _ (And.intro (by first | assumption | exact st_s | exact st_e (by decide) (by assumption) | exact st_e (by omega) (by assumption) | exact st_e (by decide) st_s | exact st_e (by omega) st_s | exact st_e (by decide) (st_e (by decide) (by assumption)) | exact st_e (by omega) (st_e (by omega) (by assumption))) (And.intro rfl (ab_inv_ev (hst i hlt) (by first | decide | omega) (by first | exact Nat.le_refl _ | omega) (by first | exact Nat.le_refl _ | omega) ?_)))
            have ec : cnt (sw g) (i + strN g (gu rows) i) = cnt (sw g) i + 1 := by
              rw [hwe]
              exact cnt_nx (by omega) hsi (fun j h1 h2 => wen_no h1 h2)
            have := ih (gu rows - (i + strN g (gu rows) i)) (by omega) (i + strN g (gu rows) i) (by omega) (fun h2 => by rw [hwe] at h2 ⊢; exact wen_sw hlt h2) (by omega)
            rw [ec, Int.natCast_add, Int.natCast_add] at this
            exact this
          · have hik2 : k = cnt (sw g) i := by omega
            have hwp : wps g (gu rows) k = i := by rw [hik2]; exact wps_eq hlt hsi
            have hgw : gw g (gu rows) i = strN g (gu rows) i := by
              unfold gw
              rw [wst_sw hsi]
              omega
            have k9 : ∀ z : Int, z = (wrd g (gu rows) i : Nat) → At 9 [some (rf 57), some (rf h), some (.inl k), some (.inl (cnt (sw g) i)), some (.inl i)] [.inl z] σ 0 0 := fun z hz => by
              subst hz
              refine hA 9 _ rfl _ _ _ _ _ ?_
              exact ⟨by rw [hwp], rfl⟩
            have k8 : ∀ z : Int, lit (g i) = false → z = (if g i = 32767 then 16384 else 0 : Nat) → At 8 [some (rf 57), some (rf h), some (.inl k), some (.inl (cnt (sw g) i)), some (.inl i)] [.inl z, .inl 32768] σ 0 0 := fun z hlf hz => by
              subst hz
              refine hA 8 _ rfl _ _ _ _ _ ?_
              refine Exists.intro _ (And.intro (by first | assumption | exact st_s | exact st_e (by decide) (by assumption) | exact st_e (by omega) (by assumption) | exact st_e (by decide) st_s | exact st_e (by omega) st_s | exact st_e (by decide) (st_e (by decide) (by assumption)) | exact st_e (by omega) (st_e (by omega) (by assumption))) (And.intro rfl (ab_inv_ev (hst i hlt) (by first | decide | omega) (by first | exact Nat.le_refl _ | omega) (by first | exact Nat.le_refl _ | omega) ?_)))
              refine k9 _ ?_
              unfold wrd
              rw [hlf, if_neg Bool.false_ne_true, hgw]
              omega
            refine hA 3 _ rfl _ _ _ _ _ ?_
            refine And.intro rfl (ab_inv_ev (hs i (by omega)) (by first | decide | omega) (by first | exact Nat.le_refl _ | omega) (by first | exact Nat.le_refl _ | omega) ?_)
            refine And.intro (And.intro (by first | assumption | exact b2i_R _ | exact rR (by omega) (by omega) | exact rR (by simp only [Int.toNat_natCast]; omega) (by simp only [Int.toNat_natCast]; omega)) (by first | assumption | exact b2i_R _ | exact rR (by omega) (by omega) | exact rR (by simp only [Int.toNat_natCast]; omega) (by simp only [Int.toNat_natCast]; omega))) (And.intro (fun q => ?_) (fun q => ?_))
            · have hlf : lit (g i) = false := by rw [hl, decide_eq_false (by omega)]
              have hgf := lit_f hlf
              refine hA 5 _ rfl _ _ _ _ _ ?_
              refine And.intro rfl (ab_inv_ev (hs i (by omega)) (by first | decide | omega) (by first | exact Nat.le_refl _ | omega) (by first | exact Nat.le_refl _ | omega) ?_)
              refine And.intro (And.intro (by first | assumption | exact b2i_R _ | exact rR (by omega) (by omega) | exact rR (by simp only [Int.toNat_natCast]; omega) (by simp only [Int.toNat_natCast]; omega)) (by first | assumption | exact b2i_R _ | exact rR (by omega) (by omega) | exact rR (by simp only [Int.toNat_natCast]; omega) (by simp only [Int.toNat_natCast]; omega))) (And.intro (fun q => ?_) (fun q => ?_))
              · refine hA 7 _ rfl _ _ _ _ _ ?_
                refine k8 _ hlf ?_
                rw [if_neg (fun q2 => by rw [q2] at q; exact q rfl)]
                rfl
              · refine hA 6 _ rfl _ _ _ _ _ ?_
                refine k8 _ hlf ?_
                rw [if_pos (hgf.resolve_left (fun q2 => by rw [q2] at q; exact absurd q (by decide)))]
                rfl
            · have hlt2 : lit (g i) = true := by rw [hl, decide_eq_true (by omega)]
              refine hA 4 _ rfl _ _ _ _ _ ?_
              refine Exists.intro _ (Exists.intro _ (And.intro (hh) (And.intro (by omega) ?_)))
              refine k9 _ ?_
              unfold wrd
              rw [if_pos hlt2]
              rfl
      · have hi2 : i = gu rows := by omega
        rw [hi2] at hik
        omega
  refine hA 0 _ rfl _ _ _ _ _ ?_
  exact loop (gu rows) 0 (by omega) (fun _ => rfl) (Nat.zero_le _)
theorem wen_min {a b : Nat → Nat} {u i j : Nat} (h1 : i < j) (h2 : j < min (wen a u i) (wen b u i)) : (sw a j || sw b j) = false := by
  rw [wen_no (g := a) (u := u) h1 (by omega), wen_no (g := b) (u := u) h1 (by omega)]
  rfl
set_option maxRecDepth 100000 in
set_option maxHeartbeats 1000000 in
theorem m_stepsOf (h57 : σ.2 57 = some (m10 t)) (h13 : t 13 = rows) (hr : rows ≤ 1500) {h o : Nat} {g f : Nat → Nat} (hh : σ.2 h = some (bmc g)) (hg : ∀ i, g i < 32768) (ho : σ.2 o = some (bmc f)) (hf : ∀ i, f i < 32768) : ab_ev 4 yX10_stepsOf [rf 57, rf h, rf o] σ (some (.inl (stp (gu rows) g f))) σ := by
  have hgl := gu_le hr
  have hgr := m_groups h57 h13 hr
  unfold stp
  have hwl := cnt_le (fun i => sw g i || sw f i)
  have hs1 := fun j (hj : j < gu rows) => m_stretch h57 h13 hr hh hg j hj
  have hs2 := fun j (hj : j < gu rows) => m_stretch h57 h13 hr ho hf j hj
  refine eX10_stepsOf rfl (fun At hA => ?_)
  have loop : ∀ (n i : Nat), i + n = gu rows → (i < gu rows → (sw g i || sw f i) = true) → At 1 [some (rf 57), some (rf h), some (rf o), some (.inl (cnt (fun i => sw g i || sw f i) i)), some (.inl i)] [] σ 0 0 := by
    intro n
    induction n using Nat.strongRecOn with
    | ind n ih =>
      intro i hi hsw
      have hwi := hwl i
      by_cases hlt : i < gu rows
      · have hsi := hsw hlt
        have hp1 := strN_pos (g := g) hlt
        have hw1 := strN_wen (g := g) hlt
        have hp2 := strN_pos (g := f) hlt
        have hw2 := strN_wen (g := f) hlt
        have hmn : ((if ((strN f (gu rows) i : Nat) : Int) ≤ ((strN g (gu rows) i : Nat) : Int) then ((strN f (gu rows) i : Nat) : Int) else ((strN g (gu rows) i : Nat) : Int)) : Int) = ((min (strN g (gu rows) i) (strN f (gu rows) i) : Nat) : Int) := by
          split <;> omega
        have hle := m_less (σ := σ) ((strN g (gu rows) i : Nat) : Int) ((strN f (gu rows) i : Nat) : Int) (rR (by omega) (by omega)) (rR (by omega) (by omega))
        rw [hmn] at hle
        have he : i + min (strN g (gu rows) i) (strN f (gu rows) i) = min (wen g (gu rows) i) (wen f (gu rows) i) := by omega
        have ec : cnt (fun i => sw g i || sw f i) (i + min (strN g (gu rows) i) (strN f (gu rows) i)) = cnt (fun i => sw g i || sw f i) i + 1 := by
          rw [he]
          exact cnt_nx (p := fun i => sw g i || sw f i) (by omega) hsi (fun j h1 h2 => wen_min h1 h2)
        have := ih (gu rows - (i + min (strN g (gu rows) i) (strN f (gu rows) i))) (by omega) (i + min (strN g (gu rows) i) (strN f (gu rows) i)) (by omega) (fun h2 => by
          by_cases hc : strN g (gu rows) i ≤ strN f (gu rows) i
          · rw [Nat.min_eq_left hc, hw1] at h2 ⊢
            rw [wen_sw hlt h2]; rfl
          · rw [Nat.min_eq_right (by omega), hw2] at h2 ⊢
            rw [wen_sw hlt h2]; exact Bool.or_true _)
        rw [ec, Int.natCast_add, Int.natCast_add] at this
        refine hA 1 _ rfl _ _ _ _ _ ?_
        refine Exists.intro _ (And.intro (by first | assumption | exact st_s | exact st_e (by decide) (by assumption) | exact st_e (by omega) (by assumption) | exact st_e (by decide) st_s | exact st_e (by omega) st_s | exact st_e (by decide) (st_e (by decide) (by assumption)) | exact st_e (by omega) (st_e (by omega) (by assumption))) (And.intro rfl (ab_inv_ev hgr (by first | decide | omega) (by first | exact Nat.le_refl _ | omega) (by first | exact Nat.le_refl _ | omega) ?_)))
        refine And.intro (And.intro (by first | assumption | exact b2i_R _ | exact rR (by omega) (by omega) | exact rR (by simp only [Int.toNat_natCast]; omega) (by simp only [Int.toNat_natCast]; omega)) (by first | assumption | exact b2i_R _ | exact rR (by omega) (by omega) | exact rR (by simp only [Int.toNat_natCast]; omega) (by simp only [Int.toNat_natCast]; omega))) (And.intro (fun q => ?_) (fun q => ?_))
        · omega
        · refine hA 2 _ rfl _ _ _ _ _ ?_
          refine Exists.intro _ (And.intro (by first | assumption | exact st_s | exact st_e (by decide) (by assumption) | exact st_e (by omega) (by assumption) | exact st_e (by decide) st_s | exact st_e (by omega) st_s | exact st_e (by decide) (st_e (by decide) (by assumption)) | exact st_e (by omega) (st_e (by omega) (by assumption))) (And.intro rfl (ab_inv_ev (hs1 i hlt) (by first | decide | omega) (by first | exact Nat.le_refl _ | omega) (by first | exact Nat.le_refl _ | omega) ?_)))
          refine Exists.intro _ (And.intro (by first | assumption | exact st_s | exact st_e (by decide) (by assumption) | exact st_e (by omega) (by assumption) | exact st_e (by decide) st_s | exact st_e (by omega) st_s | exact st_e (by decide) (st_e (by decide) (by assumption)) | exact st_e (by omega) (st_e (by omega) (by assumption))) (And.intro rfl (ab_inv_ev (hs2 i hlt) (by first | decide | omega) (by first | exact Nat.le_refl _ | omega) (by first | exact Nat.le_refl _ | omega) ?_)))
          refine And.intro rfl (ab_inv_ev hle (by first | decide | omega) (by first | exact Nat.le_refl _ | omega) (by first | exact Nat.le_refl _ | omega) ?_)
          exact this
      · have hi2 : i = gu rows := by omega
        refine hA 1 _ rfl _ _ _ _ _ ?_
        refine Exists.intro _ (And.intro (by first | assumption | exact st_s | exact st_e (by decide) (by assumption) | exact st_e (by omega) (by assumption) | exact st_e (by decide) st_s | exact st_e (by omega) st_s | exact st_e (by decide) (st_e (by decide) (by assumption)) | exact st_e (by omega) (st_e (by omega) (by assumption))) (And.intro rfl (ab_inv_ev hgr (by first | decide | omega) (by first | exact Nat.le_refl _ | omega) (by first | exact Nat.le_refl _ | omega) ?_)))
        refine And.intro (And.intro (by first | assumption | exact b2i_R _ | exact rR (by omega) (by omega) | exact rR (by simp only [Int.toNat_natCast]; omega) (by simp only [Int.toNat_natCast]; omega)) (by first | assumption | exact b2i_R _ | exact rR (by omega) (by omega) | exact rR (by simp only [Int.toNat_natCast]; omega) (by simp only [Int.toNat_natCast]; omega))) (And.intro (fun q => ?_) (fun q => ?_))
        · refine hA 3 _ rfl _ _ _ _ _ ?_
          exact ⟨by rw [hi2], rfl⟩
        · omega
  refine hA 0 _ rfl _ _ _ _ _ ?_
  exact loop (gu rows) 0 (by omega) (fun _ => rfl)
set_option maxRecDepth 100000 in
set_option maxHeartbeats 1000000 in
theorem m_runs (h57 : σ.2 57 = some (m10 t)) (h13 : t 13 = rows) (hr : rows ≤ 1500) {h : Nat} {g : Nat → Nat} (hh : σ.2 h = some (bmc g)) (hg : hi0 rows g) (what : Nat) (hw : what = 6 ∨ what = 7) : ab_ev 2 yX10_runs [rf 57, rf h, .inl what] σ (some (.inl (meas g (gu rows) what))) σ := by
  have e6 : ∀ _ : True, stc (bit g) rows = stc (bit g) 1500 := fun _ => by
    have := stc_cut (p := bit g) hg.2 (1500 - rows)
    rw [show rows + (1500 - rows) = 1500 by omega] at this
    exact this.symm
  have e7 : ∀ _ : True, lng (bit g) rows = lng (bit g) 1500 := fun _ => by
    have := lng_cut (p := bit g) hg.2 (1500 - rows)
    rw [show rows + (1500 - rows) = 1500 by omega] at this
    exact this.symm
  have l1 := run_le (bit g)
  have l2 := lng_le (bit g)
  have l3 : ∀ r, stc (bit g) r ≤ r := fun r => cnt_le _ r
  refine eX10_runs rfl (fun At hA => ?_)
  have fin : At 9 [some (rf 57), some (rf h), some (.inl what), some (.inl (stc (bit g) rows)), some (.inl (lng (bit g) rows)), some (.inl (run (bit g) rows)), some (.inl rows)] [] σ 0 0 := by
    refine hA 9 _ rfl _ _ _ _ _ ?_
    refine And.intro (And.intro (by first | assumption | exact b2i_R _ | exact rR (by omega) (by omega) | exact rR (by simp only [Int.toNat_natCast]; omega) (by simp only [Int.toNat_natCast]; omega)) (by first | assumption | exact b2i_R _ | exact rR (by omega) (by omega) | exact rR (by simp only [Int.toNat_natCast]; omega) (by simp only [Int.toNat_natCast]; omega))) (And.intro (fun q => ?_) (fun q => ?_))
    · have h7 : what = 7 := by omega
      subst h7
      refine hA 11 _ rfl _ _ _ _ _ ?_
      refine hA 12 _ rfl _ _ _ _ _ ?_
      exact ⟨by rw [e7 trivial]; rfl, rfl⟩
    · have h7 : what = 6 := by omega
      subst h7
      refine hA 10 _ rfl _ _ _ _ _ ?_
      refine hA 12 _ rfl _ _ _ _ _ ?_
      exact ⟨by rw [e6 trivial]; rfl, rfl⟩
  have loop : ∀ n r : Nat, r + n = rows → At 1 [some (rf 57), some (rf h), some (.inl what), some (.inl (stc (bit g) r)), some (.inl (lng (bit g) r)), some (.inl (run (bit g) r)), some (.inl r)] [] σ 0 0 := by
    intro n
    induction n with
    | zero =>
      intro r hrn
      have hrr : r = rows := by omega
      subst hrr
      refine hA 1 _ rfl _ _ _ _ _ ?_
      refine Exists.intro _ (And.intro (by first | assumption | exact st_s | exact st_e (by decide) (by assumption) | exact st_e (by omega) (by assumption) | exact st_e (by decide) st_s | exact st_e (by omega) st_s | exact st_e (by decide) (st_e (by decide) (by assumption)) | exact st_e (by omega) (st_e (by omega) (by assumption))) ?_)
      refine And.intro (And.intro (by first | assumption | exact b2i_R _ | exact rR (by omega) (by omega) | exact rR (by simp only [Int.toNat_natCast]; omega) (by simp only [Int.toNat_natCast]; omega)) (by first | assumption | exact b2i_R _ | exact rR (by omega) (by omega) | exact rR (by simp only [Int.toNat_natCast]; omega) (by simp only [Int.toNat_natCast]; omega))) (And.intro (fun q => ?_) (fun q => ?_))
      · exact fin
      · omega
    | succ n ih =>
      intro r hrn
      have h1 := l1 r
      have h2 := l2 r
      have h3 := l3 r
      have h4 := l1 (r + 1)
      have ihr := ih (r + 1) (by omega)
      have es : stc (bit g) (r + 1) = stc (bit g) r + (bit g r && !pv (bit g) r).toNat := rfl
      have el : lng (bit g) (r + 1) = max (lng (bit g) r) (run (bit g) (r + 1)) := rfl
      have er : run (bit g) (r + 1) = if bit g r then run (bit g) r + 1 else 0 := rfl
      have hpv := run_pv (bit g) r
      have hmo := m_more (σ := σ) ((lng (bit g) r : Nat) : Int) ((run (bit g) (r + 1) : Nat) : Int) (rR (by omega) (by omega)) (rR (by omega) (by omega))
      have hmx : ((if ((lng (bit g) r : Nat) : Int) ≤ ((run (bit g) (r + 1) : Nat) : Int) then ((run (bit g) (r + 1) : Nat) : Int) else ((lng (bit g) r : Nat) : Int)) : Int) = ((lng (bit g) (r + 1) : Nat) : Int) := by
        rw [el]
        split <;> omega
      rw [hmx] at hmo
      have k8 : ∀ z : Int, z = ((bit g r && !pv (bit g) r).toNat : Nat) → At 8 [some (rf 57), some (rf h), some (.inl what), some (.inl (stc (bit g) r)), some (.inl (lng (bit g) r)), some (.inl (run (bit g) (r + 1))), some (.inl r)] [.inl z, .inl (stc (bit g) r)] σ 0 0 := fun z hz => by
        subst hz
        rw [es, Int.natCast_add] at ihr
        refine hA 8 _ rfl _ _ _ _ _ ?_
        refine And.intro rfl (ab_inv_ev hmo (by first | decide | omega) (by first | exact Nat.le_refl _ | omega) (by first | exact Nat.le_refl _ | omega) ?_)
        exact ihr
      have k5 : ∀ z : Int, z = (run (bit g) (r + 1) : Nat) → At 5 [some (rf 57), some (rf h), some (.inl what), some (.inl (stc (bit g) r)), some (.inl (lng (bit g) r)), some (.inl (run (bit g) r)), some (.inl r)] [.inl z] σ 0 0 := fun z hz => by
        subst hz
        refine hA 5 _ rfl _ _ _ _ _ ?_
        refine And.intro (And.intro (by first | assumption | exact b2i_R _ | exact rR (by omega) (by omega) | exact rR (by simp only [Int.toNat_natCast]; omega) (by simp only [Int.toNat_natCast]; omega)) (by first | assumption | exact b2i_R _ | exact rR (by omega) (by omega) | exact rR (by simp only [Int.toNat_natCast]; omega) (by simp only [Int.toNat_natCast]; omega))) (And.intro (fun q => ?_) (fun q => ?_))
        · refine hA 7 _ rfl _ _ _ _ _ ?_
          refine k8 0 ?_
          cases hb : bit g r
          · rfl
          · rw [hb, if_pos rfl] at er
            have : pv (bit g) r ≠ false := fun q2 => by have := hpv.mpr q2; omega
            have hpt : pv (bit g) r = true := by
              cases h9 : pv (bit g) r with
              | false => exact absurd h9 this
              | true => rfl
            rw [hpt]
            rfl
        · refine hA 6 _ rfl _ _ _ _ _ ?_
          refine k8 1 ?_
          cases hb : bit g r
          · rw [hb, if_neg (by simp)] at er; omega
          · rw [hb, if_pos rfl] at er
            rw [hpv.mp (by omega)]
            rfl
      refine hA 1 _ rfl _ _ _ _ _ ?_
      refine Exists.intro _ (And.intro (by first | assumption | exact st_s | exact st_e (by decide) (by assumption) | exact st_e (by omega) (by assumption) | exact st_e (by decide) st_s | exact st_e (by omega) st_s | exact st_e (by decide) (st_e (by decide) (by assumption)) | exact st_e (by omega) (st_e (by omega) (by assumption))) ?_)
      refine And.intro (And.intro (by first | assumption | exact b2i_R _ | exact rR (by omega) (by omega) | exact rR (by simp only [Int.toNat_natCast]; omega) (by simp only [Int.toNat_natCast]; omega)) (by first | assumption | exact b2i_R _ | exact rR (by omega) (by omega) | exact rR (by simp only [Int.toNat_natCast]; omega) (by simp only [Int.toNat_natCast]; omega))) (And.intro (fun q => ?_) (fun q => ?_))
      · omega
      · refine hA 2 _ rfl _ _ _ _ _ ?_
        refine And.intro rfl (ab_inv_ev (m_has hh hg.1 r (by omega)) (by first | decide | omega) (by first | exact Nat.le_refl _ | omega) (by first | exact Nat.le_refl _ | omega) ?_)
        refine And.intro (by first | assumption | exact b2i_R _ | exact rR (by omega) (by omega) | exact rR (by simp only [Int.toNat_natCast]; omega) (by simp only [Int.toNat_natCast]; omega)) (And.intro (fun q => ?_) (fun q => ?_))
        · have hb := b2i_0 q
          refine hA 4 _ rfl _ _ _ _ _ ?_
          exact k5 0 (by rw [er, hb]; rfl)
        · have hb := b2i_1 q
          refine hA 3 _ rfl _ _ _ _ _ ?_
          exact k5 _ (by rw [er, hb]; rfl)
  refine hA 0 _ rfl _ _ _ _ _ ?_
  exact loop rows 0 (by omega)
set_option maxRecDepth 100000 in
set_option maxHeartbeats 1000000 in
theorem m_of (h57 : σ.2 57 = some (m10 t)) (h13 : t 13 = rows) (hr : rows ≤ 1500) {h : Nat} {g : Nat → Nat} (hh : σ.2 h = some (bmc g)) (hg : hi0 rows g) (what : Nat) (hw : what ≤ 5) : ab_ev 5 yX10_of [rf 57, rf h, .inl what] σ (some (.inl (meas g (gu rows) what))) σ := by
  have h4 : ∀ _ : True, sr (bit g) 0 rows = sr (bit g) 0 1500 := fun _ => (sr_cut hg.2 rows 0 1500 (by omega) hr).symm
  have h5 : ∀ _ : True, sl (bit g) rows = sl (bit g) 1500 := fun _ => by
    have := sl_cut hg.2 (1500 - rows)
    rw [show rows + (1500 - rows) = 1500 by omega] at this
    exact this.symm
  have hma := m_many h57 h13 hr hh hg.1
  rw [cnt_hi hg hr] at hma
  have hni := m_nextIn h57 h13 hr hh hg.1 0 (Nat.zero_le _)
  have hla := m_lastIn h57 h13 hr hh hg.1
  have hwo := fun (k : Nat) (hk : k < 4) => m_words h57 h13 hr hh hg.1 k hk
  have c1 := cnt_wc1 g (gu rows)
  have c2 := cnt_wc2 g (gu rows)
  have c3 := cnt_wc3 g (gu rows)
  have hwm : ∀ k, 1 ≤ k → k < 4 → ((cnt (wcP g k) (gu rows) : Nat) : Int) = meas g (gu rows) k := fun k k1 k2 => by
    rcases (show k = 1 ∨ k = 2 ∨ k = 3 by omega) with rfl | rfl | rfl
    · rw [c1]; rfl
    · rw [c2]; rfl
    · show _ = ((cnt (sw g) (gu rows) : Int) - cnt (fun i => lit (g i)) (gu rows))
      omega
  refine eX10_of rfl (fun At hA => ?_)
  refine hA 0 _ rfl _ _ _ _ _ ?_
  refine And.intro (by first | assumption | exact b2i_R _ | exact rR (by omega) (by omega) | exact rR (by simp only [Int.toNat_natCast]; omega) (by simp only [Int.toNat_natCast]; omega)) (And.intro (fun q => ?_) (fun q => ?_))
  · refine hA 2 _ rfl _ _ _ _ _ ?_
    refine And.intro (And.intro (by first | assumption | exact b2i_R _ | exact rR (by omega) (by omega) | exact rR (by simp only [Int.toNat_natCast]; omega) (by simp only [Int.toNat_natCast]; omega)) (by first | assumption | exact b2i_R _ | exact rR (by omega) (by omega) | exact rR (by simp only [Int.toNat_natCast]; omega) (by simp only [Int.toNat_natCast]; omega))) (And.intro (fun q => ?_) (fun q => ?_))
    · refine hA 4 _ rfl _ _ _ _ _ ?_
      refine And.intro (And.intro (by first | assumption | exact b2i_R _ | exact rR (by omega) (by omega) | exact rR (by simp only [Int.toNat_natCast]; omega) (by simp only [Int.toNat_natCast]; omega)) (by first | assumption | exact b2i_R _ | exact rR (by omega) (by omega) | exact rR (by simp only [Int.toNat_natCast]; omega) (by simp only [Int.toNat_natCast]; omega))) (And.intro (fun q => ?_) (fun q => ?_))
      · have h6 : what = 5 := by omega
        subst h6
        refine hA 6 _ rfl _ _ _ _ _ ?_
        refine Exists.intro _ (And.intro (by first | assumption | exact st_s | exact st_e (by decide) (by assumption) | exact st_e (by omega) (by assumption) | exact st_e (by decide) st_s | exact st_e (by omega) st_s | exact st_e (by decide) (st_e (by decide) (by assumption)) | exact st_e (by omega) (st_e (by omega) (by assumption))) (And.intro rfl (ab_inv_ev hla (by first | decide | omega) (by first | exact Nat.le_refl _ | omega) (by first | exact Nat.le_refl _ | omega) ?_)))
        refine hA 7 _ rfl _ _ _ _ _ ?_
        exact ⟨by rw [h5 trivial]; rfl, rfl⟩
      · have h6 : what = 4 := by omega
        subst h6
        refine hA 5 _ rfl _ _ _ _ _ ?_
        refine Exists.intro _ (And.intro (by first | assumption | exact st_s | exact st_e (by decide) (by assumption) | exact st_e (by omega) (by assumption) | exact st_e (by decide) st_s | exact st_e (by omega) st_s | exact st_e (by decide) (st_e (by decide) (by assumption)) | exact st_e (by omega) (st_e (by omega) (by assumption))) (And.intro rfl (ab_inv_ev hni (by first | decide | omega) (by first | exact Nat.le_refl _ | omega) (by first | exact Nat.le_refl _ | omega) ?_)))
        refine hA 7 _ rfl _ _ _ _ _ ?_
        exact ⟨by rw [Nat.sub_zero, h4 trivial]; rfl, rfl⟩
    · refine hA 3 _ rfl _ _ _ _ _ ?_
      refine Exists.intro _ (And.intro (by first | assumption | exact st_s | exact st_e (by decide) (by assumption) | exact st_e (by omega) (by assumption) | exact st_e (by decide) st_s | exact st_e (by omega) st_s | exact st_e (by decide) (st_e (by decide) (by assumption)) | exact st_e (by omega) (st_e (by omega) (by assumption))) (And.intro rfl (ab_inv_ev (hwo what (by omega)) (by first | decide | omega) (by first | exact Nat.le_refl _ | omega) (by first | exact Nat.le_refl _ | omega) ?_)))
      refine hA 7 _ rfl _ _ _ _ _ ?_
      exact ⟨by rw [hwm what (by omega) (by omega)], rfl⟩
  · have h6 : what = 0 := by omega
    subst h6
    refine hA 1 _ rfl _ _ _ _ _ ?_
    refine Exists.intro _ (And.intro (by first | assumption | exact st_s | exact st_e (by decide) (by assumption) | exact st_e (by omega) (by assumption) | exact st_e (by decide) st_s | exact st_e (by omega) st_s | exact st_e (by decide) (st_e (by decide) (by assumption)) | exact st_e (by omega) (st_e (by omega) (by assumption))) (And.intro rfl (ab_inv_ev hma (by first | decide | omega) (by first | exact Nat.le_refl _ | omega) (by first | exact Nat.le_refl _ | omega) ?_)))
    exact ⟨rfl, rfl⟩
end Mwa
