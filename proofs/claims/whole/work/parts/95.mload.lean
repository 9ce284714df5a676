-- ===== the model: words brought from outside =====
theorem wo_0 {w k : Nat} : wo w (2 ^ k - 1) = 0 ↔ w / 2 ^ k = 0 := by
  constructor
  · intro h
    apply Nat.eq_of_testBit_eq
    intro i
    have := wo_bit w (2 ^ k - 1) (i + k)
    rw [h, Nat.zero_testBit, Nat.testBit_two_pow_sub_one, decide_eq_false (by omega)] at this
    rw [Nat.zero_testBit, Nat.testBit_div_two_pow, this]
    cases w.testBit (i + k) <;> rfl
  · intro h
    have hlt : w < 2 ^ k := by
      rcases Nat.lt_or_ge w (2 ^ k) with h8 | h8
      · exact h8
      · have := Nat.div_pos h8 (Nat.pow_pos (by omega))
        omega
    apply Nat.eq_of_testBit_eq
    intro i
    rw [wo_bit, Nat.testBit_two_pow_sub_one, Nat.zero_testBit]
    by_cases hi : i < k
    · rw [decide_eq_true hi]
      cases w.testBit i <;> rfl
    · rw [Nat.testBit_lt_two_pow (Nat.lt_of_lt_of_le hlt (Nat.pow_le_pow_right (by omega) (by omega)))]
      rfl
/-- the fault of a plain word -/
theorem wfa_p {rows g w w0 : Nat} (hw : w < 32768) (h1 : ¬ (w = 0 ∨ w = 32767)) (hg : g ≤ gu rows) : wfa rows g w w0 = if g = gu rows then 5 else if wo w (rg g rows) = 0 then 0 else 6 := by
  have hgs := gu_sp rows
  have hc : wcov w = 1 := if_pos hw
  unfold wfa
  rw [if_neg h1, if_neg (by omega), if_neg (by omega), hc]
  by_cases e : g = gu rows
  · rw [if_pos (by omega), if_pos e]
  · rw [if_neg (by omega), if_neg e]
    have h15 : 2 ^ 15 = 32768 := by decide
    have hd15 : w / 2 ^ 15 = 0 := Nat.div_eq_of_lt (by omega)
    by_cases h2 : g + 1 < gu rows ∨ rows % 15 = 0
    · rw [if_pos h2, if_pos]
      unfold rg
      rw [show min 15 (rows - 15 * g) = 15 by omega]
      exact wo_0.mpr hd15
    · rw [if_neg h2]
      unfold rg
      have e5 : (if 32768 ≤ w then w / 16384 % 2 = 1 else w / 2 ^ (rows % 15) ≠ 0) = (w / 2 ^ (rows % 15) ≠ 0) := if_neg (by omega)
      simp only [e5]
      rw [show min 15 (rows - 15 * g) = rows % 15 by omega]
      by_cases h3 : w / 2 ^ (rows % 15) = 0
      · rw [if_neg (fun h => h h3), if_pos (wo_0.mpr h3)]
      · rw [if_pos h3, if_neg (fun h => h3 (wo_0.mp h))]
/-- the fault of a word that stands for many -/
theorem wfa_m {rows g w w0 : Nat} (hw : 32768 ≤ w) : wfa rows g w w0 = if w % 16384 = 0 then 3 else if 32768 ≤ w0 ∧ w0 / 16384 % 2 = w / 16384 % 2 then 4 else if gu rows < g + w % 16384 then 5 else if w / 16384 % 2 = 0 then 0 else if 15 ≤ min 15 (rows - 15 * (g + w % 16384 - 1)) then 0 else 6 := by
  have hgs := gu_sp rows
  have hc : wcov w = w % 16384 := if_neg (by omega)
  unfold wfa
  rw [if_neg (by omega), hc]
  by_cases h1 : w % 16384 = 0
  · rw [if_pos ⟨hw, h1⟩, if_pos h1]
  · rw [if_neg (fun h => h1 h.2), if_neg h1]
    by_cases h2 : 32768 ≤ w0 ∧ w0 / 16384 % 2 = w / 16384 % 2
    · rw [if_pos ⟨hw, h2⟩, if_pos h2]
    · rw [if_neg (fun h => h2 h.2), if_neg h2]
      by_cases h3 : gu rows < g + w % 16384
      · rw [if_pos h3, if_pos h3]
      · rw [if_neg h3, if_neg h3]
        have e : (if 32768 ≤ w then w / 16384 % 2 = 1 else w / 2 ^ (rows % 15) ≠ 0) = (w / 16384 % 2 = 1) := if_pos hw
        by_cases h4 : g + w % 16384 < gu rows ∨ rows % 15 = 0
        · rw [if_pos h4]
          by_cases h5 : w / 16384 % 2 = 0
          · rw [if_pos h5]
          · rw [if_neg h5, if_pos (by omega)]
        · rw [if_neg h4]
          simp only [e]
          by_cases h5 : w / 16384 % 2 = 0
          · rw [if_pos h5, if_neg (by omega)]
          · rw [if_neg h5, if_pos (by omega), if_neg (by omega)]
section Mload
variable {σ : ab_H} {t : Nat → Int} {rows : Nat}
set_option maxRecDepth 100000 in
set_option maxHeartbeats 1000000 in
theorem m_wrongOf (h57 : σ.2 57 = some (m10 t)) (h13 : t 13 = rows) (hr : rows ≤ 1500) (w g w0 : Nat) (hw : w < 65536) (hw0 : w0 < 65536) (hg : g ≤ gu rows) : ab_ev 4 yX10_wrongOf [rf 57, .inl w, .inl g, .inl w0] σ (some (.inl (wfa rows g w w0))) σ := by
  have hgs := gu_sp rows
  have hgl := gu_le hr
  have e14 := an14 hw
  have e140 := an14 hw0
  have e13 := an13 hw
  have hm1 : w / 16384 % 2 < 2 := Nat.mod_lt _ (by decide)
  have hm2 : w0 / 16384 % 2 < 2 := Nat.mod_lt _ (by decide)
  have hgr := m_groups h57 h13 hr
  have hp := fun h1 h2 => wfa_p (rows := rows) (g := g) (w := w) (w0 := w0) h1 h2 hg
  have hm := fun h1 => wfa_m (rows := rows) (g := g) (w := w) (w0 := w0) h1
  have h2 : w = 0 ∨ w = 32767 → wfa rows g w w0 = 2 := fun h => if_pos h
  generalize wfa rows g w w0 = F at hp hm h2
  refine eX10_wrongOf rfl (fun At hA => ?_)
  have k9 : ∀ (z : Int) (L : ab_L), z = F → At 9 L [.inl z] σ 0 0 := fun z L hz => by
    subst hz
    refine hA 9 _ rfl _ _ _ _ _ ?_
    exact ⟨rfl, rfl⟩
  have k21 : ∀ (z : Int) (L : ab_L), z = F → At 21 L [.inl z] σ 0 0 := fun z L hz => by
    subst hz
    refine hA 21 _ rfl _ _ _ _ _ ?_
    exact ⟨rfl, rfl⟩
  refine hA 0 _ rfl _ _ _ _ _ ?_
  refine And.intro (And.intro (rR (by omega) (by omega)) (show ab_R 32768 from rR (by decide) (by decide))) (And.intro (fun q => ?_) (fun q => ?_))
  · have q : (32768 : Int) ≤ ((w : Nat) : Int) := q
    have hm := hm (by omega)
    have k17 : gu rows ≥ g + w % 16384 → w % 16384 ≠ 0 → (F = if w / 16384 % 2 = 0 then 0 else if 15 ≤ min 15 (rows - 15 * (g + w % 16384 - 1)) then 0 else 6) → At 17 [some (rf 57), some (.inl w), some (.inl g), some (.inl w0), some (.inl (w % 16384 : Nat))] [] σ 0 0 := fun h3 h1 hF => by
      refine hA 17 _ rfl _ _ _ _ _ ?_
      refine And.intro (show ab_R (ab_and (w : Int) 16384) by rw [e14]; exact rR (by omega) (by omega)) (And.intro (fun q2 => ?_) (fun q2 => ?_))
      · have q2 : ab_and (w : Int) 16384 = 0 := q2
        rw [e14] at q2
        rw [if_pos (by omega)] at hF
        refine hA 20 _ rfl _ _ _ _ _ ?_
        exact k21 0 _ (by rw [hF]; rfl)
      · have q2 : ab_and (w : Int) 16384 ≠ 0 := q2
        rw [e14] at q2
        rw [if_neg (by omega)] at hF
        have hrw := m_rowsOf h57 h13 hr (g + w % 16384 - 1) (by omega)
        have e : ((g : Nat) : Int) + ((w % 16384 : Nat) : Int) - 1 = ((g + w % 16384 - 1 : Nat) : Int) := by omega
        rw [← e] at hrw
        refine hA 18 _ rfl _ _ _ _ _ ?_
        refine Exists.intro _ (And.intro (by first | assumption | exact st_s | exact st_e (by decide) (by assumption) | exact st_e (by omega) (by assumption) | exact st_e (by decide) st_s | exact st_e (by omega) st_s | exact st_e (by decide) (st_e (by decide) (by assumption)) | exact st_e (by omega) (st_e (by omega) (by assumption))) (And.intro rfl (ab_inv_ev hrw (by first | decide | omega) (by first | exact Nat.le_refl _ | omega) (by first | exact Nat.le_refl _ | omega) ?_)))
        refine And.intro (And.intro (by first | assumption | exact b2i_R _ | exact rR (by omega) (by omega) | exact rR (by simp only [Int.toNat_natCast]; omega) (by simp only [Int.toNat_natCast]; omega)) (by first | assumption | exact b2i_R _ | exact rR (by omega) (by omega) | exact rR (by simp only [Int.toNat_natCast]; omega) (by simp only [Int.toNat_natCast]; omega))) (And.intro (fun q => ?_) (fun q => ?_))
        · rw [if_pos (by omega)] at hF
          refine hA 20 _ rfl _ _ _ _ _ ?_
          exact k21 0 _ (by rw [hF]; rfl)
        · rw [if_neg (by omega)] at hF
          refine hA 19 _ rfl _ _ _ _ _ ?_
          exact k21 6 _ (by rw [hF]; rfl)
    have k15 : w % 16384 ≠ 0 → (F = if gu rows < g + w % 16384 then 5 else if w / 16384 % 2 = 0 then 0 else if 15 ≤ min 15 (rows - 15 * (g + w % 16384 - 1)) then 0 else 6) → At 15 [some (rf 57), some (.inl w), some (.inl g), some (.inl w0), some (.inl (w % 16384 : Nat))] [] σ 0 0 := fun h1 hF => by
      refine hA 15 _ rfl _ _ _ _ _ ?_
      refine Exists.intro _ (And.intro (by first | assumption | exact st_s | exact st_e (by decide) (by assumption) | exact st_e (by omega) (by assumption) | exact st_e (by decide) st_s | exact st_e (by omega) st_s | exact st_e (by decide) (st_e (by decide) (by assumption)) | exact st_e (by omega) (st_e (by omega) (by assumption))) (And.intro rfl (ab_inv_ev hgr (by first | decide | omega) (by first | exact Nat.le_refl _ | omega) (by first | exact Nat.le_refl _ | omega) ?_)))
      refine And.intro (And.intro (by first | assumption | exact b2i_R _ | exact rR (by omega) (by omega) | exact rR (by simp only [Int.toNat_natCast]; omega) (by simp only [Int.toNat_natCast]; omega)) (by first | assumption | exact b2i_R _ | exact rR (by omega) (by omega) | exact rR (by simp only [Int.toNat_natCast]; omega) (by simp only [Int.toNat_natCast]; omega))) (And.intro (fun q => ?_) (fun q => ?_))
      · rw [if_neg (by omega)] at hF
        exact k17 (by omega) h1 hF
      · rw [if_pos (by omega)] at hF
        refine hA 16 _ rfl _ _ _ _ _ ?_
        exact ⟨by rw [hF]; rfl, rfl⟩
    refine hA 10 _ rfl _ _ _ _ _ ?_
    refine And.intro (show ab_R (ab_and (w : Int) 16383) by rw [e13]; exact rR (by omega) (by omega)) (And.intro (fun q2 => ?_) (fun q2 => ?_))
    · have q2 : ab_and (w : Int) 16383 ≠ 0 := q2
      rw [e13] at q2
      rw [if_neg (by omega)] at hm
      rw [e13]
      refine hA 12 _ rfl _ _ _ _ _ ?_
      refine And.intro (And.intro (rR (by omega) (by omega)) (show ab_R 32768 from rR (by decide) (by decide))) (And.intro (fun q3 => ?_) (fun q3 => ?_))
      · have q3 : ((w0 : Nat) : Int) < 32768 := q3
        rw [if_neg (by omega)] at hm
        exact k15 (by omega) hm
      · have q3 : (32768 : Int) ≤ ((w0 : Nat) : Int) := q3
        refine hA 13 _ rfl _ _ _ _ _ ?_
        refine And.intro (And.intro (show ab_R (ab_and (w0 : Int) 16384) by rw [e140]; exact rR (by omega) (by omega)) (show ab_R (ab_and (w : Int) 16384) by rw [e14]; exact rR (by omega) (by omega))) (And.intro (fun q4 => ?_) (fun q4 => ?_))
        · have q4 : ab_and (w0 : Int) 16384 ≠ ab_and (w : Int) 16384 := q4
          rw [e14, e140] at q4
          rw [if_neg (by omega)] at hm
          exact k15 (by omega) hm
        · have q4 : ab_and (w0 : Int) 16384 = ab_and (w : Int) 16384 := q4
          rw [e14, e140] at q4
          rw [if_pos (by omega)] at hm
          refine hA 14 _ rfl _ _ _ _ _ ?_
          exact ⟨by rw [hm]; rfl, rfl⟩
    · have q2 : ab_and (w : Int) 16383 = 0 := q2
      rw [e13] at q2
      rw [if_pos (by omega)] at hm
      refine hA 11 _ rfl _ _ _ _ _ ?_
      exact ⟨by rw [hm]; rfl, rfl⟩
  · have q : ((w : Nat) : Int) < 32768 := q
    have hp := hp (by omega)
    have k4 : ¬ (w = 0 ∨ w = 32767) → At 4 [some (rf 57), some (.inl w), some (.inl g), some (.inl w0), none] [] σ 0 0 := fun h1 => by
      have hp := hp h1
      refine hA 4 _ rfl _ _ _ _ _ ?_
      refine Exists.intro _ (And.intro (by first | assumption | exact st_s | exact st_e (by decide) (by assumption) | exact st_e (by omega) (by assumption) | exact st_e (by decide) st_s | exact st_e (by omega) st_s | exact st_e (by decide) (st_e (by decide) (by assumption)) | exact st_e (by omega) (st_e (by omega) (by assumption))) (And.intro rfl (ab_inv_ev hgr (by first | decide | omega) (by first | exact Nat.le_refl _ | omega) (by first | exact Nat.le_refl _ | omega) ?_)))
      refine And.intro (And.intro (by first | assumption | exact b2i_R _ | exact rR (by omega) (by omega) | exact rR (by simp only [Int.toNat_natCast]; omega) (by simp only [Int.toNat_natCast]; omega)) (by first | assumption | exact b2i_R _ | exact rR (by omega) (by omega) | exact rR (by simp only [Int.toNat_natCast]; omega) (by simp only [Int.toNat_natCast]; omega))) (And.intro (fun q => ?_) (fun q => ?_))
      · have hlt : g < gu rows := by omega
        rw [if_neg (by omega)] at hp
        have hwh := m_whole h57 h13 hr g hlt
        have hrl := rg_lt g rows
        have e := nb_not (a := rg g rows) (b := w) (by omega) (by omega)
        have hwl := wo_le w (rg g rows)
        refine hA 6 _ rfl _ _ _ _ _ ?_
        refine Exists.intro _ (And.intro h57 (And.intro rfl (ab_inv_ev hwh (by first | decide | omega) (by first | exact Nat.le_refl _ | omega) (by first | exact Nat.le_refl _ | omega) ?_)))
        refine And.intro (show ab_R (ab_and (w : Int) (ab_xor (rg g rows : Nat) (-1))) by rw [e]; exact rR (by omega) (by omega)) (And.intro (fun q2 => ?_) (fun q2 => ?_))
        · have q2 : ab_and (w : Int) (ab_xor (rg g rows : Nat) (-1)) = 0 := q2
          rw [e] at q2
          rw [if_pos (by omega)] at hp
          refine hA 8 _ rfl _ _ _ _ _ ?_
          exact k9 0 _ (by rw [hp]; rfl)
        · have q2 : ab_and (w : Int) (ab_xor (rg g rows : Nat) (-1)) ≠ 0 := q2
          rw [e] at q2
          rw [if_neg (by omega)] at hp
          refine hA 7 _ rfl _ _ _ _ _ ?_
          exact k9 6 _ (by rw [hp]; rfl)
      · rw [if_pos (by omega)] at hp
        refine hA 5 _ rfl _ _ _ _ _ ?_
        exact ⟨by rw [hp]; rfl, rfl⟩
    have k3 : w = 0 ∨ w = 32767 → At 3 [some (rf 57), some (.inl w), some (.inl g), some (.inl w0), none] [] σ 0 0 := fun h1 => by
      refine hA 3 _ rfl _ _ _ _ _ ?_
      exact ⟨by rw [h2 h1]; rfl, rfl⟩
    refine hA 1 _ rfl _ _ _ _ _ ?_
    refine And.intro (by first | assumption | exact b2i_R _ | exact rR (by omega) (by omega) | exact rR (by simp only [Int.toNat_natCast]; omega) (by simp only [Int.toNat_natCast]; omega)) (And.intro (fun q => ?_) (fun q => ?_))
    · exact k3 (Or.inl (by omega))
    · refine hA 2 _ rfl _ _ _ _ _ ?_
      refine And.intro (And.intro (by first | assumption | exact b2i_R _ | exact rR (by omega) (by omega) | exact rR (by simp only [Int.toNat_natCast]; omega) (by simp only [Int.toNat_natCast]; omega)) (by first | assumption | exact b2i_R _ | exact rR (by omega) (by omega) | exact rR (by simp only [Int.toNat_natCast]; omega) (by simp only [Int.toNat_natCast]; omega))) (And.intro (fun q => ?_) (fun q => ?_))
      · exact k4 (by omega)
      · exact k3 (Or.inr (by omega))
end Mload
