-- ===== the model's object =====
/-- its ints by their places; 57 -/
abbrev m10 (t : Nat → Int) : ab_C := .inl (10, [.inl (t 0), rf 58, .inl (t 2), .inl (t 3), .inl (t 4), .inl (t 5), .inl (t 6), .inl (t 7), .inl (t 8), rf 59, rf 60, rf 65, .inl (t 12), .inl (t 13), rf 66, rf 71, rf 72, rf 79, .inl (t 18), rf 280, .inl (t 20), .inl (t 21), .inl (t 22), .inl (t 23), .inl (t 24), .inl (t 25), .inl (t 26), rf 313, rf 314, rf 315, rf 316, rf 317, rf 318, .inl (t 33), .inl (t 34)])
section Mob
variable {σ : ab_H} {t : Nat → Int}
set_option maxRecDepth 100000 in
set_option maxHeartbeats 1000000 in
theorem m_groups {rows : Nat} (h57 : σ.2 57 = some (m10 t)) (h13 : t 13 = rows) (hr : rows ≤ 1500) : ab_ev 1 yX10_groups [rf 57] σ (some (.inl (gu rows))) σ := by
  have hgs := gu_sp rows
  refine eX10_groups rfl (fun At hA => ?_)
  refine hA 0 _ rfl _ _ _ _ _ ?_
  refine Exists.intro _ (And.intro (by first | assumption | exact st_s | exact st_e (by decide) (by assumption) | exact st_e (by omega) (by assumption) | exact st_e (by decide) st_s | exact st_e (by omega) st_s | exact st_e (by decide) (st_e (by decide) (by assumption)) | exact st_e (by omega) (st_e (by omega) (by assumption))) ?_)
  refine And.intro ⟨by omega, by first | assumption | exact b2i_R _ | exact rR (by omega) (by omega) | exact rR (by simp only [Int.toNat_natCast]; omega) (by simp only [Int.toNat_natCast]; omega), by omega, by first | assumption | exact b2i_R _ | exact rR (by omega) (by omega) | exact rR (by simp only [Int.toNat_natCast]; omega) (by simp only [Int.toNat_natCast]; omega)⟩ ?_
  refine ⟨?_, rfl⟩
  have : ((rows : Int) + 15 - 1) / 15 = ((gu rows : Nat) : Int) := by omega
  rw [← this, ← h13]
set_option maxRecDepth 100000 in
set_option maxHeartbeats 1000000 in
theorem m_rowsOf {rows : Nat} (h57 : σ.2 57 = some (m10 t)) (h13 : t 13 = rows) (hr : rows ≤ 1500) (i : Nat) (hi : i < gu rows) : ab_ev 2 yX10_rowsOf [rf 57, .inl i] σ (some (.inl (min 15 (rows - 15 * i) : Nat))) σ := by
  have hgs := gu_sp rows
  have e : t 13 - 15 * ((i : Nat) : Int) = ((rows - 15 * i : Nat) : Int) := by omega
  have hl := m_less (σ := σ) 15 (t 13 - 15 * ((i : Nat) : Int)) (rR (by omega) (by omega)) (rR (by omega) (by omega))
  refine eX10_rowsOf rfl (fun At hA => ?_)
  refine hA 0 _ rfl _ _ _ _ _ ?_
  refine Exists.intro _ (And.intro (by first | assumption | exact st_s | exact st_e (by decide) (by assumption) | exact st_e (by omega) (by assumption) | exact st_e (by decide) st_s | exact st_e (by omega) st_s | exact st_e (by decide) (st_e (by decide) (by assumption)) | exact st_e (by omega) (st_e (by omega) (by assumption))) ?_)
  refine And.intro rfl (ab_inv_ev hl (by first | decide | omega) (by first | exact Nat.le_refl _ | omega) (by first | exact Nat.le_refl _ | omega) ?_)
  refine ⟨?_, rfl⟩
  congr 3
  split <;> omega
set_option maxRecDepth 100000 in
set_option maxHeartbeats 1000000 in
theorem m_whole {rows : Nat} (h57 : σ.2 57 = some (m10 t)) (h13 : t 13 = rows) (hr : rows ≤ 1500) (i : Nat) (hi : i < gu rows) : ab_ev 3 yX10_whole [rf 57, .inl i] σ (some (.inl (rg i rows))) σ := by
  have hl := m_rowsOf h57 h13 hr i hi
  have h2 : 2 ^ (min 15 (rows - 15 * i)) ≤ 2 ^ 15 := Nat.pow_le_pow_right (by omega) (Nat.min_le_left _ _)
  have h3 : 1 ≤ 2 ^ (min 15 (rows - 15 * i)) := Nat.pow_pos (by omega)
  have e := nb_shl (a := 1) (k := min 15 (rows - 15 * i)) (by omega) (by omega)
  refine eX10_whole rfl (fun At hA => ?_)
  refine hA 0 _ rfl _ _ _ _ _ ?_
  refine Exists.intro _ (And.intro (by first | assumption | exact st_s | exact st_e (by decide) (by assumption) | exact st_e (by omega) (by assumption) | exact st_e (by decide) st_s | exact st_e (by omega) st_s | exact st_e (by decide) (st_e (by decide) (by assumption)) | exact st_e (by omega) (st_e (by omega) (by assumption))) (And.intro rfl (ab_inv_ev hl (by first | decide | omega) (by first | exact Nat.le_refl _ | omega) (by first | exact Nat.le_refl _ | omega) ?_)))
  refine ⟨?_, rfl⟩
  have e2 : ab_shl 1 ((min 15 (rows - 15 * i) : Nat) : Int) = _ := e
  rw [e2]
  unfold rg
  congr 3
  omega
end Mob
