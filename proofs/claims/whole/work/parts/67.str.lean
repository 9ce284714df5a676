-- ===== the model: stretches =====
/-- a stretch from i on, l groups of it seen, m more looked at -/
def str (g : Nat → Nat) (u i : Nat) : Nat → Nat → Nat
  | 0, l => l
  | m + 1, l => if i + l < u ∧ sort3 (g (i + l)) = sort3 (g i) then str g u i m (l + 1) else l
/-- how many groups the word that begins with group i takes -/
def strN (g : Nat → Nat) (u i : Nat) : Nat := if sort3 (g i) < 2 then str g u i (u - i) 1 else 1
section Str
variable {σ : ab_H} {t : Nat → Int}
set_option maxRecDepth 100000 in
set_option maxHeartbeats 1000000 in
theorem m_stretch {rows : Nat} (h57 : σ.2 57 = some (m10 t)) (h13 : t 13 = rows) (hr : rows ≤ 1500) {h : Nat} {g : Nat → Nat} (hh : σ.2 h = some (bmc g)) (hg : ∀ i, g i < 32768) (i : Nat) (hi : i < gu rows) : ab_ev 3 yX10_stretch [rf 57, rf h, .inl i] σ (some (.inl (strN g (gu rows) i))) σ := by
  have hgl := gu_le hr
  have hs := fun j (hj : j < 100) => m_sort (σ := σ) (N := 100) hh hj (by decide) (hg j)
  have hgr := m_groups h57 h13 hr
  have h3 : ∀ z, sort3 z ≤ 2 := fun z => by unfold sort3; split <;> (try split) <;> omega
  have h3i := h3 (g i)
  refine eX10_stretch rfl (fun At hA => ?_)
  have fin : ∀ l : Nat, strN g (gu rows) i = l → At 5 [some (rf 57), some (rf h), some (.inl i), some (.inl (sort3 (g i))), some (.inl l)] [] σ 0 0 := fun l hl => by
    subst hl
    refine hA 5 _ rfl _ _ _ _ _ ?_
    exact ⟨rfl, rfl⟩
  have loop : ∀ (m l : Nat), l + m = gu rows - i + 1 → sort3 (g i) < 2 → 1 ≤ l → strN g (gu rows) i = str g (gu rows) i m l → At 1 [some (rf 57), some (rf h), some (.inl i), some (.inl (sort3 (g i))), some (.inl l)] [] σ 0 0 := by
    intro m
    induction m with
    | zero =>
      intro l hl h2 h1 he
      refine hA 1 _ rfl _ _ _ _ _ ?_
      refine And.intro (And.intro (by first | assumption | exact b2i_R _ | exact rR (by omega) (by omega) | exact rR (by simp only [Int.toNat_natCast]; omega) (by simp only [Int.toNat_natCast]; omega)) (by first | assumption | exact b2i_R _ | exact rR (by omega) (by omega) | exact rR (by simp only [Int.toNat_natCast]; omega) (by simp only [Int.toNat_natCast]; omega))) (And.intro (fun q => ?_) (fun q => ?_))
      · exact fin l he
      · refine hA 2 _ rfl _ _ _ _ _ ?_
        refine Exists.intro _ (And.intro (by first | assumption | exact st_s | exact st_e (by decide) (by assumption) | exact st_e (by omega) (by assumption) | exact st_e (by decide) st_s | exact st_e (by omega) st_s | exact st_e (by decide) (st_e (by decide) (by assumption)) | exact st_e (by omega) (st_e (by omega) (by assumption))) (And.intro rfl (ab_inv_ev hgr (by first | decide | omega) (by first | exact Nat.le_refl _ | omega) (by first | exact Nat.le_refl _ | omega) ?_)))
        refine And.intro (And.intro (by first | assumption | exact b2i_R _ | exact rR (by omega) (by omega) | exact rR (by simp only [Int.toNat_natCast]; omega) (by simp only [Int.toNat_natCast]; omega)) (by first | assumption | exact b2i_R _ | exact rR (by omega) (by omega) | exact rR (by simp only [Int.toNat_natCast]; omega) (by simp only [Int.toNat_natCast]; omega))) (And.intro (fun q => ?_) (fun q => ?_))
        · exact fin l he
        · omega
    | succ m ih =>
      intro l hl h2 h1 he
      unfold str at he
      refine hA 1 _ rfl _ _ _ _ _ ?_
      refine And.intro (And.intro (by first | assumption | exact b2i_R _ | exact rR (by omega) (by omega) | exact rR (by simp only [Int.toNat_natCast]; omega) (by simp only [Int.toNat_natCast]; omega)) (by first | assumption | exact b2i_R _ | exact rR (by omega) (by omega) | exact rR (by simp only [Int.toNat_natCast]; omega) (by simp only [Int.toNat_natCast]; omega))) (And.intro (fun q => ?_) (fun q => ?_))
      · omega
      · refine hA 2 _ rfl _ _ _ _ _ ?_
        refine Exists.intro _ (And.intro (by first | assumption | exact st_s | exact st_e (by decide) (by assumption) | exact st_e (by omega) (by assumption) | exact st_e (by decide) st_s | exact st_e (by omega) st_s | exact st_e (by decide) (st_e (by decide) (by assumption)) | exact st_e (by omega) (st_e (by omega) (by assumption))) (And.intro rfl (ab_inv_ev hgr (by first | decide | omega) (by first | exact Nat.le_refl _ | omega) (by first | exact Nat.le_refl _ | omega) ?_)))
        refine And.intro (And.intro (by first | assumption | exact b2i_R _ | exact rR (by omega) (by omega) | exact rR (by simp only [Int.toNat_natCast]; omega) (by simp only [Int.toNat_natCast]; omega)) (by first | assumption | exact b2i_R _ | exact rR (by omega) (by omega) | exact rR (by simp only [Int.toNat_natCast]; omega) (by simp only [Int.toNat_natCast]; omega))) (And.intro (fun q => ?_) (fun q => ?_))
        · rw [if_neg (by omega)] at he
          exact fin l he
        · have hsj := hs (i + l) (by omega)
          have h3l := h3 (g (i + l))
          refine hA 3 _ rfl _ _ _ _ _ ?_
          refine And.intro rfl (ab_inv_ev hsj (by first | decide | omega) (by first | exact Nat.le_refl _ | omega) (by first | exact Nat.le_refl _ | omega) ?_)
          refine And.intro (And.intro (by first | assumption | exact b2i_R _ | exact rR (by omega) (by omega) | exact rR (by simp only [Int.toNat_natCast]; omega) (by simp only [Int.toNat_natCast]; omega)) (by first | assumption | exact b2i_R _ | exact rR (by omega) (by omega) | exact rR (by simp only [Int.toNat_natCast]; omega) (by simp only [Int.toNat_natCast]; omega))) (And.intro (fun q => ?_) (fun q => ?_))
          · rw [if_neg (by omega)] at he
            exact fin l he
          · rw [if_pos ⟨by omega, by omega⟩] at he
            refine hA 4 _ rfl _ _ _ _ _ ?_
            exact ih (l + 1) (by omega) h2 (by omega) he
  have hsi := hs i (by omega)
  refine hA 0 _ rfl _ _ _ _ _ ?_
  refine And.intro rfl (ab_inv_ev hsi (by first | decide | omega) (by first | exact Nat.le_refl _ | omega) (by first | exact Nat.le_refl _ | omega) ?_)
  by_cases h2 : sort3 (g i) < 2
  · exact loop (gu rows - i) 1 (by omega) h2 (by omega) (by unfold strN; rw [if_pos h2])
  · have k1 := fin 1 (by unfold strN; rw [if_neg h2])
    refine hA 1 _ rfl _ _ _ _ _ ?_
    refine And.intro (And.intro (by first | assumption | exact b2i_R _ | exact rR (by omega) (by omega) | exact rR (by simp only [Int.toNat_natCast]; omega) (by simp only [Int.toNat_natCast]; omega)) (by first | assumption | exact b2i_R _ | exact rR (by omega) (by omega) | exact rR (by simp only [Int.toNat_natCast]; omega) (by simp only [Int.toNat_natCast]; omega))) (And.intro (fun q => ?_) (fun q => ?_))
    · exact k1
    · omega
end Str
