-- ===== the model: what questions lay on the pile =====
section Lay
variable {σ τ : ab_H} {cc rows : Nat} {K : Nat → CT} {va : Nat → Nat → Nat} {R : Nat → V1} {f : Nat → Int} {n : Nat} {pl : Int} {c : C3} {t : Nat → Int} {r : Nat → Nat} {th : Int} {P : Nat → V1} {tp : Nat} {k : C3}
theorem zf_s (s : Nat → Z4 → Z4) (z : Z4) (m : Nat) : zf s z (m + 1) = s (m + 1) (zf s z m) := rfl
theorem zf_shift (g : Nat → Z4 → Z4) : ∀ (m j : Nat) (z : Z4), zf (fun i => g (j + 1 + i - 1)) (g j z) m = zf (fun i => g (j + i - 1)) z (m + 1) := by
  intro m
  induction m with
  | zero =>
    intro j z
    show g j z = g (j + (0 + 1) - 1) z
    rw [show j + (0 + 1) - 1 = j by omega]
  | succ m ih =>
    intro j z
    rw [zf_s, ih j z, zf_s (fun i => g (j + i - 1))]
    rw [show j + 1 + (m + 1) - 1 = j + (m + 1 + 1) - 1 by omega]
    rfl
/-- le of a number that need not be a value -/
def upZ (rows : Nat) (K : Nat → CT) (va : Nat → Nat → Nat) (R : Nat → V1) (col v : Nat) (k : C3) : Z4 := if (K col).2.1 ≤ v + 1 then (all1 rows, k) else leafZ rows K va R 0 col v k
set_option maxRecDepth 100000 in
set_option maxHeartbeats 1000000 in
theorem m_pushesLeast (hI : MI σ cc rows K va R f n pl c t r th) (hP : PS σ τ t rows P tp k) (htp : tp + 2 ≤ 32) (col v : Nat) (hcol : col < cc) (hv : v < 1000) : ab_call 7 0 0 yX10_pushesLeast [rf 57, .inl col, .inl v] τ (fun y σ' => y = .inl none ∧ PS σ σ' t rows (ab_up P tp (upZ rows K va R col v k).1) (tp + 1) (upZ rows K va R col v k).2) := by
  have ho := hI.hK hcol
  obtain ⟨o1, o2, o3, o4, o5, -⟩ := id ho
  obtain ⟨t', hJ, -⟩ := hP.mi hI
  have q57 := hJ.h57
  obtain ⟨a1, a2, a3, gg, a4, a5, a6, a7, a8⟩ := hJ.k hcol
  have hnb : ∀ p, nbm (K col).1 (K col).2.2.2 p = if (K col).1 then (K col).2.2.2 p - 1 else (K col).2.2.2 p := fun p => rfl
  refine eX10_pushesLeast rfl (fun At hA => ?_)
  -- the end
  have fin : ∀ (υ : ab_H) (L : ab_L), ¬ (K col).2.1 ≤ v + 1 → PS σ υ t rows (ab_up P tp (leafZ rows K va R 0 col v k).1) (tp + 1) (leafZ rows K va R 0 col v k).2 → At 22 L [] υ 0 0 := fun υ L hn h => by
    refine hA 22 _ rfl _ _ _ _ _ ?_
    refine ⟨rfl, ?_⟩
    unfold upZ
    rw [if_neg hn]
    exact h
  have leaf : leafZ rows K va R 0 col v k = if (K col).1 then leR rows (K col).2.2.2 (BK K va rows col) (K col).2.2.1 v k else leE rows (K col).2.2.2 (BK K va rows col) (K col).2.2.1 v k := rfl
  -- further components
  have loop : ∀ (m p : Nat) (z : Z4) (υ : ab_H) (y4 y6 : Option ab_V), p + 1 + m = (K col).2.2.1 → ¬ (K col).2.1 ≤ v + 1 → z = (if (K col).1 then zf (leRs rows (K col).2.2.2 (BK K va rows col) v) (leR0 rows (K col).2.2.2 (BK K va rows col) v k) p else zf (leEs rows (K col).2.2.2 (BK K va rows col) v) (leE0 rows (K col).2.2.2 (BK K va rows col) v k) p) → PS σ υ t rows (ab_up P tp z.1) (tp + 1) z.2 → At 11 [some (rf 57), some (.inl col), some (.inl v), some (.inl (K col).2.2.1), y4, some (.inl ((p + 2 : Nat) : Int)), y6] [] υ 0 0 := by
    intro m
    induction m with
    | zero =>
      intro p z υ y4 y6 hp hn hz hP1
      refine hA 11 _ rfl _ _ _ _ _ ?_
      refine And.intro (And.intro (by first | assumption | exact b2i_R _ | exact rR (by omega) (by omega) | exact rR (by simp only [Int.toNat_natCast]; omega) (by simp only [Int.toNat_natCast]; omega)) (by first | assumption | exact b2i_R _ | exact rR (by omega) (by omega) | exact rR (by simp only [Int.toNat_natCast]; omega) (by simp only [Int.toNat_natCast]; omega))) (And.intro (fun q => ?_) (fun q => ?_))
      · refine fin υ _ hn ?_
        rw [leaf]
        unfold leR leE
        rw [show (K col).2.2.1 - 1 = p by omega, ← hz]
        exact hP1
      · omega
    | succ m ih =>
      intro p z υ y4 y6 hp hn hz hP1
      obtain ⟨t1, hJ1, -⟩ := hP1.mi hI
      have r57 := hJ1.h57
      have hK1 := hJ1.k hcol
      have hd := m_digit r57 hK1 (p + 1) (by omega) v (by omega)
      have hir := m_isRange r57 hK1
      have hbo := m_baseOf r57 hK1 (p + 1) (by omega)
      have hdl := dig_lt o3 (p + 1) v
      have hb3 := o3 (p + 1)
      generalize hx : dig (K col).2.2.2 (p + 1) v = x at hd hdl
      -- the ORs
      have ors : ∀ (m2 j : Nat) (z2 : Z4) (υ2 : ab_H), j + m2 = x → PS σ υ2 t rows (ab_up P tp z2.1) (tp + 1) z2.2 → zf (fun i => zjn (gu rows) 1 (BK K va rows col (p + 1) (j + i - 1))) z2 m2 = (if (K col).1 then zf (leRs rows (K col).2.2.2 (BK K va rows col) v) (leR0 rows (K col).2.2.2 (BK K va rows col) v k) (p + 1) else zf (leEs rows (K col).2.2.2 (BK K va rows col) v) (leE0 rows (K col).2.2.2 (BK K va rows col) v k) (p + 1)) → At 19 [some (rf 57), some (.inl col), some (.inl v), some (.inl (K col).2.2.1), some (.inl x), some (.inl ((p + 2 : Nat) : Int)), some (.inl j)] [] υ2 0 0 := by
        intro m2
        induction m2 with
        | zero =>
          intro j z2 υ2 hj hP2 he
          have ihp := ih (p + 1) z2 υ2 (some (.inl x)) (some (.inl j)) (by omega) hn he hP2
          refine hA 19 _ rfl _ _ _ _ _ ?_
          refine And.intro (And.intro (by first | assumption | exact b2i_R _ | exact rR (by omega) (by omega) | exact rR (by simp only [Int.toNat_natCast]; omega) (by simp only [Int.toNat_natCast]; omega)) (by first | assumption | exact b2i_R _ | exact rR (by omega) (by omega) | exact rR (by simp only [Int.toNat_natCast]; omega) (by simp only [Int.toNat_natCast]; omega))) (And.intro (fun q => ?_) (fun q => ?_))
          · refine hA 21 _ rfl _ _ _ _ _ ?_
            exact ihp
          · omega
        | succ m2 ih2 =>
          intro j z2 υ2 hj hP2 he
          obtain ⟨t2, hJ2, -⟩ := hP2.mi hI
          have s57 := hJ2.h57
          have hjn : j < nbm (K col).1 (K col).2.2.2 (p + 1) := by rw [hnb]; split <;> omega
          refine hA 19 _ rfl _ _ _ _ _ ?_
          refine And.intro (And.intro (by first | assumption | exact b2i_R _ | exact rR (by omega) (by omega) | exact rR (by simp only [Int.toNat_natCast]; omega) (by simp only [Int.toNat_natCast]; omega)) (by first | assumption | exact b2i_R _ | exact rR (by omega) (by omega) | exact rR (by simp only [Int.toNat_natCast]; omega) (by simp only [Int.toNat_natCast]; omega))) (And.intro (fun q => ?_) (fun q => ?_))
          · omega
          · refine hA 20 _ rfl _ _ _ _ _ ?_
            refine Exists.intro _ (And.intro (by first | assumption | exact st_s | exact st_e (by decide) (by assumption) | exact st_e (by omega) (by assumption) | exact st_e (by decide) st_s | exact st_e (by omega) st_s | exact st_e (by decide) (st_e (by decide) (by assumption)) | exact st_e (by omega) (st_e (by omega) (by assumption))) (And.intro rfl (ab_inv_of (m_joinsBitmap hI hP2 htp 1 col (p + 1) j (by omega) hcol (by omega) hjn) (by first | decide | omega) (by omega) (by omega) ?_)))
            intro y υ3 hpost
            obtain ⟨rfl, hP3⟩ := hpost
            have ihj := ih2 (j + 1) _ υ3 (by omega) hP3 (by
              rw [← he]
              exact zf_shift (fun i => zjn (gu rows) 1 (BK K va rows col (p + 1) i)) m2 j z2)
            
            exact ihj
      -- behind the AND
      have k15 : ∀ (z2 : Z4) (υ2 : ab_H), PS σ υ2 t rows (ab_up P tp z2.1) (tp + 1) z2.2 → z2 = (if (K col).1 = true ∧ x + 1 = (K col).2.2.2 (p + 1) then z else zjn (gu rows) 0 (BK K va rows col (p + 1) x) z) → At 15 [some (rf 57), some (.inl col), some (.inl v), some (.inl (K col).2.2.1), some (.inl x), some (.inl ((p + 2 : Nat) : Int)), y6] [] υ2 0 0 := fun z2 υ2 hP2 hz2 => by
        obtain ⟨t2, hJ2, -⟩ := hP2.mi hI
        have s57 := hJ2.h57
        have hir2 := m_isRange s57 (hJ2.k hcol)
        refine hA 15 _ rfl _ _ _ _ _ ?_
        refine Exists.intro _ (And.intro (by first | assumption | exact st_s | exact st_e (by decide) (by assumption) | exact st_e (by omega) (by assumption) | exact st_e (by decide) st_s | exact st_e (by omega) st_s | exact st_e (by decide) (st_e (by decide) (by assumption)) | exact st_e (by omega) (st_e (by omega) (by assumption))) (And.intro rfl (ab_inv_ev hir2 (by first | decide | omega) (by first | exact Nat.le_refl _ | omega) (by first | exact Nat.le_refl _ | omega) ?_)))
        refine And.intro (by first | assumption | exact b2i_R _ | exact rR (by omega) (by omega) | exact rR (by simp only [Int.toNat_natCast]; omega) (by simp only [Int.toNat_natCast]; omega)) (And.intro (fun q => ?_) (fun q => ?_))
        · have hρ := b2i_0 q
          have o1 := ors x 0 z2 υ2 (by omega) hP2 (by
            rw [hρ, if_neg Bool.false_ne_true, zf_s, hz2, if_neg (fun h => by rw [hρ] at h; exact Bool.false_ne_true h.1), hz, hρ, if_neg Bool.false_ne_true]
            unfold leEs
            rw [hx]
            congr 1
            funext i
            rw [Nat.zero_add])
          refine hA 17 _ rfl _ _ _ _ _ ?_
          refine hA 18 _ rfl _ _ _ _ _ ?_
          exact o1
        · have hρ := b2i_1 q
          have hmo := m_more (σ := υ2) 0 ((x : Int) - 1) (rR (by omega) (by omega)) (rR (by omega) (by omega))
          have hmx : (if (0 : Int) ≤ (x : Int) - 1 then (x : Int) - 1 else 0) = ((x - 1 : Nat) : Int) := by split <;> omega
          rw [hmx] at hmo
          have he : (if (K col).1 then zf (leRs rows (K col).2.2.2 (BK K va rows col) v) (leR0 rows (K col).2.2.2 (BK K va rows col) v k) (p + 1) else zf (leEs rows (K col).2.2.2 (BK K va rows col) v) (leE0 rows (K col).2.2.2 (BK K va rows col) v k) (p + 1)) = if x = 0 then z2 else zjn (gu rows) 1 (BK K va rows col (p + 1) (x - 1)) z2 := by
            rw [hρ, if_pos rfl, zf_s, hz2, hz, hρ, if_pos rfl]
            unfold leRs
            dsimp only
            rw [hx]
            have e1 : (if (x + 1 == (K col).2.2.2 (p + 1)) = true then zf (leRs rows (K col).2.2.2 (BK K va rows col) v) (leR0 rows (K col).2.2.2 (BK K va rows col) v k) p else zjn (gu rows) 0 (BK K va rows col (p + 1) x) (zf (leRs rows (K col).2.2.2 (BK K va rows col) v) (leR0 rows (K col).2.2.2 (BK K va rows col) v k) p)) = (if true = true ∧ x + 1 = (K col).2.2.2 (p + 1) then zf (leRs rows (K col).2.2.2 (BK K va rows col) v) (leR0 rows (K col).2.2.2 (BK K va rows col) v k) p else zjn (gu rows) 0 (BK K va rows col (p + 1) x) (zf (leRs rows (K col).2.2.2 (BK K va rows col) v) (leR0 rows (K col).2.2.2 (BK K va rows col) v k) p)) := by
              by_cases h : x + 1 = (K col).2.2.2 (p + 1)
              · rw [if_pos (beq_iff_eq.mpr h), if_pos ⟨rfl, h⟩]
              · rw [if_neg (fun q => h (beq_iff_eq.mp q)), if_neg (fun q => h q.2)]
            unfold leRs at e1
            dsimp only at e1
            rw [e1]
          have o1 := ors (x - (x - 1)) (x - 1) z2 υ2 (by omega) hP2 (by
            rw [he]
            by_cases h0 : x = 0
            · rw [h0]; rfl
            · rw [if_neg h0, show x - (x - 1) = 1 by omega]; rfl)
          refine hA 16 _ rfl _ _ _ _ _ ?_
          refine And.intro rfl (ab_inv_ev hmo (by first | decide | omega) (by first | exact Nat.le_refl _ | omega) (by first | exact Nat.le_refl _ | omega) ?_)
          refine hA 18 _ rfl _ _ _ _ _ ?_
          exact o1
      have k14 : ¬ ((K col).1 = true ∧ x + 1 = (K col).2.2.2 (p + 1)) → At 14 [some (rf 57), some (.inl col), some (.inl v), some (.inl (K col).2.2.1), some (.inl x), some (.inl ((p + 2 : Nat) : Int)), y6] [] υ 0 0 := fun hq => by
        have hxn : x < nbm (K col).1 (K col).2.2.2 (p + 1) := by
          rw [hnb]
          by_cases h1 : (K col).1 = true
          · rw [if_pos h1]
            have : ¬ x + 1 = (K col).2.2.2 (p + 1) := fun h => hq ⟨h1, h⟩
            omega
          · rw [if_neg h1]; omega
        refine hA 14 _ rfl _ _ _ _ _ ?_
        refine Exists.intro _ (And.intro (by first | assumption | exact st_s | exact st_e (by decide) (by assumption) | exact st_e (by omega) (by assumption) | exact st_e (by decide) st_s | exact st_e (by omega) st_s | exact st_e (by decide) (st_e (by decide) (by assumption)) | exact st_e (by omega) (st_e (by omega) (by assumption))) (And.intro rfl (ab_inv_of (m_joinsBitmap hI hP1 htp 0 col (p + 1) x (by omega) hcol (by omega) hxn) (by first | decide | omega) (by omega) (by omega) ?_)))
        intro y υ3 hpost
        obtain ⟨rfl, hP3⟩ := hpost
        have k := k15 _ υ3 hP3 (by rw [if_neg hq])
        
        exact k
      refine hA 11 _ rfl _ _ _ _ _ ?_
      refine And.intro (And.intro (by first | assumption | exact b2i_R _ | exact rR (by omega) (by omega) | exact rR (by simp only [Int.toNat_natCast]; omega) (by simp only [Int.toNat_natCast]; omega)) (by first | assumption | exact b2i_R _ | exact rR (by omega) (by omega) | exact rR (by simp only [Int.toNat_natCast]; omega) (by simp only [Int.toNat_natCast]; omega))) (And.intro (fun q => ?_) (fun q => ?_))
      · omega
      · refine hA 12 _ rfl _ _ _ _ _ ?_
        refine Exists.intro _ (And.intro (by first | assumption | exact st_s | exact st_e (by decide) (by assumption) | exact st_e (by omega) (by assumption) | exact st_e (by decide) st_s | exact st_e (by omega) st_s | exact st_e (by decide) (st_e (by decide) (by assumption)) | exact st_e (by omega) (st_e (by omega) (by assumption))) (And.intro rfl (ab_inv_ev hd (by first | decide | omega) (by first | exact Nat.le_refl _ | omega) (by first | exact Nat.le_refl _ | omega) ?_)))
        refine Exists.intro _ (And.intro (by first | assumption | exact st_s | exact st_e (by decide) (by assumption) | exact st_e (by omega) (by assumption) | exact st_e (by decide) st_s | exact st_e (by omega) st_s | exact st_e (by decide) (st_e (by decide) (by assumption)) | exact st_e (by omega) (st_e (by omega) (by assumption))) (And.intro rfl (ab_inv_ev hir (by first | decide | omega) (by first | exact Nat.le_refl _ | omega) (by first | exact Nat.le_refl _ | omega) ?_)))
        refine And.intro (by first | assumption | exact b2i_R _ | exact rR (by omega) (by omega) | exact rR (by simp only [Int.toNat_natCast]; omega) (by simp only [Int.toNat_natCast]; omega)) (And.intro (fun q => ?_) (fun q => ?_))
        · have hρ := b2i_0 q
          exact k14 (fun h => by rw [hρ] at h; exact Bool.false_ne_true h.1)
        · have hρ := b2i_1 q
          refine hA 13 _ rfl _ _ _ _ _ ?_
          refine Exists.intro _ (And.intro (by first | assumption | exact st_s | exact st_e (by decide) (by assumption) | exact st_e (by omega) (by assumption) | exact st_e (by decide) st_s | exact st_e (by omega) st_s | exact st_e (by decide) (st_e (by decide) (by assumption)) | exact st_e (by omega) (st_e (by omega) (by assumption))) (And.intro rfl (ab_inv_ev hbo (by first | decide | omega) (by first | exact Nat.le_refl _ | omega) (by first | exact Nat.le_refl _ | omega) ?_)))
          refine And.intro (And.intro (by first | assumption | exact b2i_R _ | exact rR (by omega) (by omega) | exact rR (by simp only [Int.toNat_natCast]; omega) (by simp only [Int.toNat_natCast]; omega)) (by first | assumption | exact b2i_R _ | exact rR (by omega) (by omega) | exact rR (by simp only [Int.toNat_natCast]; omega) (by simp only [Int.toNat_natCast]; omega))) (And.intro (fun q => ?_) (fun q => ?_))
          · exact k15 z υ hP1 (by rw [if_pos ⟨hρ, by omega⟩])
          · exact k14 (fun h => by omega)
  -- the first component
  have hd := m_digit q57 (hJ.k hcol) 0 (by omega) v (by omega)
  have hir := m_isRange q57 (hJ.k hcol)
  have hbo := m_baseOf q57 (hJ.k hcol) 0 (by omega)
  have hdl := dig_lt o3 0 v
  have hb3 := o3 0
  have k10 : ∀ (z : Z4) (υ : ab_H) (y4 y5 y6 : Option ab_V), ¬ (K col).2.1 ≤ v + 1 → z = (if (K col).1 then leR0 rows (K col).2.2.2 (BK K va rows col) v k else leE0 rows (K col).2.2.2 (BK K va rows col) v k) → PS σ υ t rows (ab_up P tp z.1) (tp + 1) z.2 → At 10 [some (rf 57), some (.inl col), some (.inl v), some (.inl (K col).2.2.1), y4, y5, y6] [] υ 0 0 := fun z υ y4 y5 y6 hn hz hP1 => by
    have l0 := loop ((K col).2.2.1 - 1) 0 z υ y4 y6 (by omega) hn hz hP1
    refine hA 10 _ rfl _ _ _ _ _ ?_
    exact l0
  have k2 : ∀ y4 y5 y6 : Option ab_V, ¬ (K col).2.1 ≤ v + 1 → At 2 [some (rf 57), some (.inl col), some (.inl v), some (.inl (K col).2.2.1), y4, y5, y6] [] τ 0 0 := fun y4 y5 y6 hn => by
    generalize hx : dig (K col).2.2.2 0 v = x at hd hdl
    refine hA 2 _ rfl _ _ _ _ _ ?_
    refine Exists.intro _ (And.intro (by first | assumption | exact st_s | exact st_e (by decide) (by assumption) | exact st_e (by omega) (by assumption) | exact st_e (by decide) st_s | exact st_e (by omega) st_s | exact st_e (by decide) (st_e (by decide) (by assumption)) | exact st_e (by omega) (st_e (by omega) (by assumption))) (And.intro rfl (ab_inv_ev hd (by first | decide | omega) (by first | exact Nat.le_refl _ | omega) (by first | exact Nat.le_refl _ | omega) ?_)))
    refine Exists.intro _ (And.intro (by first | assumption | exact st_s | exact st_e (by decide) (by assumption) | exact st_e (by omega) (by assumption) | exact st_e (by decide) st_s | exact st_e (by omega) st_s | exact st_e (by decide) (st_e (by decide) (by assumption)) | exact st_e (by omega) (st_e (by omega) (by assumption))) (And.intro rfl (ab_inv_ev hir (by first | decide | omega) (by first | exact Nat.le_refl _ | omega) (by first | exact Nat.le_refl _ | omega) ?_)))
    refine And.intro (by first | assumption | exact b2i_R _ | exact rR (by omega) (by omega) | exact rR (by simp only [Int.toNat_natCast]; omega) (by simp only [Int.toNat_natCast]; omega)) (And.intro (fun q => ?_) (fun q => ?_))
    · have hρ := b2i_1 q
      refine hA 7 _ rfl _ _ _ _ _ ?_
      refine Exists.intro _ (And.intro (by first | assumption | exact st_s | exact st_e (by decide) (by assumption) | exact st_e (by omega) (by assumption) | exact st_e (by decide) st_s | exact st_e (by omega) st_s | exact st_e (by decide) (st_e (by decide) (by assumption)) | exact st_e (by omega) (st_e (by omega) (by assumption))) (And.intro rfl (ab_inv_ev hbo (by first | decide | omega) (by first | exact Nat.le_refl _ | omega) (by first | exact Nat.le_refl _ | omega) ?_)))
      refine And.intro (And.intro (by first | assumption | exact b2i_R _ | exact rR (by omega) (by omega) | exact rR (by simp only [Int.toNat_natCast]; omega) (by simp only [Int.toNat_natCast]; omega)) (by first | assumption | exact b2i_R _ | exact rR (by omega) (by omega) | exact rR (by simp only [Int.toNat_natCast]; omega) (by simp only [Int.toNat_natCast]; omega))) (And.intro (fun q => ?_) (fun q => ?_))
      · have hxn : x < nbm (K col).1 (K col).2.2.2 0 := by rw [hnb, hρ, if_pos rfl]; omega
        refine hA 9 _ rfl _ _ _ _ _ ?_
        refine Exists.intro _ (And.intro (by first | assumption | exact st_s | exact st_e (by decide) (by assumption) | exact st_e (by omega) (by assumption) | exact st_e (by decide) st_s | exact st_e (by omega) st_s | exact st_e (by decide) (st_e (by decide) (by assumption)) | exact st_e (by omega) (st_e (by omega) (by assumption))) (And.intro rfl (ab_inv_of (m_pushesBitmap hI hP (by omega) col 0 x hcol (by omega) hxn) (by first | decide | omega) (by omega) (by omega) ?_)))
        intro y υ hpost
        obtain ⟨rfl, hP1⟩ := hpost
        have k := k10 (zbm (BK K va rows col 0 x) k) υ (some (.inl x)) y5 y6 hn (by
          rw [hρ, if_pos rfl]
          unfold leR0
          rw [hx, if_neg (fun h => by have := beq_iff_eq.mp h; omega)]) hP1
        
        exact k
      · have ha := m_pushesAll hI hP (by omega) true
        refine hA 8 _ rfl _ _ _ _ _ ?_
        refine Exists.intro _ (And.intro (by first | assumption | exact st_s | exact st_e (by decide) (by assumption) | exact st_e (by omega) (by assumption) | exact st_e (by decide) st_s | exact st_e (by omega) st_s | exact st_e (by decide) (st_e (by decide) (by assumption)) | exact st_e (by omega) (st_e (by omega) (by assumption))) (And.intro rfl (ab_inv_of ha (by first | decide | omega) (by omega) (by omega) ?_)))
        intro y υ hpost
        obtain ⟨rfl, hP1⟩ := hpost
        have k := k10 (all1 rows, k) υ (some (.inl x)) y5 y6 hn (by
          rw [hρ, if_pos rfl]
          unfold leR0
          rw [hx, if_pos (beq_iff_eq.mpr (by omega))]) hP1
        
        exact k
    · have hρ := b2i_0 q
      have ors : ∀ (m2 j : Nat) (υ2 : ab_H) (y6 : Option ab_V), j + m2 = x → PS σ υ2 t rows (ab_up P tp (zf (fun j => zjn (gu rows) 1 (BK K va rows col 0 j)) (zbm (BK K va rows col 0 0) k) j).1) (tp + 1) (zf (fun j => zjn (gu rows) 1 (BK K va rows col 0 j)) (zbm (BK K va rows col 0 0) k) j).2 → At 4 [some (rf 57), some (.inl col), some (.inl v), some (.inl (K col).2.2.1), some (.inl x), some (.inl ((j + 1 : Nat) : Int)), y6] [] υ2 0 0 := by
        intro m2
        induction m2 with
        | zero =>
          intro j υ2 y6 hj hP2
          have hj : j = x := by omega
          have k := k10 _ υ2 (some (.inl x)) (some (.inl ((j + 1 : Nat) : Int))) y6 hn (by
            rw [hρ, if_neg Bool.false_ne_true]
            unfold leE0
            rw [hx, ← hj]) hP2
          refine hA 4 _ rfl _ _ _ _ _ ?_
          refine And.intro (And.intro (by first | assumption | exact b2i_R _ | exact rR (by omega) (by omega) | exact rR (by simp only [Int.toNat_natCast]; omega) (by simp only [Int.toNat_natCast]; omega)) (by first | assumption | exact b2i_R _ | exact rR (by omega) (by omega) | exact rR (by simp only [Int.toNat_natCast]; omega) (by simp only [Int.toNat_natCast]; omega))) (And.intro (fun q => ?_) (fun q => ?_))
          · refine hA 6 _ rfl _ _ _ _ _ ?_
            exact k
          · omega
        | succ m2 ih2 =>
          intro j υ2 y6 hj hP2
          obtain ⟨t2, hJ2, -⟩ := hP2.mi hI
          have s57 := hJ2.h57
          have hjn : j + 1 < nbm (K col).1 (K col).2.2.2 0 := by rw [hnb, hρ, if_neg Bool.false_ne_true]; omega
          refine hA 4 _ rfl _ _ _ _ _ ?_
          refine And.intro (And.intro (by first | assumption | exact b2i_R _ | exact rR (by omega) (by omega) | exact rR (by simp only [Int.toNat_natCast]; omega) (by simp only [Int.toNat_natCast]; omega)) (by first | assumption | exact b2i_R _ | exact rR (by omega) (by omega) | exact rR (by simp only [Int.toNat_natCast]; omega) (by simp only [Int.toNat_natCast]; omega))) (And.intro (fun q => ?_) (fun q => ?_))
          · omega
          · refine hA 5 _ rfl _ _ _ _ _ ?_
            refine Exists.intro _ (And.intro (by first | assumption | exact st_s | exact st_e (by decide) (by assumption) | exact st_e (by omega) (by assumption) | exact st_e (by decide) st_s | exact st_e (by omega) st_s | exact st_e (by decide) (st_e (by decide) (by assumption)) | exact st_e (by omega) (st_e (by omega) (by assumption))) (And.intro rfl (ab_inv_of (m_joinsBitmap hI hP2 htp 1 col 0 (j + 1) (by omega) hcol (by omega) hjn) (by first | decide | omega) (by omega) (by omega) ?_)))
            intro y υ3 hpost
            obtain ⟨rfl, hP3⟩ := hpost
            have ihj := ih2 (j + 1) υ3 y6 (by omega) hP3
            
            exact ihj
      have h0n : 0 < nbm (K col).1 (K col).2.2.2 0 := by rw [hnb, hρ, if_neg Bool.false_ne_true]; omega
      refine hA 3 _ rfl _ _ _ _ _ ?_
      refine Exists.intro _ (And.intro (by first | assumption | exact st_s | exact st_e (by decide) (by assumption) | exact st_e (by omega) (by assumption) | exact st_e (by decide) st_s | exact st_e (by omega) st_s | exact st_e (by decide) (st_e (by decide) (by assumption)) | exact st_e (by omega) (st_e (by omega) (by assumption))) (And.intro rfl (ab_inv_of (m_pushesBitmap hI hP (by omega) col 0 0 hcol (by omega) h0n) (by first | decide | omega) (by omega) (by omega) ?_)))
      intro y υ hpost
      obtain ⟨rfl, hP1⟩ := hpost
      have o0 := ors x 0 υ y6 (by omega) hP1
      
      exact o0
  refine hA 0 _ rfl _ _ _ _ _ ?_
  refine Exists.intro _ (And.intro (q57) ?_)
  refine Exists.intro _ (Exists.intro _ (And.intro (a3) (And.intro (by omega) ?_)))
  refine Exists.intro _ (Exists.intro _ (And.intro (a4) (And.intro (by omega) ?_)))
  refine Exists.intro _ (And.intro (q57) ?_)
  refine Exists.intro _ (Exists.intro _ (And.intro (a3) (And.intro (by omega) ?_)))
  refine Exists.intro _ (Exists.intro _ (And.intro (a4) (And.intro (by omega) ?_)))
  rw [show gg ((1 : Int).toNat) = ((K col).2.2.1 : Nat) from a6]
  refine And.intro (And.intro (rR (by omega) (by omega)) (show ab_R (gg 0 - 1) from rR (by omega) (by omega))) (And.intro (fun q => ?_) (fun q => ?_))
  · have q : (v : Int) < gg 0 - 1 := q
    exact k2 _ _ _ (by omega)
  · have q : gg 0 - 1 ≤ (v : Int) := q
    have ha := m_pushesAll hI hP (by omega) true
    refine hA 1 _ rfl _ _ _ _ _ ?_
    refine Exists.intro _ (And.intro (by first | assumption | exact st_s | exact st_e (by decide) (by assumption) | exact st_e (by omega) (by assumption) | exact st_e (by decide) st_s | exact st_e (by omega) st_s | exact st_e (by decide) (st_e (by decide) (by assumption)) | exact st_e (by omega) (st_e (by omega) (by assumption))) (And.intro rfl (ab_inv_of ha (by first | decide | omega) (by omega) (by omega) ?_)))
    intro y υ hpost
    obtain ⟨rfl, hP1⟩ := hpost
    refine ⟨rfl, ?_⟩
    unfold upZ
    rw [if_pos (by omega)]
    exact hP1
end Lay
