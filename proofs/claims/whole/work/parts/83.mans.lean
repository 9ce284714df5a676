-- ===== the model: acts answered =====
section Mans
variable {σ τ : ab_H} {cc rows : Nat} {K : Nat → CT} {va : Nat → Nat → Nat} {R : Nat → V1} {f : Nat → Int} {n : Nat} {pl : Int} {c : C3} {t : Nat → Int} {r : Nat → Nat} {th : Int} {P : Nat → V1} {tp : Nat} {k : C3}
theorem leaf_13 (col v : Nat) (k : C3) : leafZ rows K va R 13 col v k = (fun _ => 0, k) := by
  unfold leafZ
  rw [if_neg (by omega), if_neg (by omega), if_neg (by omega), if_neg (by omega), all1_0]
theorem leaf_12 (col v : Nat) (k : C3) : leafZ rows K va R 12 col v k = (all1 rows, k) := by
  unfold leafZ
  rw [if_neg (by omega), if_neg (by omega), if_neg (by omega), if_pos rfl]
/-- one note's bitmap, of le with any number -/
def upI (rows : Nat) (K : Nat → CT) (va : Nat → Nat → Nat) (R : Nat → V1) (col : Nat) (v : Int) (k : C3) : Z4 := if v < 0 then (fun _ => 0, k) else upZ rows K va R col v.toNat k
theorem rn_up (col : Nat) (v : Int) (st : List V1) (k : C3) : rnN rows K va R (upN K col v) st k = ((upI rows K va R col v k).1 :: st, (upI rows K va R col v k).2) := by
  unfold upN upI upZ
  by_cases h1 : v < 0
  · rw [if_pos h1, if_pos h1, rnN_c, if_neg (by omega), if_neg (by omega), leaf_13]
    rfl
  · rw [if_neg h1, if_neg h1]
    by_cases h2 : ((K col).2.1 : Int) - 1 ≤ v
    · rw [if_pos h2, if_pos (by omega), rnN_c, if_neg (by omega), if_neg (by omega), leaf_12]
      rfl
    · rw [if_neg h2, if_neg (by omega), rnN_c, if_neg (by omega), if_neg (by omega)]
      rfl
set_option maxRecDepth 100000 in
set_option maxHeartbeats 1000000 in
theorem m_pushesBelow (hI : MI σ cc rows K va R f n pl c t r th) (hP : PS σ τ t rows P tp k) (htp : tp + 2 ≤ 32) (col v : Nat) (hcol : col < cc) (hv : v < 1000) : ab_call 8 0 0 yX10_pushesBelow [rf 57, .inl col, .inl v] τ (fun y σ' => y = .inl none ∧ PS σ σ' t rows (ab_up P tp (upI rows K va R col ((v : Int) - 1) k).1) (tp + 1) (upI rows K va R col ((v : Int) - 1) k).2) := by
  obtain ⟨t', hJ, -⟩ := hP.mi hI
  have q57 := hJ.h57
  unfold upI
  refine eX10_pushesBelow rfl (fun At hA => ?_)
  refine hA 0 _ rfl _ _ _ _ _ ?_
  refine And.intro (by first | assumption | exact b2i_R _ | exact rR (by omega) (by omega) | exact rR (by simp only [Int.toNat_natCast]; omega) (by simp only [Int.toNat_natCast]; omega)) (And.intro (fun q => ?_) (fun q => ?_))
  · have hl := m_pushesLeast hI hP htp col (v - 1) hcol (by omega)
    rw [show ((v - 1 : Nat) : Int) = (v : Int) - 1 by omega] at hl
    have e : ((v : Int) - 1).toNat = v - 1 := by omega
    refine hA 2 _ rfl _ _ _ _ _ ?_
    refine Exists.intro _ (And.intro (by first | assumption | exact st_s | exact st_e (by decide) (by assumption) | exact st_e (by omega) (by assumption) | exact st_e (by decide) st_s | exact st_e (by omega) st_s | exact st_e (by decide) (st_e (by decide) (by assumption)) | exact st_e (by omega) (st_e (by omega) (by assumption))) (And.intro rfl (ab_inv_of hl (by first | decide | omega) (by omega) (by omega) ?_)))
    intro y υ hpost
    obtain ⟨rfl, hP1⟩ := hpost
    
    refine hA 3 _ rfl _ _ _ _ _ ?_
    refine ⟨rfl, ?_⟩
    rw [if_neg (by omega), e]
    exact hP1
  · have ha := m_pushesAll hI hP (by omega) false
    refine hA 1 _ rfl _ _ _ _ _ ?_
    refine Exists.intro _ (And.intro (by first | assumption | exact st_s | exact st_e (by decide) (by assumption) | exact st_e (by omega) (by assumption) | exact st_e (by decide) st_s | exact st_e (by omega) st_s | exact st_e (by decide) (st_e (by decide) (by assumption)) | exact st_e (by omega) (st_e (by omega) (by assumption))) (And.intro rfl (ab_inv_of ha (by first | decide | omega) (by omega) (by omega) ?_)))
    intro y υ hpost
    obtain ⟨rfl, hP1⟩ := hpost
    
    refine hA 3 _ rfl _ _ _ _ _ ?_
    refine ⟨rfl, ?_⟩
    rw [if_pos (by omega)]
    exact hP1
set_option maxRecDepth 100000 in
set_option maxHeartbeats 1000000 in
theorem m_pushesDigit (hI : MI σ cc rows K va R f n pl c t r th) (hP : PS σ τ t rows P tp k) (htp : tp + 2 ≤ 32) (col p x : Nat) (hcol : col < cc) (hp : p < (K col).2.2.1) (hx : x < (K col).2.2.2 p) : ab_call 7 0 0 yX10_pushesDigit [rf 57, .inl col, .inl ((p + 1 : Nat) : Int), .inl x] τ (fun y σ' => y = .inl none ∧ PS σ σ' t rows (ab_up P tp (digZ rows (K col).2.2.2 (BK K va rows col) (K col).1 p x k).1) (tp + 1) (digZ rows (K col).2.2.2 (BK K va rows col) (K col).1 p x k).2) := by
  obtain ⟨t', hJ, -⟩ := hP.mi hI
  have q57 := hJ.h57
  have ho := hI.hK hcol
  have hb3 := ho.2.2.1 p
  have hir := m_isRange q57 (hJ.k hcol)
  have hbo := m_baseOf q57 (hJ.k hcol) p hp
  have hnb : nbm (K col).1 (K col).2.2.2 p = if (K col).1 then (K col).2.2.2 p - 1 else (K col).2.2.2 p := rfl
  unfold digZ
  refine eX10_pushesDigit rfl (fun At hA => ?_)
  have k2 : (!(K col).1 || x == 0) = true → At 2 [some (rf 57), some (.inl col), some (.inl ((p + 1 : Nat) : Int)), some (.inl x)] [] τ 0 0 := fun h => by
    have hxn : x < nbm (K col).1 (K col).2.2.2 p := by
      rw [hnb]
      by_cases h1 : (K col).1 = true
      · rw [if_pos h1]
        rw [h1] at h
        have := beq_iff_eq.mp h
        omega
      · rw [if_neg h1]; omega
    refine hA 2 _ rfl _ _ _ _ _ ?_
    refine Exists.intro _ (And.intro (by first | assumption | exact st_s | exact st_e (by decide) (by assumption) | exact st_e (by omega) (by assumption) | exact st_e (by decide) st_s | exact st_e (by omega) st_s | exact st_e (by decide) (st_e (by decide) (by assumption)) | exact st_e (by omega) (st_e (by omega) (by assumption))) (And.intro rfl (ab_inv_of (m_pushesBitmap hI hP (by omega) col p x hcol hp hxn) (by first | decide | omega) (by omega) (by omega) ?_)))
    intro y υ hpost
    obtain ⟨rfl, hP1⟩ := hpost
    
    refine ⟨rfl, ?_⟩
    rw [if_pos h]
    exact hP1
  refine hA 0 _ rfl _ _ _ _ _ ?_
  refine Exists.intro _ (And.intro (by first | assumption | exact st_s | exact st_e (by decide) (by assumption) | exact st_e (by omega) (by assumption) | exact st_e (by decide) st_s | exact st_e (by omega) st_s | exact st_e (by decide) (st_e (by decide) (by assumption)) | exact st_e (by omega) (st_e (by omega) (by assumption))) (And.intro rfl (ab_inv_ev hir (by first | decide | omega) (by first | exact Nat.le_refl _ | omega) (by first | exact Nat.le_refl _ | omega) ?_)))
  refine And.intro (by first | assumption | exact b2i_R _ | exact rR (by omega) (by omega) | exact rR (by simp only [Int.toNat_natCast]; omega) (by simp only [Int.toNat_natCast]; omega)) (And.intro (fun q => ?_) (fun q => ?_))
  · exact k2 (by rw [b2i_0 q]; rfl)
  · have hρ := b2i_1 q
    refine hA 1 _ rfl _ _ _ _ _ ?_
    refine And.intro (by first | assumption | exact b2i_R _ | exact rR (by omega) (by omega) | exact rR (by simp only [Int.toNat_natCast]; omega) (by simp only [Int.toNat_natCast]; omega)) (And.intro (fun q => ?_) (fun q => ?_))
    · have hx0 : x ≠ 0 := by omega
      have hnt : ¬ (!(K col).1 || x == 0) = true := by rw [hρ, beq_eq_false_iff_ne.mpr hx0]; exact Bool.false_ne_true
      have hn1 : x - 1 < nbm (K col).1 (K col).2.2.2 p := by rw [hnb, hρ, if_pos rfl]; omega
      refine hA 3 _ rfl _ _ _ _ _ ?_
      refine Exists.intro _ (And.intro (by first | assumption | exact st_s | exact st_e (by decide) (by assumption) | exact st_e (by omega) (by assumption) | exact st_e (by decide) st_s | exact st_e (by omega) st_s | exact st_e (by decide) (st_e (by decide) (by assumption)) | exact st_e (by omega) (st_e (by omega) (by assumption))) (And.intro rfl (ab_inv_ev hbo (by first | decide | omega) (by first | exact Nat.le_refl _ | omega) (by first | exact Nat.le_refl _ | omega) ?_)))
      refine And.intro (And.intro (by first | assumption | exact b2i_R _ | exact rR (by omega) (by omega) | exact rR (by simp only [Int.toNat_natCast]; omega) (by simp only [Int.toNat_natCast]; omega)) (by first | assumption | exact b2i_R _ | exact rR (by omega) (by omega) | exact rR (by simp only [Int.toNat_natCast]; omega) (by simp only [Int.toNat_natCast]; omega))) (And.intro (fun q => ?_) (fun q => ?_))
      · have hxn : x < nbm (K col).1 (K col).2.2.2 p := by rw [hnb, hρ, if_pos rfl]; omega
        refine hA 5 _ rfl _ _ _ _ _ ?_
        refine Exists.intro _ (And.intro (by first | assumption | exact st_s | exact st_e (by decide) (by assumption) | exact st_e (by omega) (by assumption) | exact st_e (by decide) st_s | exact st_e (by omega) st_s | exact st_e (by decide) (st_e (by decide) (by assumption)) | exact st_e (by omega) (st_e (by omega) (by assumption))) (And.intro rfl (ab_inv_of (m_pushesBitmap hI hP (by omega) col p x hcol hp hxn) (by first | decide | omega) (by omega) (by omega) ?_)))
        intro y υ hpost
        obtain ⟨rfl, hP1⟩ := hpost
        obtain ⟨t1, hJ1, -⟩ := hP1.mi hI
        have r57 := hJ1.h57
        have hj := m_joinsBitmap hI (z := zbm (BK K va rows col p x) k) hP1 htp 2 col p (x - 1) (by omega) hcol hp hn1
        rw [show ((x - 1 : Nat) : Int) = (x : Int) - 1 by omega] at hj
        refine Exists.intro _ (And.intro (by first | assumption | exact st_s | exact st_e (by decide) (by assumption) | exact st_e (by omega) (by assumption) | exact st_e (by decide) st_s | exact st_e (by omega) st_s | exact st_e (by decide) (st_e (by decide) (by assumption)) | exact st_e (by omega) (st_e (by omega) (by assumption))) (And.intro rfl (ab_inv_of hj (by first | decide | omega) (by omega) (by omega) ?_)))
        intro y υ2 hpost
        obtain ⟨rfl, hP2⟩ := hpost
        
        refine ⟨rfl, ?_⟩
        rw [if_neg hnt, if_neg (fun h => by have := beq_iff_eq.mp h; omega)]
        exact hP2
      · have hpb := m_pushesBitmap hI hP (by omega) col p (x - 1) hcol hp hn1
        rw [show ((x - 1 : Nat) : Int) = (x : Int) - 1 by omega] at hpb
        refine hA 4 _ rfl _ _ _ _ _ ?_
        refine Exists.intro _ (And.intro (by first | assumption | exact st_s | exact st_e (by decide) (by assumption) | exact st_e (by omega) (by assumption) | exact st_e (by decide) st_s | exact st_e (by omega) st_s | exact st_e (by decide) (st_e (by decide) (by assumption)) | exact st_e (by omega) (st_e (by omega) (by assumption))) (And.intro rfl (ab_inv_of hpb (by first | decide | omega) (by omega) (by omega) ?_)))
        intro y υ hpost
        obtain ⟨rfl, hP1⟩ := hpost
        obtain ⟨t1, hJ1, -⟩ := hP1.mi hI
        have r57 := hJ1.h57
        have htt := m_turnsTop hI hP1 (by omega)
        rw [ab_up_s] at htt
        refine Exists.intro _ (And.intro (by first | assumption | exact st_s | exact st_e (by decide) (by assumption) | exact st_e (by omega) (by assumption) | exact st_e (by decide) st_s | exact st_e (by omega) st_s | exact st_e (by decide) (st_e (by decide) (by assumption)) | exact st_e (by omega) (st_e (by omega) (by assumption))) (And.intro rfl (ab_inv_of htt (by first | decide | omega) (by omega) (by omega) ?_)))
        intro y υ2 hpost
        obtain ⟨rfl, hP2⟩ := hpost
        
        refine ⟨rfl, ?_⟩
        rw [if_neg hnt, if_pos (beq_iff_eq.mpr (by omega))]
        exact hP2.ext (fun i hi => by
          by_cases e : i = tp
          · subst e; rw [ab_up_s, ab_up_s]; rfl
          · rw [ab_up_n e, ab_up_n e, ab_up_n e])
    · exact k2 (by rw [show x = 0 by omega]; exact Bool.or_true _)
/-- eq of a number that need not be a value -/
def eqU (rows : Nat) (K : Nat → CT) (va : Nat → Nat → Nat) (col v : Nat) (k : C3) : Z4 := if (K col).2.1 ≤ v then (fun _ => 0, k) else eqZ rows (K col).2.2.2 (BK K va rows col) (K col).1 (K col).2.2.1 v k
theorem rn_eqN (col v : Nat) (st : List V1) (k : C3) : rnN rows K va R (eqN K col v) st k = ((eqU rows K va col v k).1 :: st, (eqU rows K va col v k).2) := by
  unfold eqN eqU
  by_cases h : v < (K col).2.1
  · rw [if_pos h, if_neg (by omega), rnN_c, if_neg (by omega), if_neg (by omega)]
    rfl
  · rw [if_neg h, if_pos (by omega), rnN_c, if_neg (by omega), if_neg (by omega), leaf_13]
    rfl
set_option maxRecDepth 100000 in
set_option maxHeartbeats 1000000 in
theorem m_pushesEqual (hI : MI σ cc rows K va R f n pl c t r th) (hP : PS σ τ t rows P tp k) (htp : tp + 3 ≤ 32) (col v : Nat) (hcol : col < cc) (hv : v < 1000) : ab_call 8 0 0 yX10_pushesEqual [rf 57, .inl col, .inl v] τ (fun y σ' => y = .inl none ∧ PS σ σ' t rows (ab_up P tp (eqU rows K va col v k).1) (tp + 1) (eqU rows K va col v k).2) := by
  have ho := hI.hK hcol
  obtain ⟨o1, o2, o3, o4, o5, -⟩ := id ho
  obtain ⟨t', hJ, -⟩ := hP.mi hI
  have q57 := hJ.h57
  obtain ⟨a1, a2, a3, gg, a4, a5, a6, a7, a8⟩ := hJ.k hcol
  have hd0 := m_digit q57 (hJ.k hcol) 0 (by omega) v (by omega)
  refine eX10_pushesEqual rfl (fun At hA => ?_)
  have loop : ∀ (m p : Nat) (υ : ab_H), p + 1 + m = (K col).2.2.1 → ¬ (K col).2.1 ≤ v → PS σ υ t rows (ab_up P tp (zf (eqZs rows (K col).2.2.2 (BK K va rows col) (K col).1 v) (digZ rows (K col).2.2.2 (BK K va rows col) (K col).1 0 (dig (K col).2.2.2 0 v) k) p).1) (tp + 1) (zf (eqZs rows (K col).2.2.2 (BK K va rows col) (K col).1 v) (digZ rows (K col).2.2.2 (BK K va rows col) (K col).1 0 (dig (K col).2.2.2 0 v) k) p).2 → At 3 [some (rf 57), some (.inl col), some (.inl v), some (.inl ((p + 2 : Nat) : Int))] [] υ 0 0 := by
    intro m
    induction m with
    | zero =>
      intro p υ hp hn hP1
      obtain ⟨t1, hJ1, -⟩ := hP1.mi hI
      have r57 := hJ1.h57
      obtain ⟨b1, b2, b3, hh, b4, b5, b6, b7, b8⟩ := hJ1.k hcol
      refine hA 3 _ rfl _ _ _ _ _ ?_
      refine Exists.intro _ (And.intro (r57) ?_)
      refine Exists.intro _ (Exists.intro _ (And.intro (b3) (And.intro (by omega) ?_)))
      refine Exists.intro _ (Exists.intro _ (And.intro (b4) (And.intro (by omega) ?_)))
      refine And.intro (And.intro (rR (by omega) (by omega)) (show ab_R (hh 1) from rR (by omega) (by omega))) (And.intro (fun q => ?_) (fun q => ?_))
      · refine hA 5 _ rfl _ _ _ _ _ ?_
        refine ⟨rfl, ?_⟩
        unfold eqU eqZ
        rw [if_neg hn, show (K col).2.2.1 - 1 = p by omega]
        exact hP1
      · have q : ((p + 2 : Nat) : Int) ≤ hh 1 := q
        omega
    | succ m ih =>
      intro p υ hp hn hP1
      obtain ⟨t1, hJ1, -⟩ := hP1.mi hI
      have r57 := hJ1.h57
      have hd := m_digit r57 (hJ1.k hcol) (p + 1) (by omega) v (by omega)
      have hdl := dig_lt o3 (p + 1) v
      obtain ⟨b1, b2, b3, hh, b4, b5, b6, b7, b8⟩ := hJ1.k hcol
      generalize hz : zf (eqZs rows (K col).2.2.2 (BK K va rows col) (K col).1 v) (digZ rows (K col).2.2.2 (BK K va rows col) (K col).1 0 (dig (K col).2.2.2 0 v) k) p = z at hP1
      refine hA 3 _ rfl _ _ _ _ _ ?_
      refine Exists.intro _ (And.intro (r57) ?_)
      refine Exists.intro _ (Exists.intro _ (And.intro (b3) (And.intro (by omega) ?_)))
      refine Exists.intro _ (Exists.intro _ (And.intro (b4) (And.intro (by omega) ?_)))
      refine And.intro (And.intro (rR (by omega) (by omega)) (show ab_R (hh 1) from rR (by omega) (by omega))) (And.intro (fun q => ?_) (fun q => ?_))
      · have q : hh 1 < ((p + 2 : Nat) : Int) := q
        omega
      · refine hA 4 _ rfl _ _ _ _ _ ?_
        refine Exists.intro _ (And.intro (by first | assumption | exact st_s | exact st_e (by decide) (by assumption) | exact st_e (by omega) (by assumption) | exact st_e (by decide) st_s | exact st_e (by omega) st_s | exact st_e (by decide) (st_e (by decide) (by assumption)) | exact st_e (by omega) (st_e (by omega) (by assumption))) (And.intro rfl (ab_inv_ev hd (by first | decide | omega) (by first | exact Nat.le_refl _ | omega) (by first | exact Nat.le_refl _ | omega) ?_)))
        refine Exists.intro _ (And.intro (by first | assumption | exact st_s | exact st_e (by decide) (by assumption) | exact st_e (by omega) (by assumption) | exact st_e (by decide) st_s | exact st_e (by omega) st_s | exact st_e (by decide) (st_e (by decide) (by assumption)) | exact st_e (by omega) (st_e (by omega) (by assumption))) (And.intro rfl (ab_inv_of (m_pushesDigit hI hP1 (by omega) col (p + 1) (dig (K col).2.2.2 (p + 1) v) hcol (by omega) hdl) (by first | decide | omega) (by omega) (by omega) ?_)))
        intro y υ2 hpost
        obtain ⟨rfl, hP2⟩ := hpost
        obtain ⟨t2, hJ2, -⟩ := hP2.mi hI
        have s57 := hJ2.h57
        have hop := m_operates hI hP2 (by omega) 0 (by omega)
        rw [ab_up_n (show tp ≠ tp + 1 by omega), ab_up_s, ab_up_s] at hop
        refine Exists.intro _ (And.intro (by first | assumption | exact st_s | exact st_e (by decide) (by assumption) | exact st_e (by omega) (by assumption) | exact st_e (by decide) st_s | exact st_e (by omega) st_s | exact st_e (by decide) (st_e (by decide) (by assumption)) | exact st_e (by omega) (st_e (by omega) (by assumption))) (And.intro rfl (ab_inv_of hop (by first | decide | omega) (by omega) (by omega) ?_)))
        intro y υ3 hpost
        obtain ⟨rfl, hP3⟩ := hpost
        have ihp := ih (p + 1) υ3 (by omega) hn (by
          rw [zf_s, hz]
          exact hP3.ext (fun i hi => by
            by_cases e : i = tp
            · subst e; rw [ab_up_s, ab_up_s]; rfl
            · rw [ab_up_n e, ab_up_n (by omega), ab_up_n e, ab_up_n e]))
        
        exact ihp
  refine hA 0 _ rfl _ _ _ _ _ ?_
  refine Exists.intro _ (And.intro (q57) ?_)
  refine Exists.intro _ (Exists.intro _ (And.intro (a3) (And.intro (by omega) ?_)))
  refine Exists.intro _ (Exists.intro _ (And.intro (a4) (And.intro (by omega) ?_)))
  refine And.intro (And.intro (rR (by omega) (by omega)) (show ab_R (gg 0) from rR (by omega) (by omega))) (And.intro (fun q => ?_) (fun q => ?_))
  · have q : (v : Int) < gg 0 := q
    have hdl := dig_lt o3 0 v
    refine hA 2 _ rfl _ _ _ _ _ ?_
    refine Exists.intro _ (And.intro (by first | assumption | exact st_s | exact st_e (by decide) (by assumption) | exact st_e (by omega) (by assumption) | exact st_e (by decide) st_s | exact st_e (by omega) st_s | exact st_e (by decide) (st_e (by decide) (by assumption)) | exact st_e (by omega) (st_e (by omega) (by assumption))) (And.intro rfl (ab_inv_ev hd0 (by first | decide | omega) (by first | exact Nat.le_refl _ | omega) (by first | exact Nat.le_refl _ | omega) ?_)))
    refine Exists.intro _ (And.intro (by first | assumption | exact st_s | exact st_e (by decide) (by assumption) | exact st_e (by omega) (by assumption) | exact st_e (by decide) st_s | exact st_e (by omega) st_s | exact st_e (by decide) (st_e (by decide) (by assumption)) | exact st_e (by omega) (st_e (by omega) (by assumption))) (And.intro rfl (ab_inv_of (m_pushesDigit hI hP (by omega) col 0 (dig (K col).2.2.2 0 v) hcol (by omega) hdl) (by first | decide | omega) (by omega) (by omega) ?_)))
    intro y υ2 hpost
    obtain ⟨rfl, hP2⟩ := hpost
    have l0 := loop ((K col).2.2.1 - 1) 0 υ2 (by omega) (by omega) hP2
    
    exact l0
  · have q : gg 0 ≤ (v : Int) := q
    have ha := m_pushesAll hI hP (by omega) false
    refine hA 1 _ rfl _ _ _ _ _ ?_
    refine Exists.intro _ (And.intro (by first | assumption | exact st_s | exact st_e (by decide) (by assumption) | exact st_e (by omega) (by assumption) | exact st_e (by decide) st_s | exact st_e (by omega) st_s | exact st_e (by decide) (st_e (by decide) (by assumption)) | exact st_e (by omega) (st_e (by omega) (by assumption))) (And.intro rfl (ab_inv_of ha (by first | decide | omega) (by omega) (by omega) ?_)))
    intro y υ hpost
    obtain ⟨rfl, hP1⟩ := hpost
    
    refine ⟨rfl, ?_⟩
    unfold eqU
    rw [if_pos (by omega)]
    exact hP1
/-- in -/
def btI (rows : Nat) (K : Nat → CT) (va : Nat → Nat → Nat) (R : Nat → V1) (col lo hi : Nat) (k : C3) : Z4 := if hi < lo then (fun _ => 0, k) else if lo = 0 then upZ rows K va R col hi k else (jn 3 (upZ rows K va R col hi k).1 (upZ rows K va R col (lo - 1) (upZ rows K va R col hi k).2).1, (upZ rows K va R col (lo - 1) (upZ rows K va R col hi k).2).2.1, (upZ rows K va R col (lo - 1) (upZ rows K va R col hi k).2).2.2.1 + 1, (upZ rows K va R col (lo - 1) (upZ rows K va R col hi k).2).2.2.2 + stp (gu rows) (upZ rows K va R col hi k).1 (upZ rows K va R col (lo - 1) (upZ rows K va R col hi k).2).1)
theorem upI_n (col v : Nat) (k : C3) : upI rows K va R col (v : Int) k = upZ rows K va R col v k := by
  unfold upI
  rw [if_neg (by omega), Int.toNat_natCast]
theorem rn_bt (col lo hi : Nat) (st : List V1) (k : C3) : rnN rows K va R (btwN K col lo hi) st k = ((btI rows K va R col lo hi k).1 :: st, (btI rows K va R col lo hi k).2) := by
  unfold btwN btI
  by_cases h : hi < lo
  · rw [if_pos h, if_pos h, rnN_c, if_neg (by omega), if_neg (by omega), leaf_13]
    rfl
  · rw [if_neg h, if_neg h]
    by_cases h0 : lo = 0
    · rw [if_pos h0, if_neg (by omega), List.append_nil, rn_up, upI_n]
    · rw [if_neg h0, if_pos (by omega), rnN_app, rn_up, upI_n, rnN_app, show (lo : Int) - 1 = ((lo - 1 : Nat) : Int) by omega, rn_up, upI_n, rnN_c, if_neg (by omega), if_pos (by omega)]
      rfl
set_option maxRecDepth 100000 in
set_option maxHeartbeats 1000000 in
theorem m_pushesBetween (hI : MI σ cc rows K va R f n pl c t r th) (hP : PS σ τ t rows P tp k) (htp : tp + 3 ≤ 32) (col lo hi : Nat) (hcol : col < cc) (hlo : lo < 1000) (hhi : hi < 1000) : ab_call 8 0 0 yX10_pushesBetween [rf 57, .inl col, .inl lo, .inl hi] τ (fun y σ' => y = .inl none ∧ PS σ σ' t rows (ab_up P tp (btI rows K va R col lo hi k).1) (tp + 1) (btI rows K va R col lo hi k).2) := by
  obtain ⟨t', hJ, -⟩ := hP.mi hI
  have q57 := hJ.h57
  unfold btI
  refine eX10_pushesBetween rfl (fun At hA => ?_)
  refine hA 0 _ rfl _ _ _ _ _ ?_
  refine And.intro (And.intro (by first | assumption | exact b2i_R _ | exact rR (by omega) (by omega) | exact rR (by simp only [Int.toNat_natCast]; omega) (by simp only [Int.toNat_natCast]; omega)) (by first | assumption | exact b2i_R _ | exact rR (by omega) (by omega) | exact rR (by simp only [Int.toNat_natCast]; omega) (by simp only [Int.toNat_natCast]; omega))) (And.intro (fun q => ?_) (fun q => ?_))
  · refine hA 2 _ rfl _ _ _ _ _ ?_
    refine Exists.intro _ (And.intro (by first | assumption | exact st_s | exact st_e (by decide) (by assumption) | exact st_e (by omega) (by assumption) | exact st_e (by decide) st_s | exact st_e (by omega) st_s | exact st_e (by decide) (st_e (by decide) (by assumption)) | exact st_e (by omega) (st_e (by omega) (by assumption))) (And.intro rfl (ab_inv_of (m_pushesLeast hI hP (by omega) col hi hcol hhi) (by first | decide | omega) (by omega) (by omega) ?_)))
    intro y υ hpost
    obtain ⟨rfl, hP1⟩ := hpost
    obtain ⟨t1, hJ1, -⟩ := hP1.mi hI
    have r57 := hJ1.h57
    refine And.intro (by first | assumption | exact b2i_R _ | exact rR (by omega) (by omega) | exact rR (by simp only [Int.toNat_natCast]; omega) (by simp only [Int.toNat_natCast]; omega)) (And.intro (fun q => ?_) (fun q => ?_))
    · have hl := m_pushesLeast hI hP1 (by omega) col (lo - 1) hcol (by omega)
      rw [show ((lo - 1 : Nat) : Int) = (lo : Int) - 1 by omega] at hl
      refine hA 4 _ rfl _ _ _ _ _ ?_
      refine Exists.intro _ (And.intro (by first | assumption | exact st_s | exact st_e (by decide) (by assumption) | exact st_e (by omega) (by assumption) | exact st_e (by decide) st_s | exact st_e (by omega) st_s | exact st_e (by decide) (st_e (by decide) (by assumption)) | exact st_e (by omega) (st_e (by omega) (by assumption))) (And.intro rfl (ab_inv_of hl (by first | decide | omega) (by omega) (by omega) ?_)))
      intro y υ2 hpost
      obtain ⟨rfl, hP2⟩ := hpost
      obtain ⟨t2, hJ2, -⟩ := hP2.mi hI
      have s57 := hJ2.h57
      have hop := m_operates hI hP2 (by omega) 3 (by omega)
      rw [ab_up_n (show tp ≠ tp + 1 by omega), ab_up_s, ab_up_s] at hop
      refine Exists.intro _ (And.intro (by first | assumption | exact st_s | exact st_e (by decide) (by assumption) | exact st_e (by omega) (by assumption) | exact st_e (by decide) st_s | exact st_e (by omega) st_s | exact st_e (by decide) (st_e (by decide) (by assumption)) | exact st_e (by omega) (st_e (by omega) (by assumption))) (And.intro rfl (ab_inv_of hop (by first | decide | omega) (by omega) (by omega) ?_)))
      intro y υ3 hpost
      obtain ⟨rfl, hP3⟩ := hpost
      
      refine ⟨rfl, ?_⟩
      rw [if_neg (by omega), if_neg (by omega)]
      exact hP3.ext (fun i hi => by
        by_cases e : i = tp
        · subst e; rw [ab_up_s, ab_up_s]
        · rw [ab_up_n e, ab_up_n (by omega), ab_up_n e, ab_up_n e])
    · refine hA 3 _ rfl _ _ _ _ _ ?_
      refine ⟨rfl, ?_⟩
      rw [if_neg (by omega), if_pos (by omega)]
      exact hP1
  · have ha := m_pushesAll hI hP (by omega) false
    refine hA 1 _ rfl _ _ _ _ _ ?_
    refine Exists.intro _ (And.intro (by first | assumption | exact st_s | exact st_e (by decide) (by assumption) | exact st_e (by omega) (by assumption) | exact st_e (by decide) st_s | exact st_e (by omega) st_s | exact st_e (by decide) (st_e (by decide) (by assumption)) | exact st_e (by omega) (st_e (by omega) (by assumption))) (And.intro rfl (ab_inv_of ha (by first | decide | omega) (by omega) (by omega) ?_)))
    intro y υ hpost
    obtain ⟨rfl, hP1⟩ := hpost
    
    refine ⟨rfl, ?_⟩
    rw [if_pos (by omega)]
    exact hP1
/-- so many of the pile from one on, the last one first -/
def stF (P : Nat → V1) (from' : Nat) : Nat → List V1
  | 0 => []
  | m + 1 => P (from' + m) :: stF P from' m
theorem stl_F (P : Nat → V1) (a : Nat) : ∀ b, stl P (a + b) = stF P a b ++ stl P a := by
  intro b
  induction b with
  | zero => rfl
  | succ b ih =>
    show P (a + b) :: stl P (a + b) = (P (a + b) :: stF P a b) ++ stl P a
    rw [ih]
    rfl
theorem stF_len (P : Nat → V1) (a : Nat) : ∀ b, (stF P a b).length = b := by
  intro b
  induction b with
  | zero => rfl
  | succ b ih => show (stF P a b).length + 1 = _; rw [ih]
theorem stl_take (P : Nat → V1) (a b : Nat) : (stl P (a + b)).take b = stF P a b := by
  rw [stl_F, List.take_left' (stF_len P a b)]
theorem stl_drop (P : Nat → V1) (a b : Nat) : (stl P (a + b)).drop b = stl P a := by
  rw [stl_F, List.drop_left' (stF_len P a b)]
theorem stl_len (P : Nat → V1) : ∀ a, (stl P a).length = a := by
  intro a
  induction a with
  | zero => rfl
  | succ a ih => show (stl P a).length + 1 = _; rw [ih]
theorem jr_F (P : Nat → V1) (u kind a m : Nat) : jr u kind (stF P a (m + 2)) = (jn kind (jr u kind (stF P a (m + 1))).1 (P (a + (m + 1))), cp (jr u kind (stF P a (m + 1))).2 (0, 1, stp u (jr u kind (stF P a (m + 1))).1 (P (a + (m + 1))))) := jr_c u kind _ _ _
set_option maxRecDepth 100000 in
set_option maxHeartbeats 1000000 in
theorem m_joinsAll (hI : MI σ cc rows K va R f n pl c t r th) (a m : Nat) (ha : 1 ≤ m) (hP : PS σ τ t rows P (a + m) k) (htp : a + m ≤ 32) (kind : Nat) (hk : kind < 4) : ab_call 5 0 0 yX10_joinsAll [rf 57, .inl kind, .inl m] τ (fun y σ' => y = .inl none ∧ PS σ σ' t rows (ab_up P a (jr (gu rows) kind (stF P a m)).1) (a + 1) (cp k (jr (gu rows) kind (stF P a m)).2)) := by
  obtain ⟨t', hJ, ht, h20, -⟩ := hP.mi hI
  have q57 := hJ.h57
  have e20 : t' 20 - (m : Int) = (a : Nat) := by omega
  refine eX10_joinsAll rfl (fun At hA => ?_)
  have loop : ∀ (w i : Nat) (υ : ab_H), i + 1 + w = m → PS σ υ t rows (ab_up P a (jr (gu rows) kind (stF P a (i + 1))).1) (a + m) (cp k (jr (gu rows) kind (stF P a (i + 1))).2) → At 1 [some (rf 57), some (.inl kind), some (.inl m), some (.inl a), some (.inl ((i + 1 : Nat) : Int))] [] υ 0 0 := by
    intro w
    induction w with
    | zero =>
      intro i υ hi hP1
      obtain ⟨t1, hJ1, gt, g20, g21, g22, g23⟩ := hP1.mi hI
      have r57 := hJ1.h57
      have hi : i + 1 = m := by omega
      rw [hi] at hP1 g21 g22 g23
      refine hA 1 _ rfl _ _ _ _ _ ?_
      refine And.intro (And.intro (by first | assumption | exact b2i_R _ | exact rR (by omega) (by omega) | exact rR (by simp only [Int.toNat_natCast]; omega) (by simp only [Int.toNat_natCast]; omega)) (by first | assumption | exact b2i_R _ | exact rR (by omega) (by omega) | exact rR (by simp only [Int.toNat_natCast]; omega) (by simp only [Int.toNat_natCast]; omega))) (And.intro (fun q => ?_) (fun q => ?_))
      · refine hA 3 _ rfl _ _ _ _ _ ?_
        refine Exists.intro _ (And.intro (r57) ?_)
        rw [m10_s20]
        refine ⟨rfl, ?_⟩
        obtain ⟨p1, -, p3, p4⟩ := hP1
        refine ⟨p1.st (by unfold piA; omega), ⟨_, st_s, fun j hj => ?_, ?_, ?_, ?_, ?_⟩, fun j hj => ?_, fun j hj => ?_⟩
        · rw [ab_up_n (by omega)]; exact gt j hj
        · rw [ab_up_s]; omega
        · rw [ab_up_n (by omega)]; exact g21
        · rw [ab_up_n (by omega)]; exact g22
        · rw [ab_up_n (by omega)]; exact g23
        · have := p3 j (by omega)
          exact ⟨st_e (by omega) this.1, this.2⟩
        · obtain ⟨g, hg⟩ := p4 j hj
          exact ⟨g, st_e (by omega) hg⟩
      · omega
    | succ w ih =>
      intro i υ hi hP1
      obtain ⟨t1, hJ1, gt, g20, g21, g22, g23⟩ := hP1.mi hI
      have r57 := hJ1.h57
      obtain ⟨hg, hgh⟩ := hP1.2.2.1 a (by omega)
      obtain ⟨hf, hfh⟩ := hP1.2.2.1 (a + (i + 1)) (by omega)
      rw [ab_up_s] at hg hgh
      rw [ab_up_n (by omega)] at hf hfh
      have hjr := jr_F P (gu rows) kind a i
      generalize hv : (jr (gu rows) kind (stF P a (i + 1))).1 = v at hP1 hg hgh hjr
      generalize hd : (jr (gu rows) kind (stF P a (i + 1))).2 = d at hP1 g21 g22 g23 hjr
      have ei : ((a : Int) + ((i + 1 : Nat) : Int)).toNat = a + (i + 1) := by omega
      refine hA 1 _ rfl _ _ _ _ _ ?_
      refine And.intro (And.intro (by first | assumption | exact b2i_R _ | exact rR (by omega) (by omega) | exact rR (by simp only [Int.toNat_natCast]; omega) (by simp only [Int.toNat_natCast]; omega)) (by first | assumption | exact b2i_R _ | exact rR (by omega) (by omega) | exact rR (by simp only [Int.toNat_natCast]; omega) (by simp only [Int.toNat_natCast]; omega))) (And.intro (fun q => ?_) (fun q => ?_))
      · omega
      · refine hA 2 _ rfl _ _ _ _ _ ?_
        refine Exists.intro _ (And.intro (r57) ?_)
        refine Exists.intro _ (And.intro (r57) ?_)
        rw [m10_s22]
        generalize hu : ab_up t1 22 (t1 22 + 1) = u
        have hJ2 : MI (ab_st υ 57 (m10 u)) cc rows K va R f n pl c u r th := hJ1.tt (by rw [← hu, ab_up_n (by omega)]; exact hJ1.t0) (fun j hj => by rw [← hu, ab_up_n (by omega)])
        have g2 : (ab_st υ 57 (m10 u)).2 (281 + a) = some (bmc v) := st_e (by omega) hg
        have f2 : (ab_st υ 57 (m10 u)).2 (281 + (a + (i + 1))) = some (bmc (P (a + (i + 1)))) := st_e (by omega) hf
        have r57' := hJ2.h57
        have r280 := hJ2.h280
        refine Exists.intro _ (And.intro (st_s) ?_)
        refine Exists.intro _ (And.intro (st_s) ?_)
        refine Exists.intro _ (Exists.intro _ (And.intro (r280) (And.intro (by omega) ?_)))
        refine Exists.intro _ (And.intro (st_s) ?_)
        refine Exists.intro _ (Exists.intro _ (And.intro (r280) (And.intro (by omega) ?_)))
        rw [ei]
        refine Exists.intro _ (And.intro r57' (And.intro rfl (ab_inv_ev (m_stepsOf r57' hJ2.t13 hJ2.hr g2 hgh.1 f2 hfh.1) (by first | decide | omega) (by first | exact Nat.le_refl _ | omega) (by first | exact Nat.le_refl _ | omega) ?_)))
        refine Exists.intro _ (And.intro (st_s) ?_)
        rw [m10_s23, st_st]
        generalize hw : ab_up u 23 (u 23 + ((stp (gu rows) v (P (a + (i + 1))) : Nat) : Int)) = x
        have hJ3 : MI (ab_st υ 57 (m10 x)) cc rows K va R f n pl c x r th := hJ1.tt (by rw [← hw, ab_up_n (by omega), ← hu, ab_up_n (by omega)]; exact hJ1.t0) (fun j hj => by rw [← hw, ab_up_n (by omega), ← hu, ab_up_n (by omega)])
        have g3 : (ab_st υ 57 (m10 x)).2 (281 + a) = some (bmc v) := st_e (by omega) hg
        have f3 : (ab_st υ 57 (m10 x)).2 (281 + (a + (i + 1))) = some (bmc (P (a + (i + 1)))) := st_e (by omega) hf
        have w57 := hJ3.h57
        have w280 := hJ3.h280
        have ihi := ih (i + 1) (ab_st (ab_st υ (281 + a) (bmc (jn kind v (P (a + (i + 1)))))) 57 (m10 x)) (by omega) (by
          rw [hjr]
          refine PS.ext (hP1.mk (tp' := a + m) (x := a) (by omega) (fun j hj => ?_) ?_ ?_ ?_ ?_ (hi0_jn hgh hfh) (fun j hj => by omega)) (fun j hj => by
            by_cases e : j = a
            · subst e; rw [ab_up_s, ab_up_s]
            · rw [ab_up_n e, ab_up_n e, ab_up_n e])
          · rw [← hw, ab_up_n (by omega), ← hu, ab_up_n (by omega)]; exact gt j hj
          · rw [← hw, ab_up_n (by omega), ← hu, ab_up_n (by omega)]; exact g20
          · rw [← hw, ab_up_n (by omega), ← hu, ab_up_n (by omega), g21]; rfl
          · rw [← hw, ab_up_n (by omega), ← hu, ab_up_s, g22]; rfl
          · rw [← hw, ab_up_s, ← hu, ab_up_n (by omega), g23]; show ((k.2.2 + d.2.2 : Nat) : Int) + ((stp (gu rows) v (P (a + (i + 1))) : Nat) : Int) = ((k.2.2 + (d.2.2 + stp (gu rows) v (P (a + (i + 1)))) : Nat) : Int); omega)
        rw [st_cm (by omega)] at ihi
        refine Exists.intro _ (And.intro (st_s) ?_)
        refine Exists.intro _ (Exists.intro _ (And.intro (w280) (And.intro (by omega) ?_)))
        refine Exists.intro _ (And.intro (st_s) ?_)
        refine Exists.intro _ (Exists.intro _ (And.intro (w280) (And.intro (by omega) ?_)))
        rw [ei]
        refine Exists.intro _ (And.intro (st_s) ?_)
        refine Exists.intro _ (Exists.intro _ (And.intro (w280) (And.intro (by omega) ?_)))
        refine Exists.intro _ (And.intro w57 (And.intro rfl (ab_inv_ev (m_joins g3 g3 f3 hgh.1 hfh.1 kind hk) (by first | decide | omega) (by first | exact Nat.le_refl _ | omega) (by first | exact Nat.le_refl _ | omega) ?_)))
        exact ihi
  have l0 := loop (m - 1) 0 τ (by omega) (PS.ext hP (fun i hi => by
    by_cases e : i = a
    · subst e; rw [ab_up_s]; rfl
    · rw [ab_up_n e]))
  rw [← e20] at l0
  refine hA 0 _ rfl _ _ _ _ _ ?_
  refine Exists.intro _ (And.intro (q57) ?_)
  exact l0
set_option maxRecDepth 100000 in
set_option maxHeartbeats 1000000 in
theorem m_pushesResult (hI : MI σ cc rows K va R f n pl c t r th) (hP : PS σ τ t rows P tp k) (htp : tp < 32) (x : Nat) (hx : x < 6) : ab_call 4 0 0 yX10_pushesResult [rf 57, .inl x] τ (fun z σ' => z = .inl none ∧ PS σ σ' t rows (ab_up P tp (R x)) (tp + 1) (k.1 + 1, k.2.1, k.2.2)) := by
  obtain ⟨t', hJ, ht, h20, h21, h22, h23⟩ := hP.mi hI
  have q57 := hJ.h57
  obtain ⟨g, hg⟩ := hP.2.2.2 tp htp
  refine eX10_pushesResult rfl (fun At hA => ?_)
  refine hA 0 _ rfl _ _ _ _ _ ?_
  refine Exists.intro _ (And.intro (q57) ?_)
  refine Exists.intro _ (And.intro (q57) ?_)
  rw [m10_s21]
  generalize hu : ab_up t' 21 (t' 21 + 1) = u
  have u20 : u 20 = tp := by rw [← hu, ab_up_n (by omega)]; exact h20
  have ui : (u 20).toNat = tp := by omega
  have hJ2 : MI (ab_st τ 57 (m10 u)) cc rows K va R f n pl c u r th := hJ.tt (by rw [← hu, ab_up_n (by omega)]; exact hJ.t0) (fun j hj => by rw [← hu, ab_up_n (by omega)])
  have hL := m_copies (σ := ab_st τ 57 (m10 u)) (c := 281 + tp) (a := 73 + x) (o := g) (f := R x) (st_e (by omega) hg) (hJ2.rs hx)
  have s57 : (ab_st (ab_st τ 57 (m10 u)) (281 + tp) (bmc (R x))).2 57 = some (m10 u) := st_e (by omega) st_s
  refine Exists.intro _ (And.intro (st_s) ?_)
  refine Exists.intro _ (Exists.intro _ (And.intro (hJ2.h72) (And.intro (by omega) ?_)))
  refine Exists.intro _ (And.intro (st_s) ?_)
  refine Exists.intro _ (And.intro (st_s) ?_)
  refine Exists.intro _ (Exists.intro _ (And.intro (hJ2.h280) (And.intro (by omega) ?_)))
  rw [ui]
  refine And.intro rfl (ab_inv_ev hL (by first | decide | omega) (by first | exact Nat.le_refl _ | omega) (by first | exact Nat.le_refl _ | omega) ?_)
  refine Exists.intro _ (And.intro (s57) ?_)
  refine Exists.intro _ (And.intro (s57) ?_)
  rw [m10_s20, st_3 (by omega)]
  refine ⟨rfl, hP.mk (tp' := tp + 1) htp (fun j hj => ?_) ?_ ?_ ?_ ?_ (hI.hR (by omega)) (fun i hi => by omega)⟩
  · rw [ab_up_n (by omega), ← hu, ab_up_n (by omega)]; exact ht j hj
  · rw [ab_up_s, u20]; rfl
  · rw [ab_up_n (by omega), ← hu, ab_up_s, h21]; rfl
  · rw [ab_up_n (by omega), ← hu, ab_up_n (by omega)]; exact h22
  · rw [ab_up_n (by omega), ← hu, ab_up_n (by omega)]; exact h23
set_option maxRecDepth 100000 in
set_option maxHeartbeats 1000000 in
theorem m_withLive (hI : MI σ cc rows K va R f n pl c t r th) (hP : PS σ τ t rows P 1 k) : ab_call 6 0 0 yX10_withLive [rf 57] τ (fun z σ' => z = .inl none ∧ PS σ σ' t rows (ab_up P 0 (jn 0 (P 0) (R 6))) 1 (k.1 + 1, k.2.1 + 1, k.2.2 + stp (gu rows) (P 0) (R 6))) := by
  obtain ⟨t', hJ, ht, h20, h21, h22, h23⟩ := hP.mi hI
  have q57 := hJ.h57
  obtain ⟨g, hg⟩ := hP.2.2.2 1 (by omega)
  refine eX10_withLive rfl (fun At hA => ?_)
  refine hA 0 _ rfl _ _ _ _ _ ?_
  refine Exists.intro _ (And.intro (q57) ?_)
  refine Exists.intro _ (And.intro (q57) ?_)
  rw [m10_s21]
  generalize hu : ab_up t' 21 (t' 21 + 1) = u
  have u20 : u 20 = 1 := by rw [← hu, ab_up_n (by omega)]; exact h20
  have ui : (u 20).toNat = 1 := by omega
  have hJ2 : MI (ab_st τ 57 (m10 u)) cc rows K va R f n pl c u r th := hJ.tt (by rw [← hu, ab_up_n (by omega)]; exact hJ.t0) (fun j hj => by rw [← hu, ab_up_n (by omega)])
  have hL := m_laysLive hJ2.h57 hJ2.t13 hJ2.hr (hJ2.hR (i := 6) (by omega)) hJ2.g (h := 282) (by omega) (o := g) (st_e (by omega) hg)
  have s57 : (ab_st (ab_st τ 57 (m10 u)) 282 (bmc (R 6))).2 57 = some (m10 u) := st_e (by omega) st_s
  have hP2 : PS σ (ab_st (ab_st τ 282 (bmc (R 6))) 57 (m10 (ab_up u 20 (u 20 + 1)))) t rows (ab_up P 1 (R 6)) (0 + 2) (k.1 + 1, k.2.1, k.2.2) := by
    refine hP.mk (x := 1) (tp' := 0 + 2) (by omega) (fun j hj => ?_) ?_ ?_ ?_ ?_ (hI.hR (by omega)) (fun i hi => by omega)
    · rw [ab_up_n (by omega), ← hu, ab_up_n (by omega)]; exact ht j hj
    · rw [ab_up_s, u20]; rfl
    · rw [ab_up_n (by omega), ← hu, ab_up_s, h21]; rfl
    · rw [ab_up_n (by omega), ← hu, ab_up_n (by omega)]; exact h22
    · rw [ab_up_n (by omega), ← hu, ab_up_n (by omega)]; exact h23
  have s57b : (ab_st (ab_st τ 282 (bmc (R 6))) 57 (m10 (ab_up u 20 (u 20 + 1)))).2 57 = some (m10 (ab_up u 20 (u 20 + 1))) := st_s
  have hop := m_operates hI hP2 (by omega) 0 (by omega)
  rw [ab_up_n (show (0 : Nat) ≠ 1 by omega), show ab_up P 1 (R 6) (0 + 1) = R 6 from ab_up_s] at hop
  refine Exists.intro _ (And.intro (st_s) ?_)
  refine Exists.intro _ (And.intro (st_s) ?_)
  refine Exists.intro _ (Exists.intro _ (And.intro (hJ2.h280) (And.intro (by omega) ?_)))
  rw [ui]
  refine Exists.intro _ (And.intro st_s (And.intro rfl (ab_inv_ev hL (by first | decide | omega) (by first | exact Nat.le_refl _ | omega) (by first | exact Nat.le_refl _ | omega) ?_)))
  refine Exists.intro _ (And.intro (s57) ?_)
  refine Exists.intro _ (And.intro (s57) ?_)
  rw [m10_s20, st_3 (by omega)]
  refine Exists.intro _ (And.intro s57b (And.intro rfl (ab_inv_of hop (by first | decide | omega) (by omega) (by omega) ?_)))
  intro y υ3 hpost
  obtain ⟨rfl, hP3⟩ := hpost
  
  exact ⟨rfl, hP3.ext (fun i hi => by
    have e : i = 0 := by omega
    subst e
    rw [ab_up_s, ab_up_s])⟩
end Mans
