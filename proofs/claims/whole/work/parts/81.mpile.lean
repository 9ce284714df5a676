-- ===== the model: the pile =====
theorem st_cm {σ : ab_H} {a b : Nat} {x y : ab_C} (h : a ≠ b) : ab_st (ab_st σ a x) b y = ab_st (ab_st σ b y) a x := by
  unfold ab_st
  congr 1
  funext j
  unfold ab_up
  dsimp only
  by_cases h1 : j = a
  · subst h1
    rw [if_neg h, if_pos rfl, if_pos rfl]
  · by_cases h2 : j = b
    · subst h2
      rw [if_pos rfl, if_neg h1, if_pos rfl]
    · rw [if_neg h2, if_neg h1, if_neg h1, if_neg h2]
theorem st_3 {σ : ab_H} {a b : Nat} {x y z : ab_C} (h : a ≠ b) : ab_st (ab_st (ab_st σ a x) b y) a z = ab_st (ab_st σ b y) a z := by
  rw [st_cm h, st_st]
theorem MI.hK {σ : ab_H} {cc rows : Nat} {K : Nat → CT} {va : Nat → Nat → Nat} {R : Nat → V1} {f : Nat → Int} {n : Nat} {pl : Int} {c : C3} {t : Nat → Int} {r : Nat → Nat} {th : Int} (hI : MI σ cc rows K va R f n pl c t r th) {k : Nat} (hk : k < cc) : okb (K k).2.1 (K k).2.2.1 (K k).2.2.2 := (hI.1.2.2.1 k hk).1
def piA (a : Nat) : Prop := a = 57 ∨ (281 ≤ a ∧ a ≤ 312)
/-- the pile: so many bitmaps, what it cost so far -/
def PS (σ τ : ab_H) (t : Nat → Int) (rows : Nat) (P : Nat → V1) (tp : Nat) (k : C3) : Prop := fr piA σ τ ∧ (∃ t' : Nat → Int, τ.2 57 = some (m10 t') ∧ (∀ j, (j < 20 ∨ 23 < j) → t' j = t j) ∧ t' 20 = tp ∧ t' 21 = k.1 ∧ t' 22 = k.2.1 ∧ t' 23 = k.2.2) ∧ (∀ i, i < tp → τ.2 (281 + i) = some (bmc (P i)) ∧ hi0 rows (P i)) ∧ ∀ i, i < 32 → ∃ g : Nat → Nat, τ.2 (281 + i) = some (bmc g)
theorem PS.ext {σ τ : ab_H} {t : Nat → Int} {rows : Nat} {P P' : Nat → V1} {tp : Nat} {k : C3} (h : PS σ τ t rows P tp k) (e : ∀ i, i < tp → P i = P' i) : PS σ τ t rows P' tp k := ⟨h.1, h.2.1, fun i hi => by rw [← e i hi]; exact h.2.2.1 i hi, h.2.2.2⟩
theorem PS.mk {σ τ : ab_H} {t : Nat → Int} {rows : Nat} {P : Nat → V1} {tp tp' : Nat} {k k' : C3} (h : PS σ τ t rows P tp k) {t'' : Nat → Int} {x : Nat} {v : V1} (hx : x < 32) (ht : ∀ j, (j < 20 ∨ 23 < j) → t'' j = t j) (h20 : t'' 20 = tp') (h21 : t'' 21 = k'.1) (h22 : t'' 22 = k'.2.1) (h23 : t'' 23 = k'.2.2) (hv : hi0 rows v) (hl : ∀ i, i < tp' → i = x ∨ i < tp) : PS σ (ab_st (ab_st τ (281 + x) (bmc v)) 57 (m10 t'')) t rows (ab_up P x v) tp' k' := by
  obtain ⟨h1, -, h3, h4⟩ := h
  refine ⟨(h1.st (by unfold piA; omega)).st (by unfold piA; omega), ⟨t'', st_s, ht, h20, h21, h22, h23⟩, fun i hi => ?_, fun i hi => ?_⟩
  · by_cases e : i = x
    · subst e; rw [ab_up_s]; exact ⟨st_e (by omega) st_s, hv⟩
    · rw [ab_up_n e]
      have := h3 i ((hl i hi).resolve_left e)
      exact ⟨st_e (by omega) (st_e (by omega) this.1), this.2⟩
  · by_cases e : i = x
    · subst e; exact ⟨v, st_e (by omega) st_s⟩
    · obtain ⟨g, hg⟩ := h4 i hi
      exact ⟨g, st_e (by omega) (st_e (by omega) hg)⟩
theorem hi0_0 (rows : Nat) : hi0 rows (fun _ => 0) := ⟨fun _ => (by decide : 0 < 32768), fun x _ => by unfold bit; exact Nat.zero_testBit _⟩
theorem all1_0 : all1 0 = fun _ => 0 := by
  funext i
  unfold all1 rg
  rw [show 0 - 15 * i = 0 by omega]
  rfl
theorem hi0_a (rows : Nat) : hi0 rows (all1 rows) := ⟨fun i => rg_lt i rows, fun x hx => by
  have := bit_rg rows x
  unfold all1
  rw [this]
  exact decide_eq_false (by omega)⟩
theorem hi0_c {ρ : Bool} {b va : Nat → Nat} {rows i : Nat} : hi0 rows (cbm ρ b va rows i) := ⟨cbm_lt, fun x hx => by
  unfold cbm
  rw [bit_mk]
  unfold prd
  rw [decide_eq_false (by omega)]
  rfl⟩
section Pile
variable {σ τ : ab_H} {cc rows : Nat} {K : Nat → CT} {va : Nat → Nat → Nat} {R : Nat → V1} {f : Nat → Int} {n : Nat} {pl : Int} {c : C3} {t : Nat → Int} {r : Nat → Nat} {th : Int} {P : Nat → V1} {tp : Nat} {k : C3}
theorem PS.mi (hP : PS σ τ t rows P tp k) (hI : MI σ cc rows K va R f n pl c t r th) : ∃ t', MI τ cc rows K va R f n pl c t' r th ∧ (∀ j, (j < 20 ∨ 23 < j) → t' j = t j) ∧ t' 20 = tp ∧ t' 21 = k.1 ∧ t' 22 = k.2.1 ∧ t' 23 = k.2.2 := by
  obtain ⟨hf, ⟨t', h57, ht, h20⟩, h3, h4⟩ := hP
  refine ⟨t', hI.gen hf (fun a ha => by unfold piA at ha; omega) h57 ((ht 0 (by omega)).trans hI.t0) (fun j hj => ht j (by omega)) (fun a ha h5 => ?_), ht, h20⟩
  unfold piA at ha
  obtain ⟨g, hg⟩ := h4 (a - 281) (by omega)
  rw [show 281 + (a - 281) = a by omega] at hg
  exact ⟨_, hg, shp_bm (by omega) (by omega)⟩
set_option maxRecDepth 100000 in
set_option maxHeartbeats 1000000 in
theorem m_clears (h57 : σ.2 57 = some (m10 t)) : ab_ev 1 yX10_clears [rf 57] σ none (ab_st σ 57 (m10 (ab_up (ab_up (ab_up (ab_up t 20 0) 21 0) 22 0) 23 0))) := by
  refine eX10_clears rfl (fun At hA => ?_)
  refine hA 0 _ rfl _ _ _ _ _ ?_
  refine Exists.intro _ (And.intro (h57) ?_)
  rw [m10_s20]
  refine Exists.intro _ (And.intro (st_s) ?_)
  rw [m10_s21, st_st]
  refine Exists.intro _ (And.intro (st_s) ?_)
  rw [m10_s22, st_st]
  refine Exists.intro _ (And.intro (st_s) ?_)
  rw [m10_s23, st_st]
  exact ⟨rfl, rfl⟩
theorem PS.cl (hI : MI σ cc rows K va R f n pl c t r th) : PS σ (ab_st σ 57 (m10 (ab_up (ab_up (ab_up (ab_up t 20 0) 21 0) 22 0) 23 0))) t rows P 0 (0, 0, 0) := by
  refine ⟨fr_st (by unfold piA; omega), ⟨_, st_s, fun j hj => by rw [ab_up_n (by omega), ab_up_n (by omega), ab_up_n (by omega), ab_up_n (by omega)], rfl, rfl, rfl, rfl⟩, fun i hi => by omega, fun i hi => ?_⟩
  obtain ⟨g, hg⟩ := hI.sc.bm (a := 281 + i) (by omega) (by omega)
  exact ⟨g, st_e (by omega) hg⟩
set_option maxRecDepth 100000 in
set_option maxHeartbeats 1000000 in
theorem m_pushesAll (hI : MI σ cc rows K va R f n pl c t r th) (hP : PS σ τ t rows P tp k) (htp : tp < 32) (b : Bool) : ab_call 5 0 0 yX10_pushesAll [rf 57, .inl (b2i b)] τ (fun z σ' => z = .inl none ∧ PS σ σ' t rows (ab_up P tp (if b then all1 rows else fun _ => 0)) (tp + 1) k) := by
  obtain ⟨t', hJ, ht, h20, h21, h22, h23⟩ := hP.mi hI
  have q57 := hJ.h57
  have q280 := hJ.h280
  obtain ⟨g, hg⟩ := hP.2.2.2 tp htp
  have ei : (t' 20).toNat = tp := by omega
  refine eX10_pushesAll rfl (fun At hA => ?_)
  have k3 : At 3 [some (rf 57), some (.inl (b2i b))] [] (ab_st τ (281 + tp) (bmc (if b then all1 rows else fun _ => 0))) 0 0 := by
    have s57 : (ab_st τ (281 + tp) (bmc (if b then all1 rows else fun _ => 0))).2 57 = some (m10 t') := st_e (by omega) q57
    refine hA 3 _ rfl _ _ _ _ _ ?_
    refine Exists.intro _ (And.intro (s57) ?_)
    refine Exists.intro _ (And.intro (s57) ?_)
    rw [m10_s20]
    refine ⟨rfl, hP.mk (tp' := tp + 1) htp (fun j hj => ?_) ?_ ?_ ?_ ?_ ?_ (fun i hi => by omega)⟩
    · rw [ab_up_n (by omega)]; exact ht j hj
    · rw [ab_up_s, h20]; rfl
    · rw [ab_up_n (by omega)]; exact h21
    · rw [ab_up_n (by omega)]; exact h22
    · rw [ab_up_n (by omega)]; exact h23
    · split
      · exact hi0_a rows
      · exact hi0_0 rows
  refine hA 0 _ rfl _ _ _ _ _ ?_
  refine And.intro (by first | assumption | exact b2i_R _ | exact rR (by omega) (by omega) | exact rR (by simp only [Int.toNat_natCast]; omega) (by simp only [Int.toNat_natCast]; omega)) (And.intro (fun q => ?_) (fun q => ?_))
  · have hq := b2i_0 q
    subst hq
    refine hA 2 _ rfl _ _ _ _ _ ?_
    refine Exists.intro _ (And.intro (q57) ?_)
    refine Exists.intro _ (And.intro (q57) ?_)
    refine Exists.intro _ (Exists.intro _ (And.intro (q280) (And.intro (by omega) ?_)))
    rw [ei]
    refine And.intro rfl (ab_inv_ev (m_empties hg) (by first | decide | omega) (by first | exact Nat.le_refl _ | omega) (by first | exact Nat.le_refl _ | omega) ?_)
    exact k3
  · have hq := b2i_1 q
    subst hq
    refine hA 1 _ rfl _ _ _ _ _ ?_
    refine Exists.intro _ (And.intro (q57) ?_)
    refine Exists.intro _ (And.intro (q57) ?_)
    refine Exists.intro _ (Exists.intro _ (And.intro (q280) (And.intro (by omega) ?_)))
    rw [ei]
    refine Exists.intro _ (And.intro q57 (And.intro rfl (ab_inv_ev (m_laysAll q57 hJ.t13 hJ.hr (h := 281 + tp) (by omega) hg) (by first | decide | omega) (by first | exact Nat.le_refl _ | omega) (by first | exact Nat.le_refl _ | omega) ?_)))
    exact k3
set_option maxRecDepth 100000 in
set_option maxHeartbeats 1000000 in
theorem m_pushesBitmap (hI : MI σ cc rows K va R f n pl c t r th) (hP : PS σ τ t rows P tp k) (htp : tp < 32) (col p j : Nat) (hcol : col < cc) (hp : p < (K col).2.2.1) (hj : j < nbm (K col).1 (K col).2.2.2 p) : ab_call 4 0 0 yX10_pushesBitmap [rf 57, .inl col, .inl ((p + 1 : Nat) : Int), .inl j] τ (fun z σ' => z = .inl none ∧ PS σ σ' t rows (ab_up P tp (BK K va rows col p j)) (tp + 1) (k.1 + 1, k.2.1, k.2.2)) := by
  obtain ⟨t', hJ, ht, h20, h21, h22, h23⟩ := hP.mi hI
  have q57 := hJ.h57
  obtain ⟨g, hg⟩ := hP.2.2.2 tp htp
  have ho := hI.hK hcol
  have hn := nbm_le (rg := (K col).1) ho.2.2.1 p
  have hn2 := ho.2.2.1 p
  have ho2 := ho.2.1
  refine eX10_pushesBitmap rfl (fun At hA => ?_)
  refine hA 0 _ rfl _ _ _ _ _ ?_
  refine Exists.intro _ (And.intro (q57) ?_)
  refine Exists.intro _ (And.intro (q57) ?_)
  rw [m10_s21]
  generalize hu : ab_up t' 21 (t' 21 + 1) = u
  have u20 : u 20 = tp := by rw [← hu, ab_up_n (by omega)]; exact h20
  have ui : (u 20).toNat = tp := by omega
  have hJ2 : MI (ab_st τ 57 (m10 u)) cc rows K va R f n pl c u r th := hJ.tt (by rw [← hu, ab_up_n (by omega)]; exact hJ.t0) (fun j hj => by rw [← hu, ab_up_n (by omega)])
  have hL := m_laysBitmap hJ2.h57 hJ2.t13 hJ2.hr (hJ2.k hcol) (hJ2.v hcol) p hp j (by omega) (h := 281 + tp) (by omega) (o := g) (st_e (by omega) hg)
  rw [← cbm_eq (rg := (K col).1) (b := (K col).2.2.2) (va := va col) (rows := rows) (p := p) (j := j) (by omega) hj] at hL
  have s57 : (ab_st (ab_st τ 57 (m10 u)) (281 + tp) (bmc (cbm (K col).1 (K col).2.2.2 (va col) rows (fsp (K col).1 (K col).2.2.2 p + j)))).2 57 = some (m10 u) := st_e (by omega) st_s
  refine Exists.intro _ (And.intro (st_s) ?_)
  refine Exists.intro _ (And.intro (st_s) ?_)
  refine Exists.intro _ (Exists.intro _ (And.intro (hJ2.h280) (And.intro (by omega) ?_)))
  rw [ui]
  refine Exists.intro _ (And.intro st_s (And.intro rfl (ab_inv_ev hL (by first | decide | omega) (by first | exact Nat.le_refl _ | omega) (by first | exact Nat.le_refl _ | omega) ?_)))
  refine Exists.intro _ (And.intro (s57) ?_)
  refine Exists.intro _ (And.intro (s57) ?_)
  rw [m10_s20, st_3 (by omega)]
  refine ⟨rfl, hP.mk (tp' := tp + 1) htp (fun j hj => ?_) ?_ ?_ ?_ ?_ hi0_c (fun i hi => by omega)⟩
  · rw [ab_up_n (by omega), ← hu, ab_up_n (by omega)]; exact ht j hj
  · rw [ab_up_s, u20]; rfl
  · rw [ab_up_n (by omega), ← hu, ab_up_s, h21]; rfl
  · rw [ab_up_n (by omega), ← hu, ab_up_n (by omega)]; exact h22
  · rw [ab_up_n (by omega), ← hu, ab_up_n (by omega)]; exact h23
set_option maxRecDepth 100000 in
set_option maxHeartbeats 1000000 in
theorem m_operates (hI : MI σ cc rows K va R f n pl c t r th) (hP : PS σ τ t rows P (tp + 2) k) (htp : tp + 2 ≤ 32) (kind : Nat) (hk : kind < 4) : ab_call 5 0 0 yX10_operates [rf 57, .inl kind] τ (fun z σ' => z = .inl none ∧ PS σ σ' t rows (ab_up P tp (jn kind (P tp) (P (tp + 1)))) (tp + 1) (k.1, k.2.1 + 1, k.2.2 + stp (gu rows) (P tp) (P (tp + 1)))) := by
  obtain ⟨t', hJ, ht, h20, h21, h22, h23⟩ := hP.mi hI
  have q57 := hJ.h57
  obtain ⟨hg, hgh⟩ := hP.2.2.1 tp (by omega)
  obtain ⟨hf, hfh⟩ := hP.2.2.1 (tp + 1) (by omega)
  refine eX10_operates rfl (fun At hA => ?_)
  refine hA 0 _ rfl _ _ _ _ _ ?_
  refine Exists.intro _ (And.intro (q57) ?_)
  refine Exists.intro _ (And.intro (q57) ?_)
  rw [m10_s22]
  generalize hu : ab_up t' 22 (t' 22 + 1) = u
  have u20 : u 20 = (tp + 2 : Nat) := by rw [← hu, ab_up_n (by omega)]; exact h20
  have ui2 : (u 20 - 2).toNat = tp := by omega
  have ui1 : (u 20 - 1).toNat = tp + 1 := by omega
  have hJ2 : MI (ab_st τ 57 (m10 u)) cc rows K va R f n pl c u r th := hJ.tt (by rw [← hu, ab_up_n (by omega)]; exact hJ.t0) (fun j hj => by rw [← hu, ab_up_n (by omega)])
  have g2 : (ab_st τ 57 (m10 u)).2 (281 + tp) = some (bmc (P tp)) := st_e (by omega) hg
  have f2 : (ab_st τ 57 (m10 u)).2 (281 + (tp + 1)) = some (bmc (P (tp + 1))) := st_e (by omega) hf
  have r57 := hJ2.h57
  have r280 := hJ2.h280
  refine Exists.intro _ (And.intro (st_s) ?_)
  refine Exists.intro _ (And.intro (st_s) ?_)
  refine Exists.intro _ (And.intro (st_s) ?_)
  refine Exists.intro _ (Exists.intro _ (And.intro (r280) (And.intro (by omega) ?_)))
  rw [ui2]
  refine Exists.intro _ (And.intro (st_s) ?_)
  refine Exists.intro _ (And.intro (st_s) ?_)
  refine Exists.intro _ (Exists.intro _ (And.intro (r280) (And.intro (by omega) ?_)))
  rw [ui1]
  refine Exists.intro _ (And.intro r57 (And.intro rfl (ab_inv_ev (m_stepsOf r57 hJ2.t13 hJ2.hr g2 hgh.1 f2 hfh.1) (by first | decide | omega) (by first | exact Nat.le_refl _ | omega) (by first | exact Nat.le_refl _ | omega) ?_)))
  refine Exists.intro _ (And.intro (st_s) ?_)
  rw [m10_s23, st_st]
  generalize hw : ab_up u 23 (u 23 + ((stp (gu rows) (P tp) (P (tp + 1)) : Nat) : Int)) = w
  have w20 : w 20 = (tp + 2 : Nat) := by rw [← hw, ab_up_n (by omega)]; exact u20
  have wi2 : (w 20 - 2).toNat = tp := by omega
  have wi1 : (w 20 - 1).toNat = tp + 1 := by omega
  have hJ3 : MI (ab_st τ 57 (m10 w)) cc rows K va R f n pl c w r th := hJ.tt (by rw [← hw, ab_up_n (by omega), ← hu, ab_up_n (by omega)]; exact hJ.t0) (fun j hj => by rw [← hw, ab_up_n (by omega), ← hu, ab_up_n (by omega)])
  have g3 : (ab_st τ 57 (m10 w)).2 (281 + tp) = some (bmc (P tp)) := st_e (by omega) hg
  have f3 : (ab_st τ 57 (m10 w)).2 (281 + (tp + 1)) = some (bmc (P (tp + 1))) := st_e (by omega) hf
  have w57 := hJ3.h57
  have w280 := hJ3.h280
  have s57 : (ab_st (ab_st τ 57 (m10 w)) (281 + tp) (bmc (jn kind (P tp) (P (tp + 1))))).2 57 = some (m10 w) := st_e (by omega) st_s
  refine Exists.intro _ (And.intro (st_s) ?_)
  refine Exists.intro _ (And.intro (st_s) ?_)
  refine Exists.intro _ (Exists.intro _ (And.intro (w280) (And.intro (by omega) ?_)))
  rw [wi2]
  refine Exists.intro _ (And.intro (st_s) ?_)
  refine Exists.intro _ (And.intro (st_s) ?_)
  refine Exists.intro _ (Exists.intro _ (And.intro (w280) (And.intro (by omega) ?_)))
  rw [wi1]
  refine Exists.intro _ (And.intro (st_s) ?_)
  refine Exists.intro _ (And.intro (st_s) ?_)
  refine Exists.intro _ (Exists.intro _ (And.intro (w280) (And.intro (by omega) ?_)))
  rw [wi2]
  refine Exists.intro _ (And.intro w57 (And.intro rfl (ab_inv_ev (m_joins g3 g3 f3 hgh.1 hfh.1 kind hk) (by first | decide | omega) (by first | exact Nat.le_refl _ | omega) (by first | exact Nat.le_refl _ | omega) ?_)))
  refine Exists.intro _ (And.intro (s57) ?_)
  refine Exists.intro _ (And.intro (s57) ?_)
  rw [m10_s20, st_3 (by omega)]
  refine ⟨rfl, hP.mk (tp' := tp + 1) (by omega) (fun j hj => ?_) ?_ ?_ ?_ ?_ (hi0_jn hgh hfh) (fun i hi => by omega)⟩
  · rw [ab_up_n (by omega), ← hw, ab_up_n (by omega), ← hu, ab_up_n (by omega)]; exact ht j hj
  · rw [ab_up_s, w20]; omega
  · rw [ab_up_n (by omega), ← hw, ab_up_n (by omega), ← hu, ab_up_n (by omega)]; exact h21
  · rw [ab_up_n (by omega), ← hw, ab_up_n (by omega), ← hu, ab_up_s, h22]; rfl
  · rw [ab_up_n (by omega), ← hw, ab_up_s, ← hu, ab_up_n (by omega), h23]; rfl
set_option maxRecDepth 100000 in
set_option maxHeartbeats 1000000 in
theorem m_upper {υ : ab_H} {u : Nat → Int} (h57 : υ.2 57 = some (m10 u)) (h280 : υ.2 280 = some (rfs 281 32)) (h20 : u 20 = (tp + 1 : Nat)) (htp : tp < 32) : ab_ev 1 yX10_upper [rf 57] υ (some (rf (281 + tp))) υ := by
  have ui1 : (u 20 - 1).toNat = tp := by omega
  refine eX10_upper rfl (fun At hA => ?_)
  refine hA 0 _ rfl _ _ _ _ _ ?_
  refine Exists.intro _ (And.intro (h57) ?_)
  refine Exists.intro _ (And.intro (h57) ?_)
  refine Exists.intro _ (Exists.intro _ (And.intro (h280) (And.intro (by omega) ?_)))
  rw [ui1]
  exact ⟨rfl, rfl⟩
set_option maxRecDepth 100000 in
set_option maxHeartbeats 1000000 in
theorem m_turnsTop (hI : MI σ cc rows K va R f n pl c t r th) (hP : PS σ τ t rows P (tp + 1) k) (htp : tp < 32) : ab_call 5 0 0 yX10_turnsTop [rf 57] τ (fun z σ' => z = .inl none ∧ PS σ σ' t rows (ab_up P tp (tn rows (P tp))) (tp + 1) (k.1, k.2.1 + 1, k.2.2 + cnt (sw (P tp)) (gu rows))) := by
  obtain ⟨t', hJ, ht, h20, h21, h22, h23⟩ := hP.mi hI
  have q57 := hJ.h57
  obtain ⟨hg, hgh⟩ := hP.2.2.1 tp (by omega)
  refine eX10_turnsTop rfl (fun At hA => ?_)
  refine hA 0 _ rfl _ _ _ _ _ ?_
  refine Exists.intro _ (And.intro (q57) ?_)
  refine Exists.intro _ (And.intro (q57) ?_)
  rw [m10_s22]
  generalize hu : ab_up t' 22 (t' 22 + 1) = u
  have u20 : u 20 = (tp + 1 : Nat) := by rw [← hu, ab_up_n (by omega)]; exact h20
  have hJ2 : MI (ab_st τ 57 (m10 u)) cc rows K va R f n pl c u r th := hJ.tt (by rw [← hu, ab_up_n (by omega)]; exact hJ.t0) (fun j hj => by rw [← hu, ab_up_n (by omega)])
  have g2 : (ab_st τ 57 (m10 u)).2 (281 + tp) = some (bmc (P tp)) := st_e (by omega) hg
  have r57 := hJ2.h57
  have hwo := m_words r57 hJ2.t13 hJ2.hr g2 hgh.1 1 (by omega)
  rw [cnt_wc1] at hwo
  refine Exists.intro _ (And.intro (st_s) ?_)
  refine Exists.intro _ (And.intro r57 (And.intro rfl (ab_inv_ev (m_upper r57 hJ2.h280 u20 htp) (by first | decide | omega) (by first | exact Nat.le_refl _ | omega) (by first | exact Nat.le_refl _ | omega) ?_)))
  refine Exists.intro _ (And.intro r57 (And.intro rfl (ab_inv_ev hwo (by first | decide | omega) (by first | exact Nat.le_refl _ | omega) (by first | exact Nat.le_refl _ | omega) ?_)))
  refine Exists.intro _ (And.intro (st_s) ?_)
  rw [m10_s23, st_st]
  generalize hw : ab_up u 23 (u 23 + ((cnt (sw (P tp)) (gu rows) : Nat) : Int)) = w
  have w20 : w 20 = (tp + 1 : Nat) := by rw [← hw, ab_up_n (by omega)]; exact u20
  have hJ3 : MI (ab_st τ 57 (m10 w)) cc rows K va R f n pl c w r th := hJ.tt (by rw [← hw, ab_up_n (by omega), ← hu, ab_up_n (by omega)]; exact hJ.t0) (fun j hj => by rw [← hw, ab_up_n (by omega), ← hu, ab_up_n (by omega)])
  have g3 : (ab_st τ 57 (m10 w)).2 (281 + tp) = some (bmc (P tp)) := st_e (by omega) hg
  have w57 := hJ3.h57
  refine Exists.intro _ (And.intro w57 (And.intro rfl (ab_inv_ev (m_upper w57 hJ3.h280 w20 htp) (by first | decide | omega) (by first | exact Nat.le_refl _ | omega) (by first | exact Nat.le_refl _ | omega) ?_)))
  refine Exists.intro _ (And.intro w57 (And.intro rfl (ab_inv_ev (m_turns w57 hJ3.t13 hJ3.hr (by omega) g3 hgh) (by first | decide | omega) (by first | exact Nat.le_refl _ | omega) (by first | exact Nat.le_refl _ | omega) ?_)))
  rw [st_cm (by omega)]
  refine ⟨rfl, hP.mk (tp' := tp + 1) (by omega) (fun j hj => ?_) w20 ?_ ?_ ?_ (hi0_tn _) (fun i hi => by omega)⟩
  · rw [← hw, ab_up_n (by omega), ← hu, ab_up_n (by omega)]; exact ht j hj
  · rw [← hw, ab_up_n (by omega), ← hu, ab_up_n (by omega)]; exact h21
  · rw [← hw, ab_up_n (by omega), ← hu, ab_up_s, h22]; rfl
  · rw [← hw, ab_up_s, ← hu, ab_up_n (by omega), h23]; rfl
set_option maxRecDepth 100000 in
set_option maxHeartbeats 1000000 in
theorem m_joinsBitmap (hI : MI σ cc rows K va R f n pl c t r th) {z : Z4} (hP : PS σ τ t rows (ab_up P tp z.1) (tp + 1) z.2) (htp : tp + 2 ≤ 32) (kind col p j : Nat) (hk : kind < 4) (hcol : col < cc) (hp : p < (K col).2.2.1) (hj : j < nbm (K col).1 (K col).2.2.2 p) : ab_call 6 0 0 yX10_joinsBitmap [rf 57, .inl kind, .inl col, .inl ((p + 1 : Nat) : Int), .inl j] τ (fun y σ' => y = .inl none ∧ PS σ σ' t rows (ab_up P tp (zjn (gu rows) kind (BK K va rows col p j) z).1) (tp + 1) (zjn (gu rows) kind (BK K va rows col p j) z).2) := by
  obtain ⟨t', hJ, -⟩ := hP.mi hI
  have q57 := hJ.h57
  refine eX10_joinsBitmap rfl (fun At hA => ?_)
  refine hA 0 _ rfl _ _ _ _ _ ?_
  refine Exists.intro _ (And.intro (by first | assumption | exact st_s | exact st_e (by decide) (by assumption) | exact st_e (by omega) (by assumption) | exact st_e (by decide) st_s | exact st_e (by omega) st_s | exact st_e (by decide) (st_e (by decide) (by assumption)) | exact st_e (by omega) (st_e (by omega) (by assumption))) (And.intro rfl (ab_inv_of (m_pushesBitmap hI hP (by omega) col p j hcol hp hj) (by first | decide | omega) (by omega) (by omega) ?_)))
  intro y υ hpost
  obtain ⟨rfl, hP2⟩ := hpost
  obtain ⟨t2, hJ2, -⟩ := hP2.mi hI
  have r57 := hJ2.h57
  have ho := m_operates hI hP2 htp kind hk
  rw [ab_up_n (show tp ≠ tp + 1 by omega), ab_up_s, ab_up_s] at ho
  refine Exists.intro _ (And.intro (by first | assumption | exact st_s | exact st_e (by decide) (by assumption) | exact st_e (by omega) (by assumption) | exact st_e (by decide) st_s | exact st_e (by omega) st_s | exact st_e (by decide) (st_e (by decide) (by assumption)) | exact st_e (by omega) (st_e (by omega) (by assumption))) (And.intro rfl (ab_inv_of ho (by first | decide | omega) (by omega) (by omega) ?_)))
  intro y υ hpost
  obtain ⟨rfl, hP3⟩ := hpost
  refine ⟨rfl, hP3.ext (fun i hi => ?_)⟩
  by_cases e : i = tp
  · subst e; rw [ab_up_s, ab_up_s]; rfl
  · rw [ab_up_n e, ab_up_n (by omega), ab_up_n e, ab_up_n e]
end Pile
