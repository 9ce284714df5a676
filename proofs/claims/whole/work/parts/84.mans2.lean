-- ===== the model: one act; what a question would take =====
section Mans2
variable {σ τ : ab_H} {cc rows : Nat} {K : Nat → CT} {va : Nat → Nat → Nat} {R : Nat → V1} {f : Nat → Int} {n : Nat} {pl : Int} {c : C3} {t : Nat → Int} {r : Nat → Nat} {th : Int} {k : C3}
/-- the pile as a list, the last one first -/
def PL (σ τ : ab_H) (t : Nat → Int) (rows : Nat) (st : List V1) (k : C3) : Prop := ∃ P : Nat → V1, PS σ τ t rows P st.length k ∧ stl P st.length = st
theorem PL.push {P : Nat → V1} {st : List V1} {v : V1} {k' : C3} (h : PS σ τ t rows (ab_up P st.length v) (st.length + 1) k') (e : stl P st.length = st) : PL σ τ t rows (v :: st) k' := by
  refine ⟨_, h, ?_⟩
  show ab_up P st.length v st.length :: stl (ab_up P st.length v) st.length = _
  rw [ab_up_s, stl_up _ _ _ _ (Nat.le_refl _), e]
theorem stl_inj {P Q : Nat → V1} : ∀ m, stl P m = stl Q m → ∀ i, i < m → P i = Q i := by
  intro m
  induction m with
  | zero => intro _ i hi; omega
  | succ m ih =>
    intro h i hi
    have h : P m :: stl P m = Q m :: stl Q m := h
    injection h with h1 h2
    by_cases e : i = m
    · rw [e, h1]
    · exact ih h2 i (by omega)
/-- the top turned -/
theorem PL.turn {P : Nat → V1} {st : List V1} {v w : V1} {k' : C3} (h : PS σ τ t rows (ab_up P st.length w) (st.length + 1) k') (e : stl P (st.length + 1) = v :: st) : PL σ τ t rows (w :: st) k' := by
  have e : P st.length :: stl P st.length = v :: st := e
  injection e with e1 e2
  exact PL.push h e2
/-- what an act does to a pile -/
def acZ (rows : Nat) (K : Nat → CT) (va : Nat → Nat → Nat) (R : Nat → V1) (x : N4) (st : List V1) (k : C3) : List V1 × C3 := rnA rows K va R [x] st k
theorem ac_0 {i a b c' : Nat} {st : List V1} {k : C3} (h : i ≤ 6) : acZ rows K va R (i, a, b, c') st k = rnN rows K va R (if i = 6 then btwN K a b c' else cmpN K i a b) st k := by
  unfold acZ
  rw [rnA_c, if_pos h]
  rfl
theorem ac_j {i a b c' : Nat} {st : List V1} {k : C3} (h : 7 ≤ i ∧ i ≤ 10) : acZ rows K va R (i, a, b, c') st k = ((jr (gu rows) (i - 7) (st.take a)).1 :: st.drop a, cp k (jr (gu rows) (i - 7) (st.take a)).2) := by
  unfold acZ
  rw [rnA_c, if_neg (by omega), if_pos (by omega)]
  rfl
theorem ac_n {a b c' : Nat} {v : V1} {st : List V1} {k : C3} : acZ rows K va R (11, a, b, c') (v :: st) k = (tn rows v :: st, cp k (0, 1, cnt (sw v) (gu rows))) := by
  unfold acZ
  rw [rnA_c, if_neg (by omega), if_neg (by omega), if_pos rfl]
  rfl
theorem ac_l {i a b c' : Nat} {st : List V1} {k : C3} (h : 12 ≤ i) : acZ rows K va R (i, a, b, c') st k = ((leafZ rows K va R i 0 a k).1 :: st, (leafZ rows K va R i 0 a k).2) := by
  unfold acZ
  rw [rnA_c, if_neg (by omega), if_neg (by omega), if_neg (by omega)]
  rfl
theorem rn_not {N : List N3} {v : V1} {d : C3} {st : List V1} {k : C3} (h : rnN rows K va R N st k = (v :: st, d)) : rnN rows K va R (N ++ [(11, 0, 0)]) st k = (tn rows v :: st, (d.1, d.2.1 + 1, d.2.2 + cnt (sw v) (gu rows))) := by
  rw [rnN_app, h]
  rfl
def okS (x : N4) (l : Nat) : Prop := l ≤ 30 ∧ (x.1 ≤ 6 → l + 3 ≤ 30) ∧ (7 ≤ x.1 ∧ x.1 ≤ 10 → 1 ≤ x.2.1 ∧ x.2.1 ≤ l) ∧ (x.1 = 11 → 1 ≤ l) ∧ (12 ≤ x.1 → l + 1 ≤ 30)
set_option maxRecDepth 100000 in
set_option maxHeartbeats 1000000 in
theorem m_answers (hI : MI σ cc rows K va R f n pl c t r th) {st : List V1} (hP : PL σ τ t rows st k) {h : Nat} {g : Nat → Int} (hh : τ.2 h = some (iar 4 g)) {i a b c' : Nat} (hg0 : g 0 = i) (hg1 : g 1 = a) (hg2 : i ≤ 6 → g 2 = b) (hg3 : i = 6 → g 3 = c') (hok : okA cc (i, a, b, c')) (hst : okS (i, a, b, c') st.length) : ab_call 9 0 0 yX10_answers [rf 57, rf h] τ (fun z σ' => z = .inl none ∧ PL σ σ' t rows (acZ rows K va R (i, a, b, c') st k).1 (acZ rows K va R (i, a, b, c') st k).2) := by
  obtain ⟨P, hP, hPs⟩ := hP
  obtain ⟨t', hJ, -⟩ := hP.mi hI
  have q57 := hJ.h57
  obtain ⟨k1, k2, k3, k4⟩ := hok
  dsimp only at k1 k2 k3 k4
  obtain ⟨s1, s2, s3, s4, s5⟩ := hst
  dsimp only at s2 s3 s4 s5
  have e1 : g ((1 : Int).toNat) = (a : Nat) := hg1
  have e2 : i ≤ 6 → g ((2 : Int).toNat) = (b : Nat) := hg2
  have e3 : i = 6 → g ((3 : Int).toNat) = (c' : Nat) := hg3
  refine eX10_answers rfl (fun At hA => ?_)
  have fin : ∀ υ, PL σ υ t rows (acZ rows K va R (i, a, b, c') st k).1 (acZ rows K va R (i, a, b, c') st k).2 → At 16 [some (rf 57), some (rf h)] [] υ 0 0 := fun υ hp => by
    refine hA 16 _ rfl _ _ _ _ _ ?_
    exact ⟨rfl, hp⟩
  have j1 : i = 0 → At 1 [some (rf 57), some (rf h)] [] τ 0 0 := fun e => by
    subst e
    have kk := k2 (by omega)
    have ss := s2 (by omega)
    have e2 := e2 (by omega)
    have hc := m_pushesLeast hI hP (by omega) a b kk.1 kk.2.1
    rw [← e1, ← e2] at hc
    have hr := (rn_up (rows := rows) (K := K) (va := va) (R := R) a ((b : Nat) : Int) st k)
    refine hA 1 _ rfl _ _ _ _ _ ?_
    refine Exists.intro _ (Exists.intro _ (And.intro (hh) (And.intro (by omega) ?_)))
    refine Exists.intro _ (Exists.intro _ (And.intro (hh) (And.intro (by omega) ?_)))
    refine Exists.intro _ (And.intro q57 (And.intro rfl (ab_inv_of hc (by first | decide | omega) (by omega) (by omega) ?_)))
    intro y υ hpost
    obtain ⟨rfl, hP1⟩ := hpost
    
    refine fin _ ?_
    rw [ac_0 (by omega), if_neg (by omega)]
    unfold cmpN cmpB
    rw [if_pos (by omega), if_neg (by omega), List.append_nil, hr]
    rw [upI_n]
    exact PL.push hP1 hPs
  have j2 : i = 1 → At 2 [some (rf 57), some (rf h)] [] τ 0 0 := fun e => by
    subst e
    have kk := k2 (by omega)
    have ss := s2 (by omega)
    have e2 := e2 (by omega)
    have hc := m_pushesBelow hI hP (by omega) a b kk.1 kk.2.1
    rw [← e1, ← e2] at hc
    have hr := (rn_up (rows := rows) (K := K) (va := va) (R := R) a ((b : Nat) - 1 : Int) st k)
    refine hA 2 _ rfl _ _ _ _ _ ?_
    refine Exists.intro _ (Exists.intro _ (And.intro (hh) (And.intro (by omega) ?_)))
    refine Exists.intro _ (Exists.intro _ (And.intro (hh) (And.intro (by omega) ?_)))
    refine Exists.intro _ (And.intro q57 (And.intro rfl (ab_inv_of hc (by first | decide | omega) (by omega) (by omega) ?_)))
    intro y υ hpost
    obtain ⟨rfl, hP1⟩ := hpost
    rw [e2] at hP1
    
    refine fin _ ?_
    rw [ac_0 (by omega), if_neg (by omega)]
    unfold cmpN cmpB
    rw [if_neg (by omega), if_pos (by omega), if_neg (by omega), List.append_nil, hr]
    exact PL.push hP1 hPs
  have j3 : i = 2 → At 3 [some (rf 57), some (rf h)] [] τ 0 0 := fun e => by
    subst e
    have kk := k2 (by omega)
    have ss := s2 (by omega)
    have e2 := e2 (by omega)
    have hc := m_pushesBelow hI hP (by omega) a b kk.1 kk.2.1
    rw [← e1, ← e2] at hc
    have hr := (rn_up (rows := rows) (K := K) (va := va) (R := R) a ((b : Nat) - 1 : Int) st k)
    refine hA 3 _ rfl _ _ _ _ _ ?_
    refine Exists.intro _ (Exists.intro _ (And.intro (hh) (And.intro (by omega) ?_)))
    refine Exists.intro _ (Exists.intro _ (And.intro (hh) (And.intro (by omega) ?_)))
    refine Exists.intro _ (And.intro q57 (And.intro rfl (ab_inv_of hc (by first | decide | omega) (by omega) (by omega) ?_)))
    intro y υ hpost
    obtain ⟨rfl, hP1⟩ := hpost
    rw [e2] at hP1
    obtain ⟨t1, hJ1, -⟩ := hP1.mi hI
    have r57 := hJ1.h57
    have ht := m_turnsTop hI hP1 (by omega)
    rw [ab_up_s] at ht
    refine Exists.intro _ (And.intro (by first | assumption | exact st_s | exact st_e (by decide) (by assumption) | exact st_e (by omega) (by assumption) | exact st_e (by decide) st_s | exact st_e (by omega) st_s | exact st_e (by decide) (st_e (by decide) (by assumption)) | exact st_e (by omega) (st_e (by omega) (by assumption))) (And.intro rfl (ab_inv_of ht (by first | decide | omega) (by omega) (by omega) ?_)))
    intro y υ2 hpost
    obtain ⟨rfl, hP2⟩ := hpost
    have hr2 := rn_not hr
    
    refine fin _ ?_
    rw [ac_0 (by omega), if_neg (by omega)]
    unfold cmpN cmpB
    rw [if_neg (by omega), if_pos (by omega), if_pos (by omega), hr2]
    exact PL.push (hP2.ext (fun j hj => by
      by_cases e : j = st.length
      · subst e; rw [ab_up_s, ab_up_s]
      · rw [ab_up_n e, ab_up_n e, ab_up_n e])) hPs
  have j4 : i = 3 → At 4 [some (rf 57), some (rf h)] [] τ 0 0 := fun e => by
    subst e
    have kk := k2 (by omega)
    have ss := s2 (by omega)
    have e2 := e2 (by omega)
    have hc := m_pushesLeast hI hP (by omega) a b kk.1 kk.2.1
    rw [← e1, ← e2] at hc
    have hr := (rn_up (rows := rows) (K := K) (va := va) (R := R) a ((b : Nat) : Int) st k)
    rw [upI_n] at hr
    refine hA 4 _ rfl _ _ _ _ _ ?_
    refine Exists.intro _ (Exists.intro _ (And.intro (hh) (And.intro (by omega) ?_)))
    refine Exists.intro _ (Exists.intro _ (And.intro (hh) (And.intro (by omega) ?_)))
    refine Exists.intro _ (And.intro q57 (And.intro rfl (ab_inv_of hc (by first | decide | omega) (by omega) (by omega) ?_)))
    intro y υ hpost
    obtain ⟨rfl, hP1⟩ := hpost
    obtain ⟨t1, hJ1, -⟩ := hP1.mi hI
    have r57 := hJ1.h57
    have ht := m_turnsTop hI hP1 (by omega)
    rw [ab_up_s] at ht
    refine Exists.intro _ (And.intro (by first | assumption | exact st_s | exact st_e (by decide) (by assumption) | exact st_e (by omega) (by assumption) | exact st_e (by decide) st_s | exact st_e (by omega) st_s | exact st_e (by decide) (st_e (by decide) (by assumption)) | exact st_e (by omega) (st_e (by omega) (by assumption))) (And.intro rfl (ab_inv_of ht (by first | decide | omega) (by omega) (by omega) ?_)))
    intro y υ2 hpost
    obtain ⟨rfl, hP2⟩ := hpost
    have hr2 := rn_not hr
    
    refine fin _ ?_
    rw [ac_0 (by omega), if_neg (by omega)]
    unfold cmpN cmpB
    rw [if_pos (by omega), if_pos (by omega), hr2]
    exact PL.push (hP2.ext (fun j hj => by
      by_cases e : j = st.length
      · subst e; rw [ab_up_s, ab_up_s]
      · rw [ab_up_n e, ab_up_n e, ab_up_n e])) hPs
  have j5 : i = 4 → At 5 [some (rf 57), some (rf h)] [] τ 0 0 := fun e => by
    subst e
    have kk := k2 (by omega)
    have ss := s2 (by omega)
    have e2 := e2 (by omega)
    have hc := m_pushesEqual hI hP (by omega) a b kk.1 kk.2.1
    rw [← e1, ← e2] at hc
    have hr := (rn_eqN (rows := rows) (K := K) (va := va) (R := R) a b st k)
    refine hA 5 _ rfl _ _ _ _ _ ?_
    refine Exists.intro _ (Exists.intro _ (And.intro (hh) (And.intro (by omega) ?_)))
    refine Exists.intro _ (Exists.intro _ (And.intro (hh) (And.intro (by omega) ?_)))
    refine Exists.intro _ (And.intro q57 (And.intro rfl (ab_inv_of hc (by first | decide | omega) (by omega) (by omega) ?_)))
    intro y υ hpost
    obtain ⟨rfl, hP1⟩ := hpost
    
    refine fin _ ?_
    rw [ac_0 (by omega), if_neg (by omega)]
    unfold cmpN cmpB
    rw [if_neg (by omega), if_neg (by omega), if_neg (by omega), List.append_nil, hr]
    exact PL.push hP1 hPs
  have j6 : i = 5 → At 6 [some (rf 57), some (rf h)] [] τ 0 0 := fun e => by
    subst e
    have kk := k2 (by omega)
    have ss := s2 (by omega)
    have e2 := e2 (by omega)
    have hc := m_pushesEqual hI hP (by omega) a b kk.1 kk.2.1
    rw [← e1, ← e2] at hc
    have hr := (rn_eqN (rows := rows) (K := K) (va := va) (R := R) a b st k)
    refine hA 6 _ rfl _ _ _ _ _ ?_
    refine Exists.intro _ (Exists.intro _ (And.intro (hh) (And.intro (by omega) ?_)))
    refine Exists.intro _ (Exists.intro _ (And.intro (hh) (And.intro (by omega) ?_)))
    refine Exists.intro _ (And.intro q57 (And.intro rfl (ab_inv_of hc (by first | decide | omega) (by omega) (by omega) ?_)))
    intro y υ hpost
    obtain ⟨rfl, hP1⟩ := hpost
    obtain ⟨t1, hJ1, -⟩ := hP1.mi hI
    have r57 := hJ1.h57
    have ht := m_turnsTop hI hP1 (by omega)
    rw [ab_up_s] at ht
    refine Exists.intro _ (And.intro (by first | assumption | exact st_s | exact st_e (by decide) (by assumption) | exact st_e (by omega) (by assumption) | exact st_e (by decide) st_s | exact st_e (by omega) st_s | exact st_e (by decide) (st_e (by decide) (by assumption)) | exact st_e (by omega) (st_e (by omega) (by assumption))) (And.intro rfl (ab_inv_of ht (by first | decide | omega) (by omega) (by omega) ?_)))
    intro y υ2 hpost
    obtain ⟨rfl, hP2⟩ := hpost
    have hr2 := rn_not hr
    
    refine fin _ ?_
    rw [ac_0 (by omega), if_neg (by omega)]
    unfold cmpN cmpB
    rw [if_neg (by omega), if_neg (by omega), if_pos (by omega), hr2]
    exact PL.push (hP2.ext (fun j hj => by
      by_cases e : j = st.length
      · subst e; rw [ab_up_s, ab_up_s]
      · rw [ab_up_n e, ab_up_n e, ab_up_n e])) hPs
  have j7 : i = 6 → At 7 [some (rf 57), some (rf h)] [] τ 0 0 := fun e => by
    subst e
    have kk := k2 (by omega)
    have ss := s2 (by omega)
    have e2 := e2 (by omega)
    have e3 := e3 rfl
    have hc := m_pushesBetween hI hP (by omega) a b c' kk.1 kk.2.1 kk.2.2
    rw [← e1, ← e2, ← e3] at hc
    have hr := (rn_bt (rows := rows) (K := K) (va := va) (R := R) a b c' st k)
    refine hA 7 _ rfl _ _ _ _ _ ?_
    refine Exists.intro _ (Exists.intro _ (And.intro (hh) (And.intro (by omega) ?_)))
    refine Exists.intro _ (Exists.intro _ (And.intro (hh) (And.intro (by omega) ?_)))
    refine Exists.intro _ (Exists.intro _ (And.intro (hh) (And.intro (by omega) ?_)))
    refine Exists.intro _ (And.intro q57 (And.intro rfl (ab_inv_of hc (by first | decide | omega) (by omega) (by omega) ?_)))
    intro y υ hpost
    obtain ⟨rfl, hP1⟩ := hpost
    
    refine fin _ ?_
    rw [ac_0 (by omega), if_pos rfl, hr]
    exact PL.push hP1 hPs
  have j8 : i = 7 → At 8 [some (rf 57), some (rf h)] [] τ 0 0 := fun e => by
    subst e
    have ss := s3 (by omega)
    have hP' := hP
    rw [show st.length = (st.length - a) + a by omega] at hP'
    have hc := m_joinsAll hI (st.length - a) a (by omega) hP' (by omega) 0 (by omega)
    rw [← e1] at hc
    have htk : st.take a = stF P (st.length - a) a := by
      have := stl_take P (st.length - a) a
      rw [show st.length - a + a = st.length by omega, hPs] at this
      exact this
    have hdr : st.drop a = stl P (st.length - a) := by
      have := stl_drop P (st.length - a) a
      rw [show st.length - a + a = st.length by omega, hPs] at this
      exact this
    have hac := ac_j (rows := rows) (K := K) (va := va) (R := R) (i := 7) (a := a) (b := b) (c' := c') (st := st) (k := k) (by omega)
    rw [htk, hdr] at hac
    have hl : (stl P (st.length - a)).length = st.length - a := stl_len P _
    refine hA 8 _ rfl _ _ _ _ _ ?_
    refine Exists.intro _ (Exists.intro _ (And.intro (hh) (And.intro (by omega) ?_)))
    refine Exists.intro _ (And.intro q57 (And.intro rfl (ab_inv_of hc (by first | decide | omega) (by omega) (by omega) ?_)))
    intro y υ hpost
    obtain ⟨rfl, hP1⟩ := hpost
    
    refine fin _ ?_
    rw [hac]
    refine PL.push (P := P) (by rw [hl]; exact hP1) (by rw [hl])
  have j9 : i = 8 → At 9 [some (rf 57), some (rf h)] [] τ 0 0 := fun e => by
    subst e
    have ss := s3 (by omega)
    have hP' := hP
    rw [show st.length = (st.length - a) + a by omega] at hP'
    have hc := m_joinsAll hI (st.length - a) a (by omega) hP' (by omega) 1 (by omega)
    rw [← e1] at hc
    have htk : st.take a = stF P (st.length - a) a := by
      have := stl_take P (st.length - a) a
      rw [show st.length - a + a = st.length by omega, hPs] at this
      exact this
    have hdr : st.drop a = stl P (st.length - a) := by
      have := stl_drop P (st.length - a) a
      rw [show st.length - a + a = st.length by omega, hPs] at this
      exact this
    have hac := ac_j (rows := rows) (K := K) (va := va) (R := R) (i := 8) (a := a) (b := b) (c' := c') (st := st) (k := k) (by omega)
    rw [htk, hdr] at hac
    have hl : (stl P (st.length - a)).length = st.length - a := stl_len P _
    refine hA 9 _ rfl _ _ _ _ _ ?_
    refine Exists.intro _ (Exists.intro _ (And.intro (hh) (And.intro (by omega) ?_)))
    refine Exists.intro _ (And.intro q57 (And.intro rfl (ab_inv_of hc (by first | decide | omega) (by omega) (by omega) ?_)))
    intro y υ hpost
    obtain ⟨rfl, hP1⟩ := hpost
    
    refine fin _ ?_
    rw [hac]
    refine PL.push (P := P) (by rw [hl]; exact hP1) (by rw [hl])
  have j10 : i = 9 → At 10 [some (rf 57), some (rf h)] [] τ 0 0 := fun e => by
    subst e
    have ss := s3 (by omega)
    have ha2 := k4 (by omega)
    subst ha2
    have hP' := hP
    rw [show st.length = (st.length - 2) + 2 by omega] at hP'
    have hc := m_joinsAll hI (st.length - 2) 2 (by omega) hP' (by omega) 2 (by omega)
    have htk : st.take 2 = stF P (st.length - 2) 2 := by
      have := stl_take P (st.length - 2) 2
      rw [show st.length - 2 + 2 = st.length by omega, hPs] at this
      exact this
    have hdr : st.drop 2 = stl P (st.length - 2) := by
      have := stl_drop P (st.length - 2) 2
      rw [show st.length - 2 + 2 = st.length by omega, hPs] at this
      exact this
    have hac := ac_j (rows := rows) (K := K) (va := va) (R := R) (i := 9) (a := 2) (b := b) (c' := c') (st := st) (k := k) (by omega)
    rw [htk, hdr] at hac
    have hl : (stl P (st.length - 2)).length = st.length - 2 := stl_len P _
    refine hA 10 _ rfl _ _ _ _ _ ?_
    refine Exists.intro _ (And.intro q57 (And.intro rfl (ab_inv_of hc (by first | decide | omega) (by omega) (by omega) ?_)))
    
    intro y υ hpost
    obtain ⟨rfl, hP1⟩ := hpost
    
    refine fin _ ?_
    rw [hac]
    refine PL.push (P := P) (by rw [hl]; exact hP1) (by rw [hl])
  have j11 : i = 10 → At 11 [some (rf 57), some (rf h)] [] τ 0 0 := fun e => by
    subst e
    have ss := s3 (by omega)
    have ha2 := k4 (by omega)
    subst ha2
    have hP' := hP
    rw [show st.length = (st.length - 2) + 2 by omega] at hP'
    have hc := m_joinsAll hI (st.length - 2) 2 (by omega) hP' (by omega) 3 (by omega)
    have htk : st.take 2 = stF P (st.length - 2) 2 := by
      have := stl_take P (st.length - 2) 2
      rw [show st.length - 2 + 2 = st.length by omega, hPs] at this
      exact this
    have hdr : st.drop 2 = stl P (st.length - 2) := by
      have := stl_drop P (st.length - 2) 2
      rw [show st.length - 2 + 2 = st.length by omega, hPs] at this
      exact this
    have hac := ac_j (rows := rows) (K := K) (va := va) (R := R) (i := 10) (a := 2) (b := b) (c' := c') (st := st) (k := k) (by omega)
    rw [htk, hdr] at hac
    have hl : (stl P (st.length - 2)).length = st.length - 2 := stl_len P _
    refine hA 11 _ rfl _ _ _ _ _ ?_
    refine Exists.intro _ (And.intro q57 (And.intro rfl (ab_inv_of hc (by first | decide | omega) (by omega) (by omega) ?_)))
    
    intro y υ hpost
    obtain ⟨rfl, hP1⟩ := hpost
    
    refine fin _ ?_
    rw [hac]
    refine PL.push (P := P) (by rw [hl]; exact hP1) (by rw [hl])
  have j12 : i = 11 → At 12 [some (rf 57), some (rf h)] [] τ 0 0 := fun e => by
    subst e
    have ss := s4 rfl
    cases st with
    | nil => exact absurd ss (by decide)
    | cons v st =>
      have hPl : PS σ τ t rows P (st.length + 1) k := hP
      have hPe : stl P (st.length + 1) = v :: st := hPs
      have hPv : P st.length = v := by
        have hPe : P st.length :: stl P st.length = v :: st := hPe
        injection hPe
      have hc := m_turnsTop hI hPl (by have : (v :: st).length = st.length + 1 := rfl; omega)
      rw [hPv] at hc
      refine hA 12 _ rfl _ _ _ _ _ ?_
      refine Exists.intro _ (And.intro q57 (And.intro rfl (ab_inv_of hc (by first | decide | omega) (by omega) (by omega) ?_)))
      intro y υ hpost
      obtain ⟨rfl, hP1⟩ := hpost
      
      refine fin _ ?_
      rw [ac_n]
      exact PL.turn hP1 hPe
  have j13 : i = 12 → At 13 [some (rf 57), some (rf h)] [] τ 0 0 := fun e => by
    subst e
    have ss := s5 (by omega)
    have hc := m_pushesAll hI hP (by omega) true
    refine hA 13 _ rfl _ _ _ _ _ ?_
    refine Exists.intro _ (And.intro q57 (And.intro rfl (ab_inv_of hc (by first | decide | omega) (by omega) (by omega) ?_)))
    intro y υ hpost
    obtain ⟨rfl, hP1⟩ := hpost
    
    refine fin _ ?_
    rw [ac_l (by omega), leaf_12]
    exact PL.push hP1 hPs
  have j14 : i = 13 → At 14 [some (rf 57), some (rf h)] [] τ 0 0 := fun e => by
    subst e
    have ss := s5 (by omega)
    have hc := m_pushesAll hI hP (by omega) false
    refine hA 14 _ rfl _ _ _ _ _ ?_
    refine Exists.intro _ (And.intro q57 (And.intro rfl (ab_inv_of hc (by first | decide | omega) (by omega) (by omega) ?_)))
    intro y υ hpost
    obtain ⟨rfl, hP1⟩ := hpost
    
    refine fin _ ?_
    rw [ac_l (by omega), leaf_13]
    exact PL.push hP1 hPs
  have j15 : i = 14 → At 15 [some (rf 57), some (rf h)] [] τ 0 0 := fun e => by
    subst e
    have ss := s5 (by omega)
    have hc := m_pushesResult hI hP (by omega) a (k3 rfl)
    rw [← e1] at hc
    refine hA 15 _ rfl _ _ _ _ _ ?_
    refine Exists.intro _ (Exists.intro _ (And.intro (hh) (And.intro (by omega) ?_)))
    refine Exists.intro _ (And.intro q57 (And.intro rfl (ab_inv_of hc (by first | decide | omega) (by omega) (by omega) ?_)))
    intro y υ hpost
    obtain ⟨rfl, hP1⟩ := hpost
    
    refine fin _ ?_
    rw [ac_l (by omega)]
    exact PL.push hP1 hPs
  refine hA 0 _ rfl _ _ _ _ _ ?_
  refine Exists.intro _ (Exists.intro _ (And.intro (hh) (And.intro (by omega) ?_)))
  refine And.intro (show ab_R (g 0) from rR (by omega) (by omega)) ?_
  exact And.intro (fun (q : g 0 = 0) => j1 (by omega)) (fun (q0 : g 0 ≠ 0) => And.intro (fun (q : g 0 = 1) => j2 (by omega)) (fun (q1 : g 0 ≠ 1) => And.intro (fun (q : g 0 = 2) => j3 (by omega)) (fun (q2 : g 0 ≠ 2) => And.intro (fun (q : g 0 = 3) => j4 (by omega)) (fun (q3 : g 0 ≠ 3) => And.intro (fun (q : g 0 = 4) => j5 (by omega)) (fun (q4 : g 0 ≠ 4) => And.intro (fun (q : g 0 = 5) => j6 (by omega)) (fun (q5 : g 0 ≠ 5) => And.intro (fun (q : g 0 = 6) => j7 (by omega)) (fun (q6 : g 0 ≠ 6) => And.intro (fun (q : g 0 = 7) => j8 (by omega)) (fun (q7 : g 0 ≠ 7) => And.intro (fun (q : g 0 = 8) => j9 (by omega)) (fun (q8 : g 0 ≠ 8) => And.intro (fun (q : g 0 = 9) => j10 (by omega)) (fun (q9 : g 0 ≠ 9) => And.intro (fun (q : g 0 = 10) => j11 (by omega)) (fun (q10 : g 0 ≠ 10) => And.intro (fun (q : g 0 = 11) => j12 (by omega)) (fun (q11 : g 0 ≠ 11) => And.intro (fun (q : g 0 = 12) => j13 (by omega)) (fun (q12 : g 0 ≠ 12) => And.intro (fun (q : g 0 = 13) => j14 (by omega)) (fun (q13 : g 0 ≠ 13) => j15 (by omega)))))))))))))))
end Mans2
section Mfor
variable {σ : ab_H} {cc rows : Nat} {K : Nat → CT} {va : Nat → Nat → Nat} {R : Nat → V1} {f : Nat → Int} {n : Nat} {pl : Int} {c : C3} {t : Nat → Int} {r : Nat → Nat} {th : Int}
set_option maxRecDepth 100000 in
set_option maxHeartbeats 1000000 in
theorem g_foretold (hI : MI σ cc rows K va R f n pl c t r th) (i k x what : Int) (hi : ab_R i) (hk : ab_R k) (hx : ab_R x) (hwhat : ab_R what) : ab_call 12 0 0 yX10_foretold [rf 57, .inl i, .inl k, .inl x, .inl what] σ (mdP σ (cc, rows, K, va, R, f, n, pl, c) r (fun i => (i : Int) + 1) (stq (cc, rows, K, va, R, f, n, pl, c) (sp_foretold cc rows K va R i k x what))) := by
  have q57 := hI.h57
  have hr := hI.hr
  have hcc := hI.hc
  have hgl := gu_le hr
  have hI0 := hI.uth 0
  have hf0 : fr mA σ (ab_st σ 57 (m10 (ab_up t 0 0))) := fr_st (by unfold mA; omega)
  generalize ht0 : ab_up t 0 0 = t0 at hI0 hf0
  generalize hs0 : ab_st σ 57 (m10 t0) = σ0 at hI0 hf0
  have p57 := hI0.h57
  have p58 := hI0.h58
  have p0 := hI0.t0
  have p2 := hI0.t2
  have p12 := hI0.t12
  have p13 := hI0.t13
  refine eX10_foretold rfl (fun At hA => ?_)
  have gK1 : (0 ≤ k ∧ k < cc) → At 3 [some (rf 57), some (.inl i), some (.inl k), some (.inl x), some (.inl what), none] [.inl 0, rf 57] σ0 0 0 := fun hP1 => by
    refine hA 3 _ rfl _ _ _ _ _ ?_
    refine Exists.intro _ (And.intro (by first | assumption | exact st_s | exact st_e (by decide) (by assumption) | exact st_e (by omega) (by assumption) | exact st_e (by decide) st_s | exact st_e (by omega) st_s | exact st_e (by decide) (st_e (by decide) (by assumption)) | exact st_e (by omega) (st_e (by omega) (by assumption))) (And.intro rfl (ab_inv_ev (m_bad0 p57 p0 1 0) (by first | decide | omega) (by first | exact Nat.le_refl _ | omega) (by first | exact Nat.le_refl _ | omega) ?_)))
    refine And.intro (by first | assumption | exact b2i_R _ | exact rR (by omega) (by omega) | exact rR (by simp only [Int.toNat_natCast]; omega) (by simp only [Int.toNat_natCast]; omega)) (And.intro (fun q => ?_) (fun q => ?_))
    · exact absurd rfl q
    · have gK2 : ((0 ≤ i ∧ i ≤ 5 ∧ 0 ≤ x ∧ x ≤ 999) ∧ 0 ≤ what ∧ what ≤ 2) → At 9 [some (rf 57), some (.inl i), some (.inl k), some (.inl x), some (.inl what), none] [.inl 0, rf 57] σ0 0 0 := fun hP2 => by
        refine hA 9 _ rfl _ _ _ _ _ ?_
        refine Exists.intro _ (And.intro (by first | assumption | exact st_s | exact st_e (by decide) (by assumption) | exact st_e (by omega) (by assumption) | exact st_e (by decide) st_s | exact st_e (by omega) st_s | exact st_e (by decide) (st_e (by decide) (by assumption)) | exact st_e (by omega) (st_e (by omega) (by assumption))) (And.intro rfl (ab_inv_ev (m_bad0 p57 p0 2 1) (by first | decide | omega) (by first | exact Nat.le_refl _ | omega) (by first | exact Nat.le_refl _ | omega) ?_)))
        refine And.intro (by first | assumption | exact b2i_R _ | exact rR (by omega) (by omega) | exact rR (by simp only [Int.toNat_natCast]; omega) (by simp only [Int.toNat_natCast]; omega)) (And.intro (fun q => ?_) (fun q => ?_))
        · obtain ⟨i', rfl⟩ : ∃ m : Nat, i = (m : Int) := ⟨i.toNat, by omega⟩
          obtain ⟨k', rfl⟩ : ∃ m : Nat, k = (m : Int) := ⟨k.toNat, by omega⟩
          obtain ⟨x', rfl⟩ : ∃ m : Nat, x = (m : Int) := ⟨x.toNat, by omega⟩
          obtain ⟨what', rfl⟩ : ∃ m : Nat, what = (m : Int) := ⟨what.toNat, by omega⟩
          obtain ⟨g, h80⟩ := hI0.sc.act (a := 80) (by omega) (by omega)
          have hI1 : MI (ab_st σ0 80 (iar 4 (ab_up (ab_up (ab_up g 0 (i' : Nat)) 1 (k' : Nat)) 2 (x' : Nat)))) cc rows K va R f n pl c t0 r 0 := hI0.st (by omega) (by omega) (shp_act (by omega))
          have q57 := hI1.h57
          have hf1 : fr mA σ (ab_st σ0 80 (iar 4 (ab_up (ab_up (ab_up g 0 (i' : Nat)) 1 (k' : Nat)) 2 (x' : Nat)))) := hf0.st (by unfold mA; omega)
          have s80 : (ab_st σ0 80 (iar 4 (ab_up (ab_up (ab_up g 0 (i' : Nat)) 1 (k' : Nat)) 2 (x' : Nat)))).2 80 = some (iar 4 (ab_up (ab_up (ab_up g 0 (i' : Nat)) 1 (k' : Nat)) 2 (x' : Nat))) := st_s
          generalize hs1 : ab_st σ0 80 (iar 4 (ab_up (ab_up (ab_up g 0 (i' : Nat)) 1 (k' : Nat)) 2 (x' : Nat))) = σ1 at hI1 q57 hf1 s80
          have hcl := m_clears q57
          have hP0 := PS.cl (P := fun _ => fun _ => 0) hI1
          have s80' : (ab_st σ1 57 (m10 (ab_up (ab_up (ab_up (ab_up t0 20 0) 21 0) 22 0) 23 0))).2 80 = some (iar 4 (ab_up (ab_up (ab_up g 0 (i' : Nat)) 1 (k' : Nat)) 2 (x' : Nat))) := st_e (by omega) s80
          have r57 : (ab_st σ1 57 (m10 (ab_up (ab_up (ab_up (ab_up t0 20 0) 21 0) 22 0) 23 0))).2 57 = some (m10 (ab_up (ab_up (ab_up (ab_up t0 20 0) 21 0) 22 0) 23 0)) := st_s
          have han := m_answers hI1 (st := []) (k := (0, 0, 0)) ⟨fun _ => fun _ => 0, hP0, rfl⟩ s80' (i := i') (a := k') (b := x') (c' := 0) rfl rfl (fun _ => rfl) (fun h => by omega) ⟨by dsimp only; omega, fun _ => ⟨by dsimp only; omega, by dsimp only; omega, (by decide : 0 < 1000)⟩, fun h => by dsimp only at h; omega, fun h => by dsimp only at h; omega⟩ ⟨by decide, fun _ => by decide, fun h => by dsimp only at h; omega, fun h => by dsimp only at h; omega, fun h => by dsimp only at h; omega⟩
          rw [ac_0 (by omega), if_neg (by omega)] at han
          obtain ⟨v9, d9, hlay⟩ := lay_cmp (rows := rows) (K := K) (va := va) (R := R) i' k' x'
          rw [lay_fin hlay] at han
          have e0 : ab_st (ab_st (ab_st σ0 (80 + (0 : Int).toNat) (iar 4 (ab_up g ((0 : Int).toNat) (i' : Nat)))) (80 + (0 : Int).toNat) (iar 4 (ab_up (ab_up g ((0 : Int).toNat) (i' : Nat)) ((1 : Int).toNat) (k' : Nat)))) (80 + (0 : Int).toNat) (iar 4 (ab_up (ab_up (ab_up g ((0 : Int).toNat) (i' : Nat)) ((1 : Int).toNat) (k' : Nat)) ((2 : Int).toNat) (x' : Nat))) = σ1 := by
            rw [st_st, st_st]
            exact hs1
          refine hA 11 _ rfl _ _ _ _ _ ?_
          refine Exists.intro _ (And.intro (p57) ?_)
          refine Exists.intro _ (Exists.intro _ (And.intro (hI0.h79) (And.intro (by omega) ?_)))
          refine Exists.intro _ (Exists.intro _ (And.intro (h80) (And.intro (by omega) ?_)))
          refine Exists.intro _ (Exists.intro _ (And.intro (st_s) (And.intro (by omega) ?_)))
          refine Exists.intro _ (Exists.intro _ (And.intro (st_s) (And.intro (by omega) ?_)))
          rw [e0]
          refine Exists.intro _ (And.intro q57 (And.intro rfl (ab_inv_ev hcl (by first | decide | omega) (by first | exact Nat.le_refl _ | omega) (by first | exact Nat.le_refl _ | omega) ?_)))
          refine Exists.intro _ (And.intro r57 (And.intro rfl (ab_inv_of han (by first | decide | omega) (by omega) (by omega) ?_)))
          intro y υ hpost
          obtain ⟨rfl, P, hQ1, hPs⟩ := hpost
          obtain ⟨t2, hJ2, -⟩ := PS.mi hQ1 hI1
          have u57 := hJ2.h57
          have hPs : P 0 :: [] = [valN rows K va R (cmpN K i' k' x')] := hPs
          injection hPs with hP0v
          have hwl := m_withLive hI1 hQ1
          rw [hP0v] at hwl
          refine Exists.intro _ (And.intro (by first | assumption | exact st_s | exact st_e (by decide) (by assumption) | exact st_e (by omega) (by assumption) | exact st_e (by decide) st_s | exact st_e (by omega) st_s | exact st_e (by decide) (st_e (by decide) (by assumption)) | exact st_e (by omega) (st_e (by omega) (by assumption))) (And.intro rfl (ab_inv_of hwl (by first | decide | omega) (by omega) (by omega) ?_)))
          intro y υ2 hpost
          obtain ⟨rfl, hQ2⟩ := hpost
          obtain ⟨t3, hJ3, -, -, t31, t32, t33⟩ := hQ2.mi hI1
          have w57 := hJ3.h57
          have hff := hf1.tr (hQ2.1.mono (B := mA) (fun a ha => by unfold piA at ha; unfold mA; omega))
          have k16 : ∀ z : Int, sp_foretold cc rows K va R (i' : Nat) (k' : Nat) (x' : Nat) (what' : Nat) = .inl z → ∀ L, At 16 L [.inl z] υ2 0 0 := fun z hz L => by
            refine hA 16 _ rfl _ _ _ _ _ ?_
            exact md_as hz rfl hff hJ3
          refine And.intro (by first | assumption | exact b2i_R _ | exact rR (by omega) (by omega) | exact rR (by simp only [Int.toNat_natCast]; omega) (by simp only [Int.toNat_natCast]; omega)) (And.intro (fun q => ?_) (fun q => ?_))
          · refine hA 13 _ rfl _ _ _ _ _ ?_
            refine And.intro (And.intro (by first | assumption | exact b2i_R _ | exact rR (by omega) (by omega) | exact rR (by simp only [Int.toNat_natCast]; omega) (by simp only [Int.toNat_natCast]; omega)) (by first | assumption | exact b2i_R _ | exact rR (by omega) (by omega) | exact rR (by simp only [Int.toNat_natCast]; omega) (by simp only [Int.toNat_natCast]; omega))) (And.intro (fun q => ?_) (fun q => ?_))
            · refine hA 15 _ rfl _ _ _ _ _ ?_
              refine Exists.intro _ (And.intro (w57) ?_)
              refine k16 _ ?_ _
              unfold sp_foretold
              rw [if_pos hP1, if_pos hP2, if_neg (by omega), if_neg (by omega), t33]
              rfl
            · refine hA 14 _ rfl _ _ _ _ _ ?_
              refine Exists.intro _ (And.intro (w57) ?_)
              refine k16 _ ?_ _
              unfold sp_foretold
              rw [if_pos hP1, if_pos hP2, if_neg (by omega), if_pos (by omega), t32]
              rfl
          · refine hA 12 _ rfl _ _ _ _ _ ?_
            refine Exists.intro _ (And.intro (w57) ?_)
            refine k16 _ ?_ _
            unfold sp_foretold
            rw [if_pos hP1, if_pos hP2, if_pos (by omega), t31]
            rfl
        · exact absurd rfl q
      have gF2 : ¬ ((0 ≤ i ∧ i ≤ 5 ∧ 0 ≤ x ∧ x ≤ 999) ∧ 0 ≤ what ∧ what ≤ 2) → At 9 [some (rf 57), some (.inl i), some (.inl k), some (.inl x), some (.inl what), none] [.inl 1, rf 57] σ0 0 0 := fun hP2 => by
        refine hA 9 _ rfl _ _ _ _ _ ?_
        refine Exists.intro _ (And.intro (by first | assumption | exact st_s | exact st_e (by decide) (by assumption) | exact st_e (by omega) (by assumption) | exact st_e (by decide) st_s | exact st_e (by omega) st_s | exact st_e (by decide) (st_e (by decide) (by assumption)) | exact st_e (by omega) (st_e (by omega) (by assumption))) (And.intro rfl (ab_inv_ev (m_bad1 p57 p0 p58 2 1 (by decide) (by decide) (by decide)) (by first | decide | omega) (by first | exact Nat.le_refl _ | omega) (by first | exact Nat.le_refl _ | omega) ?_)))
        refine And.intro (by first | assumption | exact b2i_R _ | exact rR (by omega) (by omega) | exact rR (by simp only [Int.toNat_natCast]; omega) (by simp only [Int.toNat_natCast]; omega)) (And.intro (fun q => ?_) (fun q => ?_))
        · exact absurd q (by decide)
        · refine hA 10 _ rfl _ _ _ _ _ ?_
          exact md_no (by unfold sp_foretold; rw [if_pos hP1, if_neg hP2] <;> rfl) hf0 hI0 rfl
      have gO2 : ¬ ((0 ≤ i ∧ i ≤ 5 ∧ 0 ≤ x ∧ x ≤ 999) ∧ 0 ≤ what ∧ what ≤ 2) → At 7 [some (rf 57), some (.inl i), some (.inl k), some (.inl x), some (.inl what), none] [rf 57] σ0 0 0 := fun h => by
        refine hA 7 _ rfl _ _ _ _ _ ?_
        exact gF2 h
      have gZ2 : ((0 ≤ i ∧ i ≤ 5 ∧ 0 ≤ x ∧ x ≤ 999) ∧ 0 ≤ what ∧ what ≤ 2) → At 8 [some (rf 57), some (.inl i), some (.inl k), some (.inl x), some (.inl what), none] [rf 57] σ0 0 0 := fun h => by
        refine hA 8 _ rfl _ _ _ _ _ ?_
        exact gK2 h
      refine hA 4 _ rfl _ _ _ _ _ ?_
      refine And.intro rfl (ab_inv_ev (m_in i 0 5 hi (rR (by omega) (by omega)) (rR (by omega) (by omega))) (by first | decide | omega) (by first | exact Nat.le_refl _ | omega) (by first | exact Nat.le_refl _ | omega) ?_)
      refine And.intro (by first | assumption | exact b2i_R _ | exact rR (by omega) (by omega) | exact rR (by simp only [Int.toNat_natCast]; omega) (by simp only [Int.toNat_natCast]; omega)) (And.intro (fun q => ?_) (fun q => ?_))
      · exact gO2 (by have q1 := of_decide_eq_false (b2i_0 q); omega)
      · have q10 := of_decide_eq_true (b2i_1 q)
        refine hA 5 _ rfl _ _ _ _ _ ?_
        refine And.intro rfl (ab_inv_ev (m_in x 0 999 hx (rR (by omega) (by omega)) (rR (by omega) (by omega))) (by first | decide | omega) (by first | exact Nat.le_refl _ | omega) (by first | exact Nat.le_refl _ | omega) ?_)
        refine And.intro (by first | assumption | exact b2i_R _ | exact rR (by omega) (by omega) | exact rR (by simp only [Int.toNat_natCast]; omega) (by simp only [Int.toNat_natCast]; omega)) (And.intro (fun q => ?_) (fun q => ?_))
        · exact gO2 (by have q1 := of_decide_eq_false (b2i_0 q); omega)
        · have q11 := of_decide_eq_true (b2i_1 q)
          refine hA 6 _ rfl _ _ _ _ _ ?_
          refine And.intro rfl (ab_inv_ev (m_in what 0 2 hwhat (rR (by omega) (by omega)) (rR (by omega) (by omega))) (by first | decide | omega) (by first | exact Nat.le_refl _ | omega) (by first | exact Nat.le_refl _ | omega) ?_)
          refine And.intro (by first | assumption | exact b2i_R _ | exact rR (by omega) (by omega) | exact rR (by simp only [Int.toNat_natCast]; omega) (by simp only [Int.toNat_natCast]; omega)) (And.intro (fun q => ?_) (fun q => ?_))
          · have q12 := of_decide_eq_true (b2i_1 q)
            exact gZ2 (by omega)
          · exact gO2 (by have q1 := of_decide_eq_false (b2i_0 q); omega)
  have gF1 : ¬ (0 ≤ k ∧ k < cc) → At 3 [some (rf 57), some (.inl i), some (.inl k), some (.inl x), some (.inl what), none] [.inl 1, rf 57] σ0 0 0 := fun hP1 => by
    refine hA 3 _ rfl _ _ _ _ _ ?_
    refine Exists.intro _ (And.intro (by first | assumption | exact st_s | exact st_e (by decide) (by assumption) | exact st_e (by omega) (by assumption) | exact st_e (by decide) st_s | exact st_e (by omega) st_s | exact st_e (by decide) (st_e (by decide) (by assumption)) | exact st_e (by omega) (st_e (by omega) (by assumption))) (And.intro rfl (ab_inv_ev (m_bad1 p57 p0 p58 1 0 (by decide) (by decide) (by decide)) (by first | decide | omega) (by first | exact Nat.le_refl _ | omega) (by first | exact Nat.le_refl _ | omega) ?_)))
    refine And.intro (by first | assumption | exact b2i_R _ | exact rR (by omega) (by omega) | exact rR (by simp only [Int.toNat_natCast]; omega) (by simp only [Int.toNat_natCast]; omega)) (And.intro (fun q => ?_) (fun q => ?_))
    · refine hA 10 _ rfl _ _ _ _ _ ?_
      exact md_no (by unfold sp_foretold; rw [if_neg hP1] <;> rfl) hf0 hI0 rfl
    · exact absurd q (by decide)
  have gO1 : ¬ (0 ≤ k ∧ k < cc) → At 1 [some (rf 57), some (.inl i), some (.inl k), some (.inl x), some (.inl what), none] [rf 57] σ0 0 0 := fun h => by
    refine hA 1 _ rfl _ _ _ _ _ ?_
    exact gF1 h
  have gZ1 : (0 ≤ k ∧ k < cc) → At 2 [some (rf 57), some (.inl i), some (.inl k), some (.inl x), some (.inl what), none] [rf 57] σ0 0 0 := fun h => by
    refine hA 2 _ rfl _ _ _ _ _ ?_
    exact gK1 h
  refine hA 0 _ rfl _ _ _ _ _ ?_
  refine Exists.intro _ (And.intro (q57) ?_)
  rw [m10_s0, ht0, hs0]
  refine Exists.intro _ (And.intro (by first | assumption | exact st_s | exact st_e (by decide) (by assumption) | exact st_e (by omega) (by assumption) | exact st_e (by decide) st_s | exact st_e (by omega) st_s | exact st_e (by decide) (st_e (by decide) (by assumption)) | exact st_e (by omega) (st_e (by omega) (by assumption))) (And.intro rfl (ab_inv_ev (m_isColumn p57 p12 hcc k hk) (by first | decide | omega) (by first | exact Nat.le_refl _ | omega) (by first | exact Nat.le_refl _ | omega) ?_)))
  refine And.intro (by first | assumption | exact b2i_R _ | exact rR (by omega) (by omega) | exact rR (by simp only [Int.toNat_natCast]; omega) (by simp only [Int.toNat_natCast]; omega)) (And.intro (fun q => ?_) (fun q => ?_))
  · have q00 := of_decide_eq_true (b2i_1 q)
    exact gZ1 (by omega)
  · exact gO1 (by have q1 := of_decide_eq_false (b2i_0 q); omega)
end Mfor
