-- ===== the model: a question read =====
section Mques3
variable {σ0 τ υ : ab_H} {f u t : Nat → Int} {len : Nat} {s s' : S2} {o : Nat} {AL : List N4} {K : Nat → CT} {cc : Nat}
/-- which name stands behind a place -/
def whN (f : Nat → Int) (len a : Nat) : Option Nat := fstC (wcd f (skB f len a) (skL f len (skB f len a) - skB f len a)) (nmc 2) 0
theorem whN_lt {a i : Nat} (h : whN f len a = some i) : i < 15 := by
  have := fst_lt _ _ h
  exact this
theorem q_which (h59 : σ0.2 59 = some (bya f)) (hf : byR f) (hl : len ≤ 200) {a : Nat} (h : QM σ0 f len u τ (.inr a) o AL) : ∃ (t : Nat → Int) (υ : ab_H), t 4 = (skB f len a : Nat) ∧ ab_ev 4 yX10_whichHere [rf 57] τ (some (.inl (match whN f len a with
    | some i => ((i : Nat) : Int)
    | none => -1))) υ ∧ QT σ0 f len u υ t (.inr a) o AL := by
  obtain ⟨h1, h2, t, h3, h4, h5, h6, L, h7, h8, h9⟩ := id h
  have t59 := (h1.2 59 (by unfold RA; omega)).trans h59
  obtain ⟨k3, ka, k6, k7, x, hx, hsx, k4⟩ := id h4
  have hb := m_whichHere h3 t59 hf k3 (by omega) x hx k4
  have hMr := (h4.ia k4).1
  rw [hsx] at hb hMr
  exact ⟨_, _, ab_up_s, hb, h1.st (Or.inl rfl), h2.st, st_s, hMr, fun j a b c d e => by rw [ab_up_n a]; exact h5 j a b c d e, fun q => by rw [ab_up_n (by omega)]; exact h6 q, L, by rw [ab_up_n (by omega)]; exact h7, h8, h9⟩
theorem q_skip (h59 : σ0.2 59 = some (bya f)) (hf : byR f) (hl : len ≤ 200) {a : Nat} (h : QT σ0 f len u υ t (.inr a) o AL) (h4 : t 4 = (skB f len a : Nat)) : ∃ υ' : ab_H, ab_ev 2 yX10_skipWord [rf 57] υ none υ' ∧ QM σ0 f len u υ' (.inr (skL f len (skB f len a))) o AL := by
  obtain ⟨h1, h2, h3, ⟨k3, ka, k6, k7, -⟩, h5, h6, L, h7, h8, h9⟩ := h
  have hs := skB_sp f len a ka
  have hb := m_skipWord h3 ((h1.2 59 (by unfold RA; omega)).trans h59) hf k3 (by omega) (skB f len a) hs.2 h4
  have hsl := skL_sp f len (skB f len a) hs.2
  exact ⟨_, hb, h1.st (Or.inl rfl), h2.st, _, st_s, ⟨by rw [ab_up_n (by omega)]; exact k3, hsl.2, by rw [ab_up_n (by omega)]; exact k6, by rw [ab_up_n (by omega)]; exact k7, _, hsl.2, rfl, ab_up_s⟩, fun j a b c d e => by rw [ab_up_n a]; exact h5 j a b c d e, fun q => by rw [ab_up_n (by omega)]; exact h6 q, L, by rw [ab_up_n (by omega)]; exact h7, h8, h9⟩
theorem wrd_cd {a : Nat} (ha : a ≤ len) : wrdT f len (.inr a) 2 = match whN f len a with
    | some i => ((i : Int), Sum.inr (skL f len (skB f len a)))
    | none => ((-1 : Int), Sum.inl ((1 : Int), ((skB f len a : Nat) : Int))) := by
  unfold wrdT whN
  dsimp only
  rw [wordP_cd ha (by decide)]
  cases fstC (wcd f (skB f len a) (skL f len (skB f len a) - skB f len a)) (nmc 2) 0 <;> rfl
theorem pq_none {a : Nat} (ha : a ≤ len) (h : whN f len a = none) (m : Nat) : pqT f len K cc m (.inr a) = (.inl (1, (skB f len a : Nat)), [], []) := by
  have e := wrd_cd (f := f) ha
  rw [h] at e
  dsimp only at e
  cases m with
  | zero =>
    unfold pqT
    rw [e]
    rfl
  | succ m =>
    unfold pqT
    rw [e]
    rfl
theorem pq_some {a i : Nat} (ha : a ≤ len) (h : whN f len a = some i) : pqT f len K cc 0 (.inr a) = (opnT f len 0 (.inr (skL f len (skB f len a))), [], []) ∧ ∀ m, pqT f len K cc (m + 1) (.inr a) = match opnT f len (m + 1) (.inr (skL f len (skB f len a))) with
    | .inl e => (Sum.inl e, [], [])
    | .inr y => (sgnT f len (bodT f len K cc (pqT f len K cc m) i y).1 41, (bodT f len K cc (pqT f len K cc m) i y).2) := by
  have e := wrd_cd (f := f) ha
  rw [h] at e
  dsimp only at e
  constructor
  · unfold pqT
    rw [e]
  · intro m
    rw [show pqT f len K cc (m + 1) (.inr a) = (match opnT f len (m + 1) (wrdT f len (.inr a) 2).2 with
    | .inl e => (Sum.inl e, [], [])
    | .inr y => (sgnT f len (bodT f len K cc (pqT f len K cc m) (wrdT f len (.inr a) 2).1.toNat y).1 41, (bodT f len K cc (pqT f len K cc m) (wrdT f len (.inr a) 2).1.toNat y).2)) from rfl, e]
    rfl
theorem bod_a (q : S2 → S2 × List N3 × List N4) {i a : Nat} (h : i ≤ 6) : bodT f len K cc q i a = cmpT f len K cc i a := if_pos h
theorem bod_b (q : S2 → S2 × List N3 × List N4) {i a : Nat} (h : ¬ i ≤ 6) (h2 : i ≤ 10) : bodT f len K cc q i a = jnT f len q i (.inr a) := (if_neg h).trans (if_pos h2)
theorem bod_c (q : S2 → S2 × List N3 × List N4) {a : Nat} : bodT f len K cc q 11 a = ((q (.inr a)).1, (q (.inr a)).2.1 ++ [(11, 0, 0)], (q (.inr a)).2.2 ++ [(11, 0, 0, 0)]) := rfl
theorem bod_d (q : S2 → S2 × List N3 × List N4) {a : Nat} : bodT f len K cc q 14 a = ((numT f len (.inr a) 0 5).2, [(14, 0, (numT f len (.inr a) 0 5).1.toNat)], [(14, (numT f len (.inr a) 0 5).1.toNat, 0, 0)]) := rfl
theorem bod_e (q : S2 → S2 × List N3 × List N4) {i a : Nat} (h : 11 < i) (h2 : i ≠ 14) : bodT f len K cc q i a = (.inr a, [(i, 0, 0)], [(i, 0, 0, 0)]) := by
  unfold bodT
  rw [if_neg (by omega), if_neg (by omega), if_neg (by omega), if_neg h2]
theorem num_F {lo hi : Int} (h : isR (numT f len s lo hi).2 = false) : (numT f len s lo hi).1 = -1 := by
  cases s with
  | inl e => rfl
  | inr a =>
    unfold numT at h ⊢
    dsimp only at h ⊢
    cases hP : numP f len a lo hi with
    | inl e => rfl
    | inr y =>
      obtain ⟨z, a'⟩ := y
      rw [hP] at h
      exact absurd (show true = false from h) (by decide)
set_option maxRecDepth 100000 in
set_option maxHeartbeats 1000000 in
theorem q_question (h59 : σ0.2 59 = some (bya f)) (h79 : σ0.2 79 = some (rfs 80 200)) (hf : byR f) (hl : len ≤ 200) (h12 : u 12 = (cc : Nat)) (hcc : cc ≤ 4) (m : Nat) (o : Nat) (hom : o + m = 5) (ihm : ∀ m', m = m' + 1 → HQ σ0 f len u K cc (2 * m' + 6) m' (o + 1)) : HQ σ0 f len u K cc (2 * m + 6) m o := by
  intro τ s AL h hle
  have hfi := q_mfine h
  obtain ⟨t0, c57⟩ := h.c57
  cases s with
  | inl e =>
    rw [pqT_no]
    refine eX10_readsQuestion rfl (fun At hA => ?_)
    refine hA 0 _ rfl _ _ _ _ _ ?_
    refine Exists.intro _ (And.intro (by first | assumption | exact st_s | exact st_e (by decide) (by assumption) | exact st_e (by omega) (by assumption) | exact st_e (by decide) st_s | exact st_e (by omega) st_s | exact st_e (by decide) (st_e (by decide) (by assumption)) | exact st_e (by omega) (st_e (by omega) (by assumption))) (And.intro rfl (ab_inv_ev hfi (by first | decide | omega) (by first | exact Nat.le_refl _ | omega) (by first | exact Nat.le_refl _ | omega) ?_)))
    refine And.intro (by first | assumption | exact b2i_R _ | exact rR (by omega) (by omega) | exact rR (by simp only [Int.toNat_natCast]; omega) (by simp only [Int.toNat_natCast]; omega)) (And.intro (fun q => ?_) (fun q => ?_))
    · exact absurd rfl q
    · refine hA 1 _ rfl _ _ _ _ _ ?_
      exact ⟨rfl, h.flt⟩
  | inr a =>
    have ha := h.le a rfl
    have hal := hle a rfl
    obtain ⟨t, υ1, ht4, hwh, hT⟩ := q_which h59 hf hl h
    have t57 := hT.h57
    refine eX10_readsQuestion rfl (fun At hA => ?_)
    have fin : ∀ (υ : ab_H) (y1 : Option ab_V) (s9 : S2) (NL : List N4), QM σ0 f len u υ s9 (o + 1) NL → ((pqT f len K cc m (.inr a)).1 = sgnT f len s9 41) → AL ++ (pqT f len K cc m (.inr a)).2.2 = NL → At 20 [some (rf 57), y1] [] υ 0 0 := fun υ y1 s9 NL hQ9 e1 e2 => by
      obtain ⟨t0, c57⟩ := hQ9.c57
      refine hA 20 _ rfl _ _ _ _ _ ?_
      refine Exists.intro _ (And.intro (by first | assumption | exact st_s | exact st_e (by decide) (by assumption) | exact st_e (by omega) (by assumption) | exact st_e (by decide) st_s | exact st_e (by omega) st_s | exact st_e (by decide) (st_e (by decide) (by assumption)) | exact st_e (by omega) (st_e (by omega) (by assumption))) (And.intro rfl (ab_inv_of (q_closesSign h59 hf hl hQ9) (by first | decide | omega) (by omega) (by omega) ?_)))
      intro z υ1 hpost
      obtain ⟨rfl, Q4⟩ := hpost
      
      rw [e1, e2]
      exact ⟨rfl, Q4⟩
    refine hA 0 _ rfl _ _ _ _ _ ?_
    refine Exists.intro _ (And.intro (by first | assumption | exact st_s | exact st_e (by decide) (by assumption) | exact st_e (by omega) (by assumption) | exact st_e (by decide) st_s | exact st_e (by omega) st_s | exact st_e (by decide) (st_e (by decide) (by assumption)) | exact st_e (by omega) (st_e (by omega) (by assumption))) (And.intro rfl (ab_inv_ev hfi (by first | decide | omega) (by first | exact Nat.le_refl _ | omega) (by first | exact Nat.le_refl _ | omega) ?_)))
    refine And.intro (by first | assumption | exact b2i_R _ | exact rR (by omega) (by omega) | exact rR (by simp only [Int.toNat_natCast]; omega) (by simp only [Int.toNat_natCast]; omega)) (And.intro (fun q => ?_) (fun q => ?_))
    · refine hA 2 _ rfl _ _ _ _ _ ?_
      refine Exists.intro _ (And.intro c57 (And.intro rfl (ab_inv_ev hwh (by first | decide | omega) (by first | exact Nat.le_refl _ | omega) (by first | exact Nat.le_refl _ | omega) ?_)))
      cases hw : whN f len a with
      | none =>
        have ep := pq_none (K := K) (cc := cc) ha hw m
        obtain ⟨hwr, w4, hT2⟩ := q_wrong hT 1 (by decide) (rR (by omega) (by omega)) (skB f len a)
        have hwr2 := hwr
        rw [← ht4] at hwr2
        refine And.intro (And.intro (by first | assumption | exact b2i_R _ | exact rR (by omega) (by omega) | exact rR (by simp only [Int.toNat_natCast]; omega) (by simp only [Int.toNat_natCast]; omega)) (by first | assumption | exact b2i_R _ | exact rR (by omega) (by omega) | exact rR (by simp only [Int.toNat_natCast]; omega) (by simp only [Int.toNat_natCast]; omega))) (And.intro (fun q => ?_) (fun q => ?_))
        · exact absurd rfl (by assumption)
        · have k4 : ∀ υ, υ = ab_st υ1 57 (m10 (wrT t 1 (skB f len a : Nat))) → At 4 [some (rf 57), some (.inl (-1))] [] υ 0 0 := fun υ e => by
            subst e
            have Q2 := hT2.qm
            have tw := hT2.h57
            have hfi2 := q_mfine Q2
            refine hA 4 _ rfl _ _ _ _ _ ?_
            refine Exists.intro _ (And.intro (by first | assumption | exact st_s | exact st_e (by decide) (by assumption) | exact st_e (by omega) (by assumption) | exact st_e (by decide) st_s | exact st_e (by omega) st_s | exact st_e (by decide) (st_e (by decide) (by assumption)) | exact st_e (by omega) (st_e (by omega) (by assumption))) (And.intro rfl (ab_inv_ev hfi2 (by first | decide | omega) (by first | exact Nat.le_refl _ | omega) (by first | exact Nat.le_refl _ | omega) ?_)))
            refine And.intro (by first | assumption | exact b2i_R _ | exact rR (by omega) (by omega) | exact rR (by simp only [Int.toNat_natCast]; omega) (by simp only [Int.toNat_natCast]; omega)) (And.intro (fun q => ?_) (fun q => ?_))
            · exact absurd rfl q
            · refine hA 5 _ rfl _ _ _ _ _ ?_
              rw [ep]
              exact ⟨rfl, Q2.flt⟩
          refine hA 3 _ rfl _ _ _ _ _ ?_
          refine Exists.intro _ (And.intro (by first | assumption | exact st_s | exact st_e (by decide) (by assumption) | exact st_e (by omega) (by assumption) | exact st_e (by decide) st_s | exact st_e (by omega) st_s | exact st_e (by decide) (st_e (by decide) (by assumption)) | exact st_e (by omega) (st_e (by omega) (by assumption))) ?_)
          refine Exists.intro _ (And.intro (by first | assumption | exact st_s | exact st_e (by decide) (by assumption) | exact st_e (by omega) (by assumption) | exact st_e (by decide) st_s | exact st_e (by omega) st_s | exact st_e (by decide) (st_e (by decide) (by assumption)) | exact st_e (by omega) (st_e (by omega) (by assumption))) (And.intro rfl (ab_inv_ev hwr2 (by first | decide | omega) (by first | exact Nat.le_refl _ | omega) (by first | exact Nat.le_refl _ | omega) ?_)))
          exact k4 _ (by rw [ht4])
      | some i =>
        have hi := whN_lt hw
        obtain ⟨p0, pm⟩ := pq_some (K := K) (cc := cc) ha hw
        obtain ⟨υ2, hsk, Q2⟩ := q_skip h59 hf hl hT ht4
        have hs := skB_sp f len a ha
        have hs2 := skL_sp f len (skB f len a) hs.2
        have hpo := q_opens h59 hf hl Q2 m hom
        have hfi1 := q_mfine hT.qm
        obtain ⟨t2, c2⟩ := Q2.c57
        have k8 : ∀ (υ : ab_H) (s3 : S2), QM σ0 f len u υ s3 (o + 1) AL → opnT f len m (.inr (skL f len (skB f len a))) = s3 → isR s3 = true → At 8 [some (rf 57), some (.inl i)] [] υ 0 0 := fun υ s3 Q3 e3 h3 => by
          cases s3 with
          | inl e => exact absurd h3 Bool.false_ne_true
          | inr a3 =>
            cases m with
            | zero =>
              have := opn0_no (f := f) (len := len) (.inr (skL f len (skB f len a)))
              rw [e3] at this
              exact absurd this.symm Bool.false_ne_true
            | succ m =>
              have hQ := ihm m rfl
              have A3 := sg_ad (x := 40) (c := 0) (f := f) (len := len) (s := .inr (skL f len (skB f len a))) (AL := AL) (fun a' e => by cases e; exact ⟨hs2.2, by have := hs.1; have := hs2.1; omega⟩)
              obtain ⟨ha3, hal3⟩ := A3 a3 e3
              have pm := pm m
              rw [e3] at pm
              dsimp only at pm
              rw [pm] at fin
              obtain ⟨t3, c3⟩ := Q3.c57
              have one : ∀ (υ : ab_H) (y1 : Option ab_V) (s9 : S2) (NL : List N4), QM σ0 f len u υ s9 (o + 1) NL → (bodT f len K cc (pqT f len K cc m) i a3).1 = s9 → AL ++ (bodT f len K cc (pqT f len K cc m) i a3).2.2 = NL → At 20 [some (rf 57), y1] [] υ 0 0 := fun υ y1 s9 NL h1 h2 h3 => fin υ y1 s9 NL h1 (by rw [h2]) h3
              have k19 : 11 < i → ∀ (υ : ab_H) (s9 : S2) (z : Int), QM σ0 f len u υ s9 (o + 1) AL → (bodT f len K cc (pqT f len K cc m) i a3).1 = s9 → (bodT f len K cc (pqT f len K cc m) i a3).2.2 = [(i, z.toNat, 0, 0)] → (isR s9 = true → 0 ≤ z) → ab_R z → At 19 [some (rf 57), some (.inl i)] [.inl z, .inl i, rf 57] υ 0 0 := fun h11 υ s9 z h1 h2 h3 h4 hz => by
                obtain ⟨t9, c9⟩ := h1.c57
                refine hA 19 _ rfl _ _ _ _ _ ?_
                refine Exists.intro _ (And.intro (by first | assumption | exact st_s | exact st_e (by decide) (by assumption) | exact st_e (by omega) (by assumption) | exact st_e (by decide) st_s | exact st_e (by omega) st_s | exact st_e (by decide) (st_e (by decide) (by assumption)) | exact st_e (by omega) (st_e (by omega) (by assumption))) (And.intro rfl (ab_inv_of (q_addsAct h79 h1 (i, z.toNat, 0, 0) i z 0 0 (fun h => ⟨rfl, by have := h4 h; show z = ((z.toNat : Nat) : Int); omega, rfl, rfl, by omega⟩)) (by first | decide | omega) (by omega) (by omega) ?_)))
                intro zz υ4 hpost
                obtain ⟨rfl, Q4⟩ := hpost
                
                exact one υ4 _ s9 _ Q4 h2 (by rw [h3])
              refine hA 8 _ rfl _ _ _ _ _ ?_
              refine And.intro (And.intro (by first | assumption | exact b2i_R _ | exact rR (by omega) (by omega) | exact rR (by simp only [Int.toNat_natCast]; omega) (by simp only [Int.toNat_natCast]; omega)) (by first | assumption | exact b2i_R _ | exact rR (by omega) (by omega) | exact rR (by simp only [Int.toNat_natCast]; omega) (by simp only [Int.toNat_natCast]; omega))) (And.intro (fun q => ?_) (fun q => ?_))
              · refine hA 10 _ rfl _ _ _ _ _ ?_
                refine And.intro (And.intro (by first | assumption | exact b2i_R _ | exact rR (by omega) (by omega) | exact rR (by simp only [Int.toNat_natCast]; omega) (by simp only [Int.toNat_natCast]; omega)) (by first | assumption | exact b2i_R _ | exact rR (by omega) (by omega) | exact rR (by simp only [Int.toNat_natCast]; omega) (by simp only [Int.toNat_natCast]; omega))) (And.intro (fun q => ?_) (fun q => ?_))
                · refine hA 12 _ rfl _ _ _ _ _ ?_
                  refine And.intro (And.intro (by first | assumption | exact b2i_R _ | exact rR (by omega) (by omega) | exact rR (by simp only [Int.toNat_natCast]; omega) (by simp only [Int.toNat_natCast]; omega)) (by first | assumption | exact b2i_R _ | exact rR (by omega) (by omega) | exact rR (by simp only [Int.toNat_natCast]; omega) (by simp only [Int.toNat_natCast]; omega))) (And.intro (fun q => ?_) (fun q => ?_))
                  · refine hA 14 _ rfl _ _ _ _ _ ?_
                    refine And.intro (And.intro (by first | assumption | exact b2i_R _ | exact rR (by omega) (by omega) | exact rR (by simp only [Int.toNat_natCast]; omega) (by simp only [Int.toNat_natCast]; omega)) (by first | assumption | exact b2i_R _ | exact rR (by omega) (by omega) | exact rR (by simp only [Int.toNat_natCast]; omega) (by simp only [Int.toNat_natCast]; omega))) (And.intro (fun q => ?_) (fun q => ?_))
                    · refine hA 16 _ rfl _ _ _ _ _ ?_
                      refine And.intro (And.intro (by first | assumption | exact b2i_R _ | exact rR (by omega) (by omega) | exact rR (by simp only [Int.toNat_natCast]; omega) (by simp only [Int.toNat_natCast]; omega)) (by first | assumption | exact b2i_R _ | exact rR (by omega) (by omega) | exact rR (by simp only [Int.toNat_natCast]; omega) (by simp only [Int.toNat_natCast]; omega))) (And.intro (fun q => ?_) (fun q => ?_))
                      · have k := k19 (by omega) υ (.inr a3) 0 Q3 (by rw [bod_e _ (by omega) (by omega)]) (by rw [bod_e _ (by omega) (by omega)]; rfl) (fun _ => by omega) (rR (by omega) (by omega))
                        refine hA 18 _ rfl _ _ _ _ _ ?_
                        exact k
                      · have hi14 : i = 14 := by omega
                        subst hi14
                        refine hA 17 _ rfl _ _ _ _ _ ?_
                        refine Exists.intro _ (And.intro (by first | assumption | exact st_s | exact st_e (by decide) (by assumption) | exact st_e (by omega) (by assumption) | exact st_e (by decide) st_s | exact st_e (by omega) st_s | exact st_e (by decide) (st_e (by decide) (by assumption)) | exact st_e (by omega) (st_e (by omega) (by assumption))) (And.intro rfl (ab_inv_of (q_number h59 hf hl Q3 0 5 (rR (by omega) (by omega)) (rR (by omega) (by omega)) (by omega) (by omega)) (by first | decide | omega) (by omega) (by omega) ?_)))
                        intro zz υ4 hpost
                        obtain ⟨rfl, Q4⟩ := hpost
                        have in1 := fun h => num_in (f := f) (len := len) (s := .inr a3) (lo := 0) (hi := 5) h (fun y e => by cases e; exact ha3)
                        have ed := bod_d (f := f) (len := len) (K := K) (cc := cc) (pqT f len K cc m) (a := a3)
                        have nF := num_F (f := f) (len := len) (s := .inr a3) (lo := 0) (hi := 5)
                        generalize numT f len (.inr a3) 0 5 = N5 at Q4 in1 ed nF
                        have hz0 : (if isR N5.2 = true then N5.1 else 0).toNat = N5.1.toNat := by
                          cases hR : isR N5.2 with
                          | true => rfl
                          | false => rw [nF hR]; rfl
                        have hz1 : isR N5.2 = true → 0 ≤ (if isR N5.2 = true then N5.1 else 0) := fun h => by
                          rw [if_pos h]
                          exact (in1 h).1
                        have hz2 : ab_R (if isR N5.2 = true then N5.1 else 0) := by
                          split
                          · have := in1 (by assumption)
                            exact rR (by omega) (by omega)
                          · exact rR (by omega) (by omega)
                        have k := k19 (by omega) υ4 N5.2 _ Q4 (by rw [ed]) (by rw [ed, hz0]) hz1 hz2
                        
                        exact k
                    · have hi11 : i = 11 := by omega
                      subst hi11
                      have A4 := pq_add (f := f) (len := len) (K := K) (cc := cc) (c := 1) (s := .inr a3) (AL := AL) (fun a' e => by cases e; exact ⟨ha3, by omega⟩) m
                      have hQ3 := hQ υ _ AL Q3 (fun a' e => by cases e; omega)
                      have ec := bod_c (f := f) (len := len) (K := K) (cc := cc) (pqT f len K cc m) (a := a3)
                      rw [ec] at one
                      generalize (pqT f len K cc m (.inr a3)).1 = s5 at A4 hQ3 one
                      generalize (pqT f len K cc m (.inr a3)).2.2 = N5 at A4 hQ3 one
                      refine hA 15 _ rfl _ _ _ _ _ ?_
                      refine Exists.intro _ (And.intro (by first | assumption | exact st_s | exact st_e (by decide) (by assumption) | exact st_e (by omega) (by assumption) | exact st_e (by decide) st_s | exact st_e (by omega) st_s | exact st_e (by decide) (st_e (by decide) (by assumption)) | exact st_e (by omega) (st_e (by omega) (by assumption))) (And.intro rfl (ab_inv_of hQ3 (by first | decide | omega) (by omega) (by omega) ?_)))
                      intro zz υ4 hpost
                      obtain ⟨rfl, Q4⟩ := hpost
                      have L4 := Q4.le
                      obtain ⟨t9, c9⟩ := Q4.c57
                      have hlr : isR s5 = true → (AL ++ N5).length < 200 := fun h => by
                        cases s5 with
                        | inl e => exact absurd h Bool.false_ne_true
                        | inr y => have := (A4 y rfl).1; have := L4 y rfl; omega
                      refine Exists.intro _ (And.intro (by first | assumption | exact st_s | exact st_e (by decide) (by assumption) | exact st_e (by omega) (by assumption) | exact st_e (by decide) st_s | exact st_e (by omega) st_s | exact st_e (by decide) (st_e (by decide) (by assumption)) | exact st_e (by omega) (st_e (by omega) (by assumption))) (And.intro rfl (ab_inv_of (q_addsAct h79 Q4 (11, 0, 0, 0) 11 0 0 0 (fun h => ⟨rfl, rfl, rfl, rfl, hlr h⟩)) (by first | decide | omega) (by omega) (by omega) ?_)))
                      intro zz υ5 hpost
                      obtain ⟨rfl, Q5⟩ := hpost
                      
                      exact one υ5 _ s5 _ Q5 rfl (by rw [List.append_assoc])
                  · have eb := bod_b (f := f) (len := len) (K := K) (cc := cc) (pqT f len K cc m) (i := i) (a := a3) (by omega) (by omega)
                    refine hA 13 _ rfl _ _ _ _ _ ?_
                    refine Exists.intro _ (And.intro (by first | assumption | exact st_s | exact st_e (by decide) (by assumption) | exact st_e (by omega) (by assumption) | exact st_e (by decide) st_s | exact st_e (by omega) st_s | exact st_e (by decide) (st_e (by decide) (by assumption)) | exact st_e (by omega) (st_e (by omega) (by assumption))) (And.intro rfl (ab_inv_of (q_readsTwo h59 h79 hf hl (2 * m + 6) m (by omega) hQ i (by omega) Q3 (fun a' e => by cases e; omega)) (by first | decide | omega) (by omega) (by omega) ?_)))
                    intro zz υ4 hpost
                    obtain ⟨rfl, Q4⟩ := hpost
                    
                    exact one υ4 _ _ _ Q4 (by rw [eb]) (by rw [eb])
                · have eb := bod_b (f := f) (len := len) (K := K) (cc := cc) (pqT f len K cc m) (i := i) (a := a3) (by omega) (by omega)
                  refine hA 11 _ rfl _ _ _ _ _ ?_
                  refine Exists.intro _ (And.intro (by first | assumption | exact st_s | exact st_e (by decide) (by assumption) | exact st_e (by omega) (by assumption) | exact st_e (by decide) st_s | exact st_e (by omega) st_s | exact st_e (by decide) (st_e (by decide) (by assumption)) | exact st_e (by omega) (st_e (by omega) (by assumption))) (And.intro rfl (ab_inv_of (q_readsMany h59 h79 hf hl (2 * m + 6) m (by omega) hQ i (by omega) Q3 (fun a' e => by cases e; omega)) (by first | decide | omega) (by omega) (by omega) ?_)))
                  intro zz υ4 hpost
                  obtain ⟨rfl, Q4⟩ := hpost
                  
                  exact one υ4 _ _ _ Q4 (by rw [eb]) (by rw [eb])
              · have ea := bod_a (f := f) (len := len) (K := K) (cc := cc) (pqT f len K cc m) (i := i) (a := a3) (by omega)
                refine hA 9 _ rfl _ _ _ _ _ ?_
                refine Exists.intro _ (And.intro (by first | assumption | exact st_s | exact st_e (by decide) (by assumption) | exact st_e (by omega) (by assumption) | exact st_e (by decide) st_s | exact st_e (by omega) st_s | exact st_e (by decide) (st_e (by decide) (by assumption)) | exact st_e (by omega) (st_e (by omega) (by assumption))) (And.intro rfl (ab_inv_of (q_readsAsked (K := K) h59 h79 h12 hcc hf hl i a3 (by omega) Q3 (by omega)) (by first | decide | omega) (by omega) (by omega) ?_)))
                intro zz υ4 hpost
                obtain ⟨rfl, Q4⟩ := hpost
                
                exact one υ4 _ _ _ Q4 (by rw [ea]) (by rw [ea])
        have k6 : At 6 [some (rf 57), some (.inl i)] [] υ1 0 0 := by
          refine hA 6 _ rfl _ _ _ _ _ ?_
          refine Exists.intro _ (And.intro (by first | assumption | exact st_s | exact st_e (by decide) (by assumption) | exact st_e (by omega) (by assumption) | exact st_e (by decide) st_s | exact st_e (by omega) st_s | exact st_e (by decide) (st_e (by decide) (by assumption)) | exact st_e (by omega) (st_e (by omega) (by assumption))) (And.intro rfl (ab_inv_ev hsk (by first | decide | omega) (by first | exact Nat.le_refl _ | omega) (by first | exact Nat.le_refl _ | omega) ?_)))
          refine Exists.intro _ (And.intro (by first | assumption | exact st_s | exact st_e (by decide) (by assumption) | exact st_e (by omega) (by assumption) | exact st_e (by decide) st_s | exact st_e (by omega) st_s | exact st_e (by decide) (st_e (by decide) (by assumption)) | exact st_e (by omega) (st_e (by omega) (by assumption))) (And.intro rfl (ab_inv_of hpo (by first | decide | omega) (by omega) (by omega) ?_)))
          intro zz υ4 hpost
          obtain ⟨rfl, Q4⟩ := hpost
          have k8' := k8 υ4 _ Q4 rfl
          refine And.intro (by first | assumption | exact b2i_R _ | exact rR (by omega) (by omega) | exact rR (by simp only [Int.toNat_natCast]; omega) (by simp only [Int.toNat_natCast]; omega)) (And.intro (fun q => ?_) (fun q => ?_))
          · refine k8' ?_
            cases hR : isR (opnT f len m (.inr (skL f len (skB f len a)))) with
            | true => rfl
            | false => rw [hR] at q; exact absurd rfl q
          · cases hs3 : opnT f len m (.inr (skL f len (skB f len a))) with
            | inr y => rw [hs3] at q; exact absurd (show (1 : Int) = 0 from q) (by decide)
            | inl e =>
              rw [hs3] at Q4
              have hpq : pqT f len K cc m (.inr a) = (.inl e, [], []) := by
                cases m with
                | zero => rw [p0, hs3]
                | succ m => rw [pm m, hs3]
              refine hA 7 _ rfl _ _ _ _ _ ?_
              rw [hpq]
              exact ⟨rfl, Q4.flt⟩
        refine And.intro (And.intro (by first | assumption | exact b2i_R _ | exact rR (by omega) (by omega) | exact rR (by simp only [Int.toNat_natCast]; omega) (by simp only [Int.toNat_natCast]; omega)) (by first | assumption | exact b2i_R _ | exact rR (by omega) (by omega) | exact rR (by simp only [Int.toNat_natCast]; omega) (by simp only [Int.toNat_natCast]; omega))) (And.intro (fun q => ?_) (fun q => ?_))
        · refine hA 4 _ rfl _ _ _ _ _ ?_
          refine Exists.intro _ (And.intro (by first | assumption | exact st_s | exact st_e (by decide) (by assumption) | exact st_e (by omega) (by assumption) | exact st_e (by decide) st_s | exact st_e (by omega) st_s | exact st_e (by decide) (st_e (by decide) (by assumption)) | exact st_e (by omega) (st_e (by omega) (by assumption))) (And.intro rfl (ab_inv_ev hfi1 (by first | decide | omega) (by first | exact Nat.le_refl _ | omega) (by first | exact Nat.le_refl _ | omega) ?_)))
          refine And.intro (by first | assumption | exact b2i_R _ | exact rR (by omega) (by omega) | exact rR (by simp only [Int.toNat_natCast]; omega) (by simp only [Int.toNat_natCast]; omega)) (And.intro (fun q => ?_) (fun q => ?_))
          · exact k6
          · exact absurd (show (1 : Int) = 0 from q) (by decide)
        · have q9 : ((i : Nat) : Int) = -1 := by assumption
          omega
    · exact absurd (show (1 : Int) = 0 from q) (by decide)
theorem q_questions (h59 : σ0.2 59 = some (bya f)) (h79 : σ0.2 79 = some (rfs 80 200)) (hf : byR f) (hl : len ≤ 200) (h12 : u 12 = (cc : Nat)) (hcc : cc ≤ 4) : ∀ (m o : Nat), o + m = 5 → HQ σ0 f len u K cc (2 * m + 6) m o := by
  intro m
  induction m with
  | zero => exact fun o h => q_question h59 h79 hf hl h12 hcc 0 o h (fun m' e => by omega)
  | succ m ih => exact fun o h => q_question h59 h79 hf hl h12 hcc (m + 1) o h (fun m' e => by cases e; exact ih (o + 1) (by omega))
end Mques3
