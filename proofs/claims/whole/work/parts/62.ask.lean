-- ===== asking =====
section AskF
variable {σ : ab_H} {cc rows : Nat} {K : Nat → CT} {va : Nat → Nat → Nat} {ad : Nat → Nat} {R : Nat → V1} {f : Nat → Int} {n : Nat} {pl : Int} {c : C3} {r : Nat → Nat}
theorem CI.cst {σ' : ab_H} (h : CI σ cc rows K va ad R f n pl c r) (hf : fr (fun a => a = 56) σ σ') {c' : C3} (ho : ∃ g, σ'.2 56 = some (.inr (.inl (0, 3, g))) ∧ g 0 = (c'.1 : Nat) ∧ g 1 = (c'.2.1 : Nat) ∧ g 2 = (c'.2.2 : Nat)) : CI σ' cc rows K va ad R f n pl c' r := by
  have hs := h.s
  have hg := hf.gr
  obtain ⟨h0, h1, h2, h3, h4, h5, ⟨k1, ⟨s, k2⟩, ⟨g5, k3⟩, -, k5⟩⟩ := h
  exact ⟨(hf.2 0 (by omega)).trans h0, h1.gr hg hs (by omega), h2.gr hg hs (fun a _ => by omega), h3.gr hg hs (fun a _ _ => by omega), h4.gr hg hs (fun a _ _ => by omega), h5.gr hg hs (fun a _ _ => by omega), k1.gr hg hs (fun a _ _ => by omega), ⟨s, k2.fr hf (by omega) (by omega)⟩, ⟨g5, (hf.2 55 (by omega)).trans k3⟩, ho, Nat.le_trans k5 (Nat.le_of_eq hf.1.symm)⟩
theorem CI.k200 (h : CI σ cc rows K va ad R f n pl c r) : ∀ d, d < cc → (K d).2.1 ≤ 200 := fun d hd => by
  obtain ⟨-, -, ⟨-, -, -, ⟨-, -, h5⟩, -⟩, -⟩ := h
  exact (h5 d hd).1.2.2.2.2.1
theorem jn0_hi {v w : V1} {x : Nat} (h2 : bit w x = false) : bit (jn 0 v w) x = false := by
  show (v (x / 15) &&& w (x / 15)).testBit (x % 15) = false
  rw [Nat.testBit_and, show (w (x / 15)).testBit (x % 15) = false from h2, Bool.and_false]
theorem endT_isR {f : Nat → Int} {len : Nat} {s : S2} {y : Nat} (h : endT f len s = .inr y) : ∃ a, s = .inr a := by
  cases s with
  | inl e => cases h
  | inr a => exact ⟨a, rfl⟩
theorem TXT.lo (h26 : C26 σ) (h28 : σ.2 28 = some (.inl (8, [rf 1]))) {b : Bool} {N : List N3} (hN : NS σ b N) : TXT σ := ⟨h26, h28, hN.lo (fun h => by cases h) (fun h => by cases h)⟩
set_option maxRecDepth 100000 in
set_option maxHeartbeats 1000000 in
theorem f_ask (hI : CI σ cc rows K va ad R f n pl c r) (k x : Int) (hk : ab_R k) (hx : ab_R x) : ab_call 22 2 12 yX9_ask [rf 0, .inl k, .inl x] σ (stP σ (cc, rows, K, va, R, f, n, pl, c) r (sg_ask cc rows K va R f n c k x)) := by
  have hs := hI.s
  obtain ⟨h0, ⟨⟨tlen, tat, tst, tk, h1⟩, h2, hby, hn4⟩, ⟨h3, hr, h5, hC, hR, hRr⟩, -, ⟨hC26, h28, hNS⟩, -, -, ⟨s53, h53⟩, -⟩ := id hI
  refine eX9_ask rfl (fun At hA => ?_)
  refine hA 0 _ rfl _ _ _ _ _ ?_
  refine And.intro rfl (ab_inv_ev (c_isResult k hk) (by first | decide | omega) (by first | exact Nat.le_refl _ | omega) (by first | exact Nat.le_refl _ | omega) ?_)
  refine Exists.intro _ (And.intro (by first | assumption | exact st_s | exact st_e (by decide) (by assumption) | exact st_e (by omega) (by assumption) | exact st_e (by decide) st_s | exact st_e (by omega) st_s | exact st_e (by decide) (st_e (by decide) (by assumption)) | exact st_e (by omega) (st_e (by omega) (by assumption))) (And.intro rfl (ab_inv_of (c_needElement h0 (decide (0 ≤ k ∧ k ≤ 5))) (by first | decide | omega) (by omega) (by omega) ?_)))
  intro r' τ hpost
  rcases hpost with ⟨hb, rfl, rfl⟩ | ⟨hb, rfl, q9, hq9, rfl⟩
  · have hP := of_decide_eq_true hb
    refine Exists.intro _ (And.intro (by first | assumption | exact st_s | exact st_e (by decide) (by assumption) | exact st_e (by omega) (by assumption) | exact st_e (by decide) st_s | exact st_e (by omega) st_s | exact st_e (by decide) (st_e (by decide) (by assumption)) | exact st_e (by omega) (st_e (by omega) (by assumption))) (And.intro rfl (ab_inv_ev (c_isTextLength h0 h1 hn4 x hx) (by first | decide | omega) (by first | exact Nat.le_refl _ | omega) (by first | exact Nat.le_refl _ | omega) ?_)))
    refine Exists.intro _ (And.intro (by first | assumption | exact st_s | exact st_e (by decide) (by assumption) | exact st_e (by omega) (by assumption) | exact st_e (by decide) st_s | exact st_e (by omega) st_s | exact st_e (by decide) (st_e (by decide) (by assumption)) | exact st_e (by omega) (st_e (by omega) (by assumption))) (And.intro rfl (ab_inv_of (c_needArgument h0 (decide (0 ≤ x ∧ x ≤ 200 ∧ x ≤ n))) (by first | decide | omega) (by omega) (by omega) ?_)))
    intro r' τ2 hpost
    rcases hpost with ⟨hb2, rfl, rfl⟩ | ⟨hb2, rfl, q9, hq9, rfl⟩
    · have hP2 := of_decide_eq_true hb2
      have hsp : sg_ask cc rows K va R f n c k x = (match qsT f x.toNat K cc with
        | .inl (u, v) => .inl (u - 10, (cc, rows, K, va, R, f, 0, v, c))
        | .inr _ => .inl ((cnt (bit (finV rows K va R (pqT f x.toNat K cc 5 (.inr 0)).2.1)) 1500 : Nat), (cc, rows, K, va, ab_up R k.toNat (finV rows K va R (pqT f x.toNat K cc 5 (.inr 0)).2.1), f, 0, -1, finC rows K va R (pqT f x.toNat K cc 5 (.inr 0)).2.1))) := by
        unfold sg_ask
        rw [if_pos hP, if_pos hP2]
        rfl
      have hsx : ((x.toNat : Nat) : Int) = x := by omega
      have htk := c_take h1 x
      let τ1 := ab_st τ2 1 (tpc 0 x 0 0 0 (-1))
      have ff1 : fr (fun a => a = 1) τ2 τ1 := fr_st rfl
      have hX1 : TXT τ1 := by
        obtain ⟨p26, q26, g27, t4, t5⟩ := hC26
        exact ⟨⟨p26, q26, g27, st_e (by decide) t4, st_e (by decide) t5⟩, st_e (by decide) h28, hNS.fr ff1 (fun a _ _ => by omega)⟩
      have hI1 : CI τ1 cc rows K va ad R f 0 (-1) c r := hI.rd (ff1.mono (fun a ha => Or.inl ha)) ⟨_, _, _, _, st_s⟩ (Nat.zero_le _) hX1 ⟨s53, h53.ne (by decide) (by decide)⟩
      have w0 : τ1.2 0 = some (c9 r) := hI1.1
      have w1 : τ1.2 1 = some (tpc 0 ((x.toNat : Nat) : Int) 0 0 0 (-1)) := by rw [hsx]; exact st_s
      have hQX : QX τ1 f cc rows K va ad := ⟨hI1.2.1.2.1, hI1.2.2.1.1, hI1.2.2.1.2.2.2.1⟩
      obtain ⟨_, w29⟩ := hX1.2.2.c29
      have hir := c_isRead (len := x.toNat) hby (by omega) hQX w1 hX1.2.2
      refine Exists.intro _ (And.intro (by first | assumption | exact st_s | exact st_e (by decide) (by assumption) | exact st_e (by omega) (by assumption) | exact st_e (by decide) st_s | exact st_e (by omega) st_s | exact st_e (by decide) (st_e (by decide) (by assumption)) | exact st_e (by omega) (st_e (by omega) (by assumption))) ?_)
      refine Exists.intro _ (And.intro (by first | assumption | exact st_s | exact st_e (by decide) (by assumption) | exact st_e (by omega) (by assumption) | exact st_e (by decide) st_s | exact st_e (by omega) st_s | exact st_e (by decide) (st_e (by decide) (by assumption)) | exact st_e (by omega) (st_e (by omega) (by assumption))) (And.intro rfl (ab_inv_ev htk (by first | decide | omega) (by first | exact Nat.le_refl _ | omega) (by first | exact Nat.le_refl _ | omega) ?_)))
      refine Exists.intro _ (And.intro (by first | assumption | exact st_s | exact st_e (by decide) (by assumption) | exact st_e (by omega) (by assumption) | exact st_e (by decide) st_s | exact st_e (by omega) st_s | exact st_e (by decide) (st_e (by decide) (by assumption)) | exact st_e (by omega) (st_e (by omega) (by assumption))) ?_)
      refine Exists.intro _ (And.intro (by first | assumption | exact st_s | exact st_e (by decide) (by assumption) | exact st_e (by omega) (by assumption) | exact st_e (by decide) st_s | exact st_e (by omega) st_s | exact st_e (by decide) (st_e (by decide) (by assumption)) | exact st_e (by omega) (st_e (by omega) (by assumption))) (And.intro rfl (ab_inv_of hir (by first | decide | omega) (by omega) (by omega) ?_)))
      intro r' υ hpost
      obtain ⟨rfl, f1, hT, hN⟩ := hpost
      have hf1 : fr (fun a => a = 1 ∨ (26 ≤ a ∧ a ≤ 32) ∨ a = 54) τ2 υ := (ff1.mono (fun a ha => Or.inl ha)).tr (f1.mono (fun a ha => by unfold qA at ha; omega))
      have hX2 : TXT υ := by
        obtain ⟨⟨p26, q26, g27, t4, t5⟩, t28, -⟩ := hX1
        exact TXT.lo ⟨p26, q26, g27, (f1.2 26 (by unfold qA; omega)).trans t4, (f1.2 27 (by unfold qA; omega)).trans t5⟩ ((f1.2 28 (by unfold qA; omega)).trans t28) hN
      have h53' : ∃ s : V1, IsB υ 53 s := ⟨s53, (h53.ne (a := 1) (by decide) (by decide)).fr f1 (by unfold qA; omega) (by unfold qA; omega)⟩
      have u0 := (hf1.2 0 (by omega)).trans h0
      have hgr : gr fcA τ2 υ := (hf1.mono (fun a ha => by unfold fcA; omega)).gr
      rcases hL : qsT f x.toNat K cc with ⟨u, v⟩ | y
      · rw [hL] at hT hsp hN
        obtain ⟨q1, q2, ⟨a', st', q3, q4⟩⟩ := hT
        have hI2 := hI.rd hf1 (n' := 0) (pl' := v) ⟨_, _, _, _, q4⟩ (Nat.zero_le _) hX2 h53'
        refine And.intro (by first | assumption | exact b2i_R _ | exact rR (by omega) (by omega) | exact rR (by simp only [Int.toNat_natCast]; omega) (by simp only [Int.toNat_natCast]; omega)) (And.intro (fun q => ?_) (fun q => ?_))
        · exact absurd rfl q
        · refine hA 1 _ rfl _ _ _ _ _ ?_
          refine Exists.intro _ (And.intro (by first | assumption | exact st_s | exact st_e (by decide) (by assumption) | exact st_e (by omega) (by assumption) | exact st_e (by decide) st_s | exact st_e (by omega) st_s | exact st_e (by decide) (st_e (by decide) (by assumption)) | exact st_e (by omega) (st_e (by omega) (by assumption))) ?_)
          refine Exists.intro _ (And.intro (by first | assumption | exact st_s | exact st_e (by decide) (by assumption) | exact st_e (by omega) (by assumption) | exact st_e (by decide) st_s | exact st_e (by omega) st_s | exact st_e (by decide) (st_e (by decide) (by assumption)) | exact st_e (by omega) (st_e (by omega) (by assumption))) (And.intro rfl (ab_inv_ev (c_refusal q4) (by first | decide | omega) (by first | exact Nat.le_refl _ | omega) (by first | exact Nat.le_refl _ | omega) ?_)))
          exact st_ok hsp hgr hI2
      · rw [hL] at hT hsp hN
        obtain ⟨q1, a', st', q3, q5, q4⟩ := hT
        have hI2 := hI.rd hf1 (n' := 0) (pl' := -1) ⟨_, _, _, _, q4⟩ (Nat.zero_le _) hX2 h53'
        have hN : NS υ true (pqT f x.toNat K cc 5 (.inr 0)).2.1 := hN
        obtain ⟨y0, hy0⟩ := endT_isR hL
        have hgq := pq_good (rows := rows) (va := va) (R := R) hI.k200 5 0 y0 (Nat.zero_le x.toNat) hy0
        generalize (pqT f x.toNat K cc 5 (.inr 0)).2.1 = N at hsp hN hgq
        obtain ⟨⟨v, d, hl, -⟩, hw, -⟩ := hgq
        have hw := hw [] 1 0 (by decide) rfl
        rw [List.append_nil] at hw
        have hrn := hl [] (0, 0, 0)
        rw [z_cp] at hrn
        have hV : valN rows K va R N = v := by unfold valN; rw [hrn]; rfl
        have hCo : costN rows K va R N = d := by unfold costN; rw [hrn]
        have hfV : finV rows K va R N = jn 0 v (R 6) := by unfold finV; rw [hV]
        have hfC : finC rows K va R N = (d.1 + 1, d.2.1 + 1, d.2.2 + stp (gu rows) v (R 6)) := by unfold finC; rw [hV, hCo]
        rw [hfV, hfC] at hsp
        obtain ⟨-, -, -, -, -, ⟨a33, a34, ⟨g37, a37⟩, ⟨S0, aS⟩, ⟨sp0, aP⟩⟩, -⟩ := id hI2
        have hat := c_answerTo hI2.an a37 aS aP hN hw hrn
        obtain ⟨_, u29⟩ := hN.c29
        refine And.intro (by first | assumption | exact b2i_R _ | exact rR (by omega) (by omega) | exact rR (by simp only [Int.toNat_natCast]; omega) (by simp only [Int.toNat_natCast]; omega)) (And.intro (fun q => ?_) (fun q => ?_))
        · refine hA 2 _ rfl _ _ _ _ _ ?_
          refine Exists.intro _ (And.intro (by first | assumption | exact st_s | exact st_e (by decide) (by assumption) | exact st_e (by omega) (by assumption) | exact st_e (by decide) st_s | exact st_e (by omega) st_s | exact st_e (by decide) (st_e (by decide) (by assumption)) | exact st_e (by omega) (st_e (by omega) (by assumption))) ?_)
          refine Exists.intro _ (And.intro (by first | assumption | exact st_s | exact st_e (by decide) (by assumption) | exact st_e (by omega) (by assumption) | exact st_e (by decide) st_s | exact st_e (by omega) st_s | exact st_e (by decide) (st_e (by decide) (by assumption)) | exact st_e (by omega) (st_e (by omega) (by assumption))) ?_)
          refine Exists.intro _ (And.intro (by first | assumption | exact st_s | exact st_e (by decide) (by assumption) | exact st_e (by omega) (by assumption) | exact st_e (by decide) st_s | exact st_e (by omega) st_s | exact st_e (by decide) (st_e (by decide) (by assumption)) | exact st_e (by omega) (st_e (by omega) (by assumption))) (And.intro rfl (ab_inv_of hat (by first | decide | omega) (by omega) (by omega) ?_)))
          intro r' υ2 hpost
          obtain ⟨rfl, f2, ⟨S, hS, hS0⟩, hsp2, h37⟩ := hpost
          have hs2 := hI2.s
          have hI3 : CI υ2 cc rows K va ad R f 0 (-1) c r := hI2.qa (f2.mono (fun a ha => by unfold anA at ha; omega)) (hX2.gr f2.gr hs2 (fun a h1 h2 h3 => by unfold anA at h3; omega)) ⟨(f2.2 33 (by unfold anA; omega)).trans a33, (f2.2 34 (by unfold anA; omega)).trans a34, ⟨_, h37⟩, ⟨S, hS⟩, hsp2⟩
          have hgr2 : gr fcA τ2 υ2 := hgr.tr (f2.mono (fun a ha => by unfold anA at ha; unfold fcA; omega)).gr
          obtain ⟨v0, -, -, -, -, -, -, -, -, ⟨g6, v6, -⟩, -⟩ := id hI3
          have vR := hI3.2.2.1.2.2.2.2.1
          have vB := hS 0 (by decide)
          rw [hS0] at vB
          have v3 := hI3.2.2.1.1
          have v5 := hI3.2.2.1.2.2.1
          have vRb := hI3.2.2.1.2.2.2.2.2
          have v33 := hI3.2.2.2.2.2.1.1
          have hjl := vB.2.2
          have hjb : ∀ y, rows ≤ y → bit (jn 0 v (R 6)) y = false := fun y hy => jn0_hi (vRb 6 (by decide) y hy)
          generalize hG : jn 0 v (R 6) = G at *
          have loop : ∀ (m i : Nat) (υ3 : ab_H) (g : Nat → Int), i + m = 3 → fr (fun a => a = 56) υ2 υ3 → υ3.2 56 = some (.inr (.inl (0, 3, g))) → (∀ j, j < i → g j = if j = 0 then ((d.1 + 1 : Nat) : Int) else if j = 1 then ((d.2.1 + 1 : Nat) : Int) else ((d.2.2 + stp (gu rows) v (R 6) : Nat) : Int)) → At 3 [some (rf 0), some (.inl k), some (.inl x), some (rf 38), some (.inl (i : Nat))] [] υ3 (0 + 1 + 1 + 0 + 0) (0 + 6 + 6 + 0 + 0) := by
            intro m
            induction m with
            | zero =>
              intro i υ3 g hi f3 h56 hgj
              have z0 := (f3.2 0 (by omega)).trans v0
              have z3 := (f3.2 3 (by omega)).trans v3
              have z5 := (f3.2 5 (by omega)).trans v5
              have hI4 := hI3.cst f3 (c' := (d.1 + 1, d.2.1 + 1, d.2.2 + stp (gu rows) v (R 6))) ⟨g, h56, hgj 0 (by omega), hgj 1 (by omega), hgj 2 (by omega)⟩
              have hI5 := hI4.res (k := k.toNat) (by omega) hjl hjb
              have zR := (vR k.toNat (by omega)).fr f3 (by omega) (by omega)
              have zB : IsB υ3 38 G := vB.fr f3 (by omega) (by omega)
              have zR1 := zR.1
              have hcf := c_copyFrom zR zB
              have zB2 : IsB (ab_st υ3 (12 + 2 * k.toNat + 1) (bmc G)) 38 G := zB.ne (by omega) (by omega)
              have zB21 := zB2.1
              refine hA 3 _ rfl _ _ _ _ _ ?_
              refine Exists.intro _ (And.intro (by first | assumption | exact st_s | exact st_e (by decide) (by assumption) | exact st_e (by omega) (by assumption) | exact st_e (by decide) st_s | exact st_e (by omega) st_s | exact st_e (by decide) (st_e (by decide) (by assumption)) | exact st_e (by omega) (st_e (by omega) (by assumption))) ?_)
              refine Exists.intro _ (Exists.intro _ (And.intro (by first | assumption | exact st_s | exact st_e (by decide) (by assumption) | exact st_e (by omega) (by assumption) | exact st_e (by decide) st_s | exact st_e (by omega) st_s | exact st_e (by decide) (st_e (by decide) (by assumption)) | exact st_e (by omega) (st_e (by omega) (by assumption))) ?_))
              refine And.intro (And.intro (by first | assumption | exact b2i_R _ | exact rR (by omega) (by omega) | exact rR (by simp only [Int.toNat_natCast]; omega) (by simp only [Int.toNat_natCast]; omega)) (by first | assumption | exact b2i_R _ | exact rR (by omega) (by omega) | exact rR (by simp only [Int.toNat_natCast]; omega) (by simp only [Int.toNat_natCast]; omega))) (And.intro (fun q => ?_) (fun q => ?_))
              · refine hA 5 _ rfl _ _ _ _ _ ?_
                refine Exists.intro _ (And.intro (by first | assumption | exact st_s | exact st_e (by decide) (by assumption) | exact st_e (by omega) (by assumption) | exact st_e (by decide) st_s | exact st_e (by omega) st_s | exact st_e (by decide) (st_e (by decide) (by assumption)) | exact st_e (by omega) (st_e (by omega) (by assumption))) ?_)
                refine Exists.intro _ (And.intro (by first | assumption | exact st_s | exact st_e (by decide) (by assumption) | exact st_e (by omega) (by assumption) | exact st_e (by decide) st_s | exact st_e (by omega) st_s | exact st_e (by decide) (st_e (by decide) (by assumption)) | exact st_e (by omega) (st_e (by omega) (by assumption))) ?_)
                refine Exists.intro _ (Exists.intro _ (And.intro (by first | assumption | exact st_s | exact st_e (by decide) (by assumption) | exact st_e (by omega) (by assumption) | exact st_e (by decide) st_s | exact st_e (by omega) st_s | exact st_e (by decide) (st_e (by decide) (by assumption)) | exact st_e (by omega) (st_e (by omega) (by assumption))) (And.intro (by first | omega | (simp only [Int.toNat_natCast]; omega)) ?_)))
                refine Exists.intro _ (And.intro (by first | assumption | exact st_s | exact st_e (by decide) (by assumption) | exact st_e (by omega) (by assumption) | exact st_e (by decide) st_s | exact st_e (by omega) st_s | exact st_e (by decide) (st_e (by decide) (by assumption)) | exact st_e (by omega) (st_e (by omega) (by assumption))) (And.intro rfl (ab_inv_ev hcf (by first | decide | omega) (by first | exact Nat.le_refl _ | omega) (by first | exact Nat.le_refl _ | omega) ?_)))
                refine Exists.intro _ (And.intro (by first | assumption | exact st_s | exact st_e (by decide) (by assumption) | exact st_e (by omega) (by assumption) | exact st_e (by decide) st_s | exact st_e (by omega) st_s | exact st_e (by decide) (st_e (by decide) (by assumption)) | exact st_e (by omega) (st_e (by omega) (by assumption))) (And.intro rfl (ab_inv_ev (c_count zB2) (by first | decide | omega) (by first | exact Nat.le_refl _ | omega) (by first | exact Nat.le_refl _ | omega) ?_)))
                exact st_ok hsp ((hgr2.tr (f3.mono (fun a ha => by unfold fcA; omega)).gr).tr (fr.gr (A := fcA) (fr_st (by unfold fcA; omega)))) hI5
              · exact absurd q (by omega)
            | succ m ih =>
              intro i υ3 g hi f3 h56 hgj
              have z0 := (f3.2 0 (by omega)).trans v0
              have z33 := (f3.2 33 (by omega)).trans v33
              have z37 := (f3.2 37 (by omega)).trans h37
              refine hA 3 _ rfl _ _ _ _ _ ?_
              refine Exists.intro _ (And.intro (by first | assumption | exact st_s | exact st_e (by decide) (by assumption) | exact st_e (by omega) (by assumption) | exact st_e (by decide) st_s | exact st_e (by omega) st_s | exact st_e (by decide) (st_e (by decide) (by assumption)) | exact st_e (by omega) (st_e (by omega) (by assumption))) ?_)
              refine Exists.intro _ (Exists.intro _ (And.intro (by first | assumption | exact st_s | exact st_e (by decide) (by assumption) | exact st_e (by omega) (by assumption) | exact st_e (by decide) st_s | exact st_e (by omega) st_s | exact st_e (by decide) (st_e (by decide) (by assumption)) | exact st_e (by omega) (st_e (by omega) (by assumption))) ?_))
              refine And.intro (And.intro (by first | assumption | exact b2i_R _ | exact rR (by omega) (by omega) | exact rR (by simp only [Int.toNat_natCast]; omega) (by simp only [Int.toNat_natCast]; omega)) (by first | assumption | exact b2i_R _ | exact rR (by omega) (by omega) | exact rR (by simp only [Int.toNat_natCast]; omega) (by simp only [Int.toNat_natCast]; omega))) (And.intro (fun q => ?_) (fun q => ?_))
              · exact absurd q (by omega)
              · refine hA 4 _ rfl _ _ _ _ _ ?_
                refine Exists.intro _ (And.intro (by first | assumption | exact st_s | exact st_e (by decide) (by assumption) | exact st_e (by omega) (by assumption) | exact st_e (by decide) st_s | exact st_e (by omega) st_s | exact st_e (by decide) (st_e (by decide) (by assumption)) | exact st_e (by omega) (st_e (by omega) (by assumption))) ?_)
                refine Exists.intro _ (And.intro (by first | assumption | exact st_s | exact st_e (by decide) (by assumption) | exact st_e (by omega) (by assumption) | exact st_e (by decide) st_s | exact st_e (by omega) st_s | exact st_e (by decide) (st_e (by decide) (by assumption)) | exact st_e (by omega) (st_e (by omega) (by assumption))) ?_)
                refine Exists.intro _ (And.intro (by first | assumption | exact st_s | exact st_e (by decide) (by assumption) | exact st_e (by omega) (by assumption) | exact st_e (by decide) st_s | exact st_e (by omega) st_s | exact st_e (by decide) (st_e (by decide) (by assumption)) | exact st_e (by omega) (st_e (by omega) (by assumption))) ?_)
                refine Exists.intro _ (Exists.intro _ (And.intro (by first | assumption | exact st_s | exact st_e (by decide) (by assumption) | exact st_e (by omega) (by assumption) | exact st_e (by decide) st_s | exact st_e (by omega) st_s | exact st_e (by decide) (st_e (by decide) (by assumption)) | exact st_e (by omega) (st_e (by omega) (by assumption))) (And.intro (by first | omega | (simp only [Int.toNat_natCast]; omega)) ?_)))
                refine Exists.intro _ (Exists.intro _ (And.intro (by first | assumption | exact st_s | exact st_e (by decide) (by assumption) | exact st_e (by omega) (by assumption) | exact st_e (by decide) st_s | exact st_e (by omega) st_s | exact st_e (by decide) (st_e (by decide) (by assumption)) | exact st_e (by omega) (st_e (by omega) (by assumption))) (And.intro (by first | omega | (simp only [Int.toNat_natCast]; omega)) ?_)))
                refine ih (i + 1) (ab_st υ3 56 (.inr (.inl (0, 3, ab_up g i (if i = 0 then ((d.1 + 1 : Nat) : Int) else if i = 1 then ((d.2.1 + 1 : Nat) : Int) else ((d.2.2 + stp (gu rows) v (R 6) : Nat) : Int)))))) _ (by omega) (f3.st rfl) st_s (fun j hj => ?_)
                by_cases e : j = i
                · subst e; rw [ab_up_s]
                · rw [ab_up_n e]; exact hgj j (by omega)
          exact loop 3 0 υ2 g6 rfl (fr_rf _ _) v6 (fun j hj => by omega)
        · exact (fun h => absurd (show b2i true = 0 from h) (by decide)) (by first | exact q | omega)
    · have hP2 := of_decide_eq_false hb2
      exact st_no (by unfold sg_ask; rw [if_pos hP, if_neg hP2]) (gr_rf _ _) hI hq9
  · have hP := of_decide_eq_false hb
    exact st_no (by unfold sg_ask; rw [if_neg hP]) (gr_rf _ _) hI hq9
end AskF
