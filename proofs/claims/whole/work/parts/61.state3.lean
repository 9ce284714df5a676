-- ===== the calls that change something: texts =====
section State3
variable {σ : ab_H} {cc rows : Nat} {K : Nat → CT} {va : Nat → Nat → Nat} {ad : Nat → Nat} {R : Nat → V1} {f : Nat → Int} {n : Nat} {pl : Int} {c : C3} {r : Nat → Nat}
theorem ldP_ok {f : Nat → Int} {len rows : Nat} (hf : byR f) : ∀ (k a g w0 : Nat) (m m' : Nat → Nat), g ≤ gu rows → (∀ i, m i < 32768) → (∀ x, rows ≤ x → bit m x = false) → ldP f len rows k a g w0 m = .inr m' → (∀ i, m' i < 32768) ∧ ∀ x, rows ≤ x → bit m' x = false := by
  intro k
  induction k with
  | zero =>
    intro a g w0 m m' hg h1 h2 h
    cases h
    exact ⟨h1, h2⟩
  | succ k ih =>
    intro a g w0 m m' hg h1 h2 h
    unfold ldP at h
    split at h
    · split at h
      · cases h
      · split at h
        · cases h
        · next hw =>
          have hw0 : wfa rows g (wrd2 f a) w0 = 0 := by omega
          have hwl : wrd2 f a < 65536 := by have := hf a; have := hf (a + 1); unfold wrd2; omega
          have hgs := gu_sp rows
          generalize wrd2 f a = w at hw0 hwl h
          have key : g + wcov w ≤ gu rows ∧ ∀ x, rows ≤ x → g ≤ x / 15 → x / 15 < g + wcov w → (wmsk w).testBit (x % 15) = false := by
            unfold wfa at hw0
            split at hw0
            · omega
            · split at hw0
              · omega
              · split at hw0
                · omega
                · split at hw0
                  · omega
                  · split at hw0
                    · exact ⟨by omega, fun x hx k1 k2 => by omega⟩
                    · next q1 q2 q3 q4 q5 =>
                      refine ⟨by omega, fun x hx k1 k2 => ?_⟩
                      have hxm : rows % 15 ≤ x % 15 := by omega
                      by_cases h5 : 32768 ≤ w
                      · have : ¬ w / 16384 % 2 = 1 := by
                          intro h6
                          rw [if_pos (by rw [if_pos h5]; exact h6)] at hw0
                          omega
                        unfold wmsk
                        rw [if_neg (by omega), if_neg this, Nat.zero_testBit]
                      · have h6 : w / 2 ^ (rows % 15) = 0 := by
                          rcases Nat.eq_zero_or_pos (w / 2 ^ (rows % 15)) with h7 | h7
                          · exact h7
                          · rw [if_pos (by rw [if_neg h5]; omega)] at hw0
                            omega
                        have h7 : w < 2 ^ (rows % 15) := by
                          rcases Nat.lt_or_ge w (2 ^ (rows % 15)) with h8 | h8
                          · exact h8
                          · have := Nat.div_pos h8 (Nat.pow_pos (by omega))
                            omega
                        unfold wmsk
                        rw [if_pos (by omega)]
                        exact Nat.testBit_lt_two_pow (Nat.lt_of_lt_of_le h7 (Nat.pow_le_pow_right (by omega) hxm))
          refine ih _ _ _ _ _ key.1 (fun i => ?_) (fun x hx => ?_) h
          · unfold put1
            split
            · exact wmsk_lt hwl
            · exact h1 i
          · unfold bit put1
            split
            · exact key.2 x hx (by omega) (by omega)
            · exact h2 x hx
    · split at h
      · cases h
      · cases h
        exact ⟨h1, h2⟩
/-- a text has been read, whatever came of it: the tape, the text of a column, the notes -/
theorem CI.rd {σ' : ab_H} (h : CI σ cc rows K va ad R f n pl c r) (hf : fr (fun a => a = 1 ∨ (26 ≤ a ∧ a ≤ 32) ∨ a = 54) σ σ') {n' : Nat} {pl' : Int} (ht : ∃ len a st k : Int, σ'.2 1 = some (tpc n' len a st k pl')) (hn : n' ≤ 400) (hx : TXT σ') (h54 : ∃ s : V1, IsB σ' 53 s) : CI σ' cc rows K va ad R f n' pl' c r := by
  have hs := h.s
  have hg := hf.gr
  obtain ⟨h0, ⟨-, t2, t3, t4⟩, h2, h3, h4, h5, ⟨k1, -, ⟨g5, k3⟩, ⟨g6, k4, k4b⟩, k5⟩⟩ := h
  exact ⟨(hf.2 0 (by omega)).trans h0, ⟨ht, (hf.2 2 (by omega)).trans t2, t3, hn⟩, h2.gr hg hs (fun a _ => by omega), h3.gr hg hs (fun a _ _ => by omega), hx, h5.gr hg hs (fun a _ _ => by omega), k1.gr hg hs (fun a _ _ => by omega), h54, ⟨g5, (hf.2 55 (by omega)).trans k3⟩, ⟨g6, (hf.2 56 (by omega)).trans k4, k4b⟩, Nat.le_trans k5 (Nat.le_of_eq hf.1.symm)⟩
set_option maxRecDepth 100000 in
set_option maxHeartbeats 1000000 in
theorem f_load (hI : CI σ cc rows K va ad R f n pl c r) (k x : Int) (hk : ab_R k) (hx : ab_R x) : ab_call 8 2 12 yX9_load [rf 0, .inl k, .inl x] σ (stP σ (cc, rows, K, va, R, f, n, pl, c) r (sg_load cc rows K va R f n c k x)) := by
  obtain ⟨h0, ⟨⟨tlen, tat, tst, tk, h1⟩, h2, hby, hn4⟩, ⟨h3, hr, h5, hC, hR, hRr⟩, -, ⟨hC26, h28, hNS⟩, -, -, ⟨s53, h53⟩, -⟩ := id hI
  refine eX9_load rfl (fun At hA => ?_)
  refine hA 0 _ rfl _ _ _ _ _ ?_
  refine And.intro rfl (ab_inv_ev (c_isResult k hk) (by first | decide | omega) (by first | exact Nat.le_refl _ | omega) (by first | exact Nat.le_refl _ | omega) ?_)
  refine Exists.intro _ (And.intro (by first | assumption | exact st_s | exact st_e (by decide) (by assumption) | exact st_e (by omega) (by assumption) | exact st_e (by decide) st_s | exact st_e (by omega) st_s | exact st_e (by decide) (st_e (by decide) (by assumption)) | exact st_e (by omega) (st_e (by omega) (by assumption))) (And.intro rfl (ab_inv_of (c_needElement h0 (decide (0 ≤ k ∧ k ≤ 5))) (by first | decide | omega) (by omega) (by omega) ?_)))
  intro r' τ hpost
  rcases hpost with ⟨hb, rfl, rfl⟩ | ⟨hb, rfl, q9, hq9, rfl⟩
  · have hP := of_decide_eq_true hb
    have k4 : ∀ z : Int, z = b2i (decide (0 ≤ x ∧ x ≤ n)) → At 4 [some (rf 0), some (.inl k), some (.inl x)] [.inl z, rf 0] τ (0 + 1) (0 + 6) := fun z hz => by
      subst hz
      refine hA 4 _ rfl _ _ _ _ _ ?_
      refine Exists.intro _ (And.intro (by first | assumption | exact st_s | exact st_e (by decide) (by assumption) | exact st_e (by omega) (by assumption) | exact st_e (by decide) st_s | exact st_e (by omega) st_s | exact st_e (by decide) (st_e (by decide) (by assumption)) | exact st_e (by omega) (st_e (by omega) (by assumption))) (And.intro rfl (ab_inv_of (c_needArgument h0 (decide (0 ≤ x ∧ x ≤ n))) (by first | decide | omega) (by omega) (by omega) ?_)))
      intro r' τ2 hpost
      rcases hpost with ⟨hb2, rfl, rfl⟩ | ⟨hb2, rfl, q9, hq9, rfl⟩
      · have hP2 := of_decide_eq_true hb2
        have hxl : x.toNat ≤ n := by omega
        have hsp : ∀ y : Nat, sg_load cc rows K va R f n c k x = (match ldP f x.toNat rows (x.toNat / 2 + 1) 0 0 0 (all1 0) with
          | .inl (u, v) => .inl (u - 10, (cc, rows, K, va, R, f, 0, v, c))
          | .inr m => .inl ((cnt (bit m) 1500 : Nat), (cc, rows, K, va, ab_up R k.toNat m, f, 0, -1, c))) := fun _ => by
          unfold sg_load
          rw [if_pos hP, if_pos hP2]
          rfl
        have hsp := hsp 0
        have htk := c_take h1 x
        have w0 : (ab_st τ2 1 (tpc 0 x 0 0 0 (-1))).2 0 = some (c9 r) := st_e (by decide) h0
        have hfl := c_fillTo (h53.ne (a := 1) (x := tpc 0 x 0 0 0 (-1)) (by decide) (by decide)) 0 (by omega)
        have w531 : (ab_st τ2 1 (tpc 0 x 0 0 0 (-1))).2 53 = _ := st_e (by decide) h53.1
        have hsx : ((x.toNat : Nat) : Int) = x := by omega
        have hB2 : IsB (ab_st (ab_st τ2 1 (tpc 0 x 0 0 0 (-1))) 54 (bmc (fun i => rg i 0))) 53 (fun i => rg i 0) := (h53.ne (by decide) (by decide)).st (fun i => rg_lt i 0)
        have z1 : (ab_st (ab_st τ2 1 (tpc 0 x 0 0 0 (-1))) 54 (bmc (fun i => rg i 0))).2 1 = some (tpc 0 ((x.toNat : Nat) : Int) ((0 : Nat) : Int) 0 0 (-1)) := by rw [hsx]; exact st_e (by decide) st_s
        have hri := c_readInto (σ := ab_st (ab_st τ2 1 (tpc 0 x 0 0 0 (-1))) 54 (bmc (fun i => rg i 0))) (rows := rows) (st_e (by decide) (st_e (by decide) h28)) z1 (Nat.zero_le _) (st_e (by decide) (st_e (by decide) h2)) hby (by omega) hr (h := 53) (by omega) hB2
        have y28 : (ab_st (ab_st τ2 1 (tpc 0 x 0 0 0 (-1))) 54 (bmc (fun i => rg i 0))).2 28 = _ := st_e (by decide) (st_e (by decide) h28)
        have hrl : (fun i => rg i 0) = all1 0 := rfl
        refine Exists.intro _ (And.intro (by first | assumption | exact st_s | exact st_e (by decide) (by assumption) | exact st_e (by omega) (by assumption) | exact st_e (by decide) st_s | exact st_e (by omega) st_s | exact st_e (by decide) (st_e (by decide) (by assumption)) | exact st_e (by omega) (st_e (by omega) (by assumption))) ?_)
        refine Exists.intro _ (And.intro (by first | assumption | exact st_s | exact st_e (by decide) (by assumption) | exact st_e (by omega) (by assumption) | exact st_e (by decide) st_s | exact st_e (by omega) st_s | exact st_e (by decide) (st_e (by decide) (by assumption)) | exact st_e (by omega) (st_e (by omega) (by assumption))) (And.intro rfl (ab_inv_ev htk (by first | decide | omega) (by first | exact Nat.le_refl _ | omega) (by first | exact Nat.le_refl _ | omega) ?_)))
        refine Exists.intro _ (And.intro (by first | assumption | exact st_s | exact st_e (by decide) (by assumption) | exact st_e (by omega) (by assumption) | exact st_e (by decide) st_s | exact st_e (by omega) st_s | exact st_e (by decide) (st_e (by decide) (by assumption)) | exact st_e (by omega) (st_e (by omega) (by assumption))) ?_)
        refine Exists.intro _ (And.intro (by first | assumption | exact st_s | exact st_e (by decide) (by assumption) | exact st_e (by omega) (by assumption) | exact st_e (by decide) st_s | exact st_e (by omega) st_s | exact st_e (by decide) (st_e (by decide) (by assumption)) | exact st_e (by omega) (st_e (by omega) (by assumption))) (And.intro rfl (ab_inv_ev hfl (by first | decide | omega) (by first | exact Nat.le_refl _ | omega) (by first | exact Nat.le_refl _ | omega) ?_)))
        refine Exists.intro _ (And.intro (by first | assumption | exact st_s | exact st_e (by decide) (by assumption) | exact st_e (by omega) (by assumption) | exact st_e (by decide) st_s | exact st_e (by omega) st_s | exact st_e (by decide) (st_e (by decide) (by assumption)) | exact st_e (by omega) (st_e (by omega) (by assumption))) ?_)
        refine Exists.intro _ (And.intro (by first | assumption | exact st_s | exact st_e (by decide) (by assumption) | exact st_e (by omega) (by assumption) | exact st_e (by decide) st_s | exact st_e (by omega) st_s | exact st_e (by decide) (st_e (by decide) (by assumption)) | exact st_e (by omega) (st_e (by omega) (by assumption))) ?_)
        refine Exists.intro _ (And.intro (by first | assumption | exact st_s | exact st_e (by decide) (by assumption) | exact st_e (by omega) (by assumption) | exact st_e (by decide) st_s | exact st_e (by omega) st_s | exact st_e (by decide) (st_e (by decide) (by assumption)) | exact st_e (by omega) (st_e (by omega) (by assumption))) ?_)
        refine Exists.intro _ (And.intro (by first | assumption | exact st_s | exact st_e (by decide) (by assumption) | exact st_e (by omega) (by assumption) | exact st_e (by decide) st_s | exact st_e (by omega) st_s | exact st_e (by decide) (st_e (by decide) (by assumption)) | exact st_e (by omega) (st_e (by omega) (by assumption))) ?_)
        refine Exists.intro _ (And.intro (by first | assumption | exact st_s | exact st_e (by decide) (by assumption) | exact st_e (by omega) (by assumption) | exact st_e (by decide) st_s | exact st_e (by omega) st_s | exact st_e (by decide) (st_e (by decide) (by assumption)) | exact st_e (by omega) (st_e (by omega) (by assumption))) (And.intro rfl (ab_inv_of hri (by first | decide | omega) (by omega) (by omega) ?_)))
        intro r' υ hpost
        obtain ⟨rfl, f1, hQ⟩ := hpost
        rw [hrl] at hQ
        have hf0 : fr (fun a => a = 1 ∨ (26 ≤ a ∧ a ≤ 32) ∨ a = 54) τ2 υ := ((((fr_rf _ _).st (Or.inl rfl)).st (Or.inr (Or.inr rfl)))).tr (f1.mono (fun a ha => by omega))
        have u0 := (hf0.2 0 (by omega)).trans h0
        have hTX : TXT υ := by
          obtain ⟨p26, q26, g27, t4, t5⟩ := hC26
          exact ⟨⟨p26, q26, g27, (f1.2 26 (by omega)).trans (st_e (by decide) (st_e (by decide) t4)), (f1.2 27 (by omega)).trans (st_e (by decide) (st_e (by decide) t5))⟩, (f1.2 28 (by omega)).trans y28, ((hNS.fr (fr_st (A := fun a => a = 1) rfl) (fun a _ _ => by omega)).fr (fr_st (A := fun a => a = 54) rfl) (fun a _ _ => by omega)).fr f1 (fun a _ _ => by omega)⟩
        have hgr : gr fcA τ2 υ := (hf0.mono (fun a ha => by unfold fcA; omega)).gr
        rcases hL : ldP f x.toNat rows (x.toNat / 2 + 1) 0 0 0 (all1 0) with ⟨u, v⟩ | m
        · rw [hL] at hQ hsp
          obtain ⟨q1, q2, ⟨a', st', q3, q4⟩, m', q5⟩ := hQ
          have hI2 := hI.rd hf0 (n' := 0) (pl' := v) ⟨_, _, _, _, q4⟩ (Nat.zero_le _) hTX ⟨m', q5⟩
          refine Exists.intro _ (And.intro (by first | assumption | exact st_s | exact st_e (by decide) (by assumption) | exact st_e (by omega) (by assumption) | exact st_e (by decide) st_s | exact st_e (by omega) st_s | exact st_e (by decide) (st_e (by decide) (by assumption)) | exact st_e (by omega) (st_e (by omega) (by assumption))) ?_)
          refine Exists.intro _ (And.intro (by first | assumption | exact st_s | exact st_e (by decide) (by assumption) | exact st_e (by omega) (by assumption) | exact st_e (by decide) st_s | exact st_e (by omega) st_s | exact st_e (by decide) (st_e (by decide) (by assumption)) | exact st_e (by omega) (st_e (by omega) (by assumption))) (And.intro rfl (ab_inv_ev (c_isSound q4 q2) (by first | decide | omega) (by first | exact Nat.le_refl _ | omega) (by first | exact Nat.le_refl _ | omega) ?_)))
          refine And.intro (by first | assumption | exact b2i_R _ | exact rR (by omega) (by omega) | exact rR (by simp only [Int.toNat_natCast]; omega) (by simp only [Int.toNat_natCast]; omega)) (And.intro (fun q => ?_) (fun q => ?_))
          · exact absurd (show b2i (decide (u = 0)) = 0 by rw [decide_eq_false q1]; rfl) q
          · refine hA 5 _ rfl _ _ _ _ _ ?_
            refine Exists.intro _ (And.intro (by first | assumption | exact st_s | exact st_e (by decide) (by assumption) | exact st_e (by omega) (by assumption) | exact st_e (by decide) st_s | exact st_e (by omega) st_s | exact st_e (by decide) (st_e (by decide) (by assumption)) | exact st_e (by omega) (st_e (by omega) (by assumption))) ?_)
            refine Exists.intro _ (And.intro (by first | assumption | exact st_s | exact st_e (by decide) (by assumption) | exact st_e (by omega) (by assumption) | exact st_e (by decide) st_s | exact st_e (by omega) st_s | exact st_e (by decide) (st_e (by decide) (by assumption)) | exact st_e (by omega) (st_e (by omega) (by assumption))) (And.intro rfl (ab_inv_ev (c_refusal q4) (by first | decide | omega) (by first | exact Nat.le_refl _ | omega) (by first | exact Nat.le_refl _ | omega) ?_)))
            exact st_ok hsp hgr hI2
        · rw [hL] at hQ hsp
          obtain ⟨⟨a', st', q3, q4⟩, q5⟩ := hQ
          have hI2 := hI.rd hf0 (n' := 0) (pl' := -1) ⟨_, _, _, _, q4⟩ (Nat.zero_le _) hTX ⟨m, q5⟩
          have hok := ldP_ok hby _ _ _ _ _ _ (Nat.zero_le _) (fun i => rg_lt i 0) (fun y hy => by show bit (fun i => rg i 0) y = false; rw [bit_rg, decide_eq_false (by omega)]) hL
          have hI3 := hI2.res (k := k.toNat) (by omega) hok.1 hok.2
          obtain ⟨-, -, ⟨w3, -, w5, -, wR, -⟩, -⟩ := id hI2
          have wRk := wR k.toNat (by omega)
          have wRk1 := wRk.1
          have hcf := c_copyFrom wRk q5
          have hS3 : IsB (ab_st υ (12 + 2 * k.toNat + 1) (bmc m)) 53 m := q5.ne (by omega) (by omega)
          have hS31 := hS3.1
          have v0 := hI3.1
          refine Exists.intro _ (And.intro (by first | assumption | exact st_s | exact st_e (by decide) (by assumption) | exact st_e (by omega) (by assumption) | exact st_e (by decide) st_s | exact st_e (by omega) st_s | exact st_e (by decide) (st_e (by decide) (by assumption)) | exact st_e (by omega) (st_e (by omega) (by assumption))) ?_)
          refine Exists.intro _ (And.intro (by first | assumption | exact st_s | exact st_e (by decide) (by assumption) | exact st_e (by omega) (by assumption) | exact st_e (by decide) st_s | exact st_e (by omega) st_s | exact st_e (by decide) (st_e (by decide) (by assumption)) | exact st_e (by omega) (st_e (by omega) (by assumption))) (And.intro rfl (ab_inv_ev (c_isSound q4 (rR (by omega) (by omega))) (by first | decide | omega) (by first | exact Nat.le_refl _ | omega) (by first | exact Nat.le_refl _ | omega) ?_)))
          refine And.intro (by first | assumption | exact b2i_R _ | exact rR (by omega) (by omega) | exact rR (by simp only [Int.toNat_natCast]; omega) (by simp only [Int.toNat_natCast]; omega)) (And.intro (fun q => ?_) (fun q => ?_))
          · refine hA 6 _ rfl _ _ _ _ _ ?_
            refine Exists.intro _ (And.intro (by first | assumption | exact st_s | exact st_e (by decide) (by assumption) | exact st_e (by omega) (by assumption) | exact st_e (by decide) st_s | exact st_e (by omega) st_s | exact st_e (by decide) (st_e (by decide) (by assumption)) | exact st_e (by omega) (st_e (by omega) (by assumption))) ?_)
            refine Exists.intro _ (And.intro (by first | assumption | exact st_s | exact st_e (by decide) (by assumption) | exact st_e (by omega) (by assumption) | exact st_e (by decide) st_s | exact st_e (by omega) st_s | exact st_e (by decide) (st_e (by decide) (by assumption)) | exact st_e (by omega) (st_e (by omega) (by assumption))) ?_)
            refine Exists.intro _ (Exists.intro _ (And.intro (by first | assumption | exact st_s | exact st_e (by decide) (by assumption) | exact st_e (by omega) (by assumption) | exact st_e (by decide) st_s | exact st_e (by omega) st_s | exact st_e (by decide) (st_e (by decide) (by assumption)) | exact st_e (by omega) (st_e (by omega) (by assumption))) (And.intro (by first | omega | (simp only [Int.toNat_natCast]; omega)) ?_)))
            refine Exists.intro _ (And.intro (by first | assumption | exact st_s | exact st_e (by decide) (by assumption) | exact st_e (by omega) (by assumption) | exact st_e (by decide) st_s | exact st_e (by omega) st_s | exact st_e (by decide) (st_e (by decide) (by assumption)) | exact st_e (by omega) (st_e (by omega) (by assumption))) ?_)
            refine Exists.intro _ (And.intro (by first | assumption | exact st_s | exact st_e (by decide) (by assumption) | exact st_e (by omega) (by assumption) | exact st_e (by decide) st_s | exact st_e (by omega) st_s | exact st_e (by decide) (st_e (by decide) (by assumption)) | exact st_e (by omega) (st_e (by omega) (by assumption))) (And.intro rfl (ab_inv_ev hcf (by first | decide | omega) (by first | exact Nat.le_refl _ | omega) (by first | exact Nat.le_refl _ | omega) ?_)))
            refine Exists.intro _ (And.intro (by first | assumption | exact st_s | exact st_e (by decide) (by assumption) | exact st_e (by omega) (by assumption) | exact st_e (by decide) st_s | exact st_e (by omega) st_s | exact st_e (by decide) (st_e (by decide) (by assumption)) | exact st_e (by omega) (st_e (by omega) (by assumption))) ?_)
            refine Exists.intro _ (And.intro (by first | assumption | exact st_s | exact st_e (by decide) (by assumption) | exact st_e (by omega) (by assumption) | exact st_e (by decide) st_s | exact st_e (by omega) st_s | exact st_e (by decide) (st_e (by decide) (by assumption)) | exact st_e (by omega) (st_e (by omega) (by assumption))) (And.intro rfl (ab_inv_ev (c_count hS3) (by first | decide | omega) (by first | exact Nat.le_refl _ | omega) (by first | exact Nat.le_refl _ | omega) ?_)))
            exact st_ok hsp (hgr.tr (fr.gr (A := fcA) (fr_st (by unfold fcA; omega)))) hI3
          · exact absurd q (by decide)
      · have hP2 := of_decide_eq_false hb2
        exact st_no (by unfold sg_load; rw [if_pos hP, if_neg hP2]) (gr_rf _ _) hI hq9
    have k3 : ¬ (0 ≤ x ∧ x ≤ n) → At 3 [some (rf 0), some (.inl k), some (.inl x)] [rf 0] τ (0 + 1) (0 + 6) := fun h => by
      refine hA 3 _ rfl _ _ _ _ _ ?_
      exact k4 0 (by rw [decide_eq_false h]; rfl)
    refine And.intro (by first | assumption | exact b2i_R _ | exact rR (by omega) (by omega) | exact rR (by simp only [Int.toNat_natCast]; omega) (by simp only [Int.toNat_natCast]; omega)) (And.intro (fun q => ?_) (fun q => ?_))
    · exact k3 (by omega)
    · refine hA 1 _ rfl _ _ _ _ _ ?_
      refine Exists.intro _ (And.intro (by first | assumption | exact st_s | exact st_e (by decide) (by assumption) | exact st_e (by omega) (by assumption) | exact st_e (by decide) st_s | exact st_e (by omega) st_s | exact st_e (by decide) (st_e (by decide) (by assumption)) | exact st_e (by omega) (st_e (by omega) (by assumption))) ?_)
      refine Exists.intro _ (And.intro (by first | assumption | exact st_s | exact st_e (by decide) (by assumption) | exact st_e (by omega) (by assumption) | exact st_e (by decide) st_s | exact st_e (by omega) st_s | exact st_e (by decide) (st_e (by decide) (by assumption)) | exact st_e (by omega) (st_e (by omega) (by assumption))) ?_)
      refine And.intro (And.intro (by first | assumption | exact b2i_R _ | exact rR (by omega) (by omega) | exact rR (by simp only [Int.toNat_natCast]; omega) (by simp only [Int.toNat_natCast]; omega)) (by first | assumption | exact b2i_R _ | exact rR (by omega) (by omega) | exact rR (by simp only [Int.toNat_natCast]; omega) (by simp only [Int.toNat_natCast]; omega))) (And.intro (fun q => ?_) (fun q => ?_))
      · exact k3 (by omega)
      · refine hA 2 _ rfl _ _ _ _ _ ?_
        exact k4 1 (by rw [decide_eq_true (by omega)]; rfl)
  · have hP := of_decide_eq_false hb
    exact st_no (by unfold sg_load; rw [if_neg hP]) (gr_rf _ _) hI hq9
/-- what a column's making takes -/
def clM (cc rows : Nat) (f : Nat → Int) (n : Nat) (x : Int) : Nat := if (0 ≤ x ∧ x ≤ 200 ∧ x ≤ n) ∧ rows = 0 ∧ cc < 4 then colM (colP f x.toNat) else 0
def clN (cc rows : Nat) (f : Nat → Int) (n : Nat) (x : Int) : Nat := if (0 ≤ x ∧ x ≤ 200 ∧ x ≤ n) ∧ rows = 0 ∧ cc < 4 then colN (colP f x.toNat) else 0
theorem cbm_0 (ρ : Bool) (b w : Nat → Nat) : cbm ρ b w 0 = fun _ _ => 0 := by
  funext i
  unfold cbm
  refine (mk_of (g := fun _ => 0) (fun _ => (by decide : (0 : Nat) < 32768)) (fun x => ?_)).symm
  unfold prd
  rw [decide_eq_false (by omega)]
  unfold bit
  rw [Nat.zero_testBit]
  rfl
set_option maxRecDepth 100000 in
set_option maxHeartbeats 1000000 in
theorem f_column (hI : CI σ cc rows K va ad R f n pl c r) (x : Int) (hx : ab_R x) : ab_call 10 (2 + clM cc rows f n x) (12 + clN cc rows f n x) yX9_column [rf 0, .inl x] σ (stP σ (cc, rows, K, va, R, f, n, pl, c) r (sg_column cc rows K va R f n c x)) := by
  have hs := hI.s
  obtain ⟨h0, ⟨⟨tlen, tat, tst, tk, h1⟩, h2, hby, hn4⟩, ⟨h3, hr, h5, hC, hR, hRr⟩, -, ⟨hC26, h28, hNS⟩, -, -, ⟨s53, h53⟩, -⟩ := id hI
  have hcc4 := hC.1
  refine eX9_column rfl (fun At hA => ?_)
  refine hA 0 _ rfl _ _ _ _ _ ?_
  refine Exists.intro _ (And.intro (by first | assumption | exact st_s | exact st_e (by decide) (by assumption) | exact st_e (by omega) (by assumption) | exact st_e (by decide) st_s | exact st_e (by omega) st_s | exact st_e (by decide) (st_e (by decide) (by assumption)) | exact st_e (by omega) (st_e (by omega) (by assumption))) (And.intro rfl (ab_inv_ev (c_isTextLength h0 h1 hn4 x hx) (by first | decide | omega) (by first | exact Nat.le_refl _ | omega) (by first | exact Nat.le_refl _ | omega) ?_)))
  refine Exists.intro _ (And.intro (by first | assumption | exact st_s | exact st_e (by decide) (by assumption) | exact st_e (by omega) (by assumption) | exact st_e (by decide) st_s | exact st_e (by omega) st_s | exact st_e (by decide) (st_e (by decide) (by assumption)) | exact st_e (by omega) (st_e (by omega) (by assumption))) (And.intro rfl (ab_inv_of (c_needArgument h0 (decide (0 ≤ x ∧ x ≤ 200 ∧ x ≤ n))) (by first | decide | omega) (by omega) (by omega) ?_)))
  intro r' τ hpost
  rcases hpost with ⟨hb, rfl, rfl⟩ | ⟨hb, rfl, q9, hq9, rfl⟩
  · have hP := of_decide_eq_true hb
    have k4 : ∀ z : Int, z = b2i (decide (rows = 0 ∧ cc < 4)) → At 4 [some (rf 0), some (.inl x), none] [.inl z, rf 0] τ (0 + 1) (0 + 6) := fun z hz => by
      subst hz
      refine hA 4 _ rfl _ _ _ _ _ ?_
      refine Exists.intro _ (And.intro (by first | assumption | exact st_s | exact st_e (by decide) (by assumption) | exact st_e (by omega) (by assumption) | exact st_e (by decide) st_s | exact st_e (by omega) st_s | exact st_e (by decide) (st_e (by decide) (by assumption)) | exact st_e (by omega) (st_e (by omega) (by assumption))) (And.intro rfl (ab_inv_of (c_needState h0 (decide (rows = 0 ∧ cc < 4))) (by first | decide | omega) (by omega) (by omega) ?_)))
      intro r' τ2 hpost
      rcases hpost with ⟨hb2, rfl, rfl⟩ | ⟨hb2, rfl, q9, hq9, rfl⟩
      · have hP2 := of_decide_eq_true hb2
        have hM : clM cc rows f n x = colM (colP f x.toNat) := if_pos ⟨hP, hP2⟩
        have hN : clN cc rows f n x = colN (colP f x.toNat) := if_pos ⟨hP, hP2⟩
        have hsp : sg_column cc rows K va R f n c x = (match colP f x.toNat with
          | .inl (u, v) => .inl (u - 10, (cc, rows, K, va, R, f, 0, v, c))
          | .inr k => .inl ((cc : Nat), (cc + 1, rows, ab_up K cc k, ab_up va cc (fun _ => 0), R, f, 0, -1, c))) := by
          unfold sg_column
          rw [if_pos hP, if_pos hP2]
          rfl
        have hsx : ((x.toNat : Nat) : Int) = x := by omega
        have htk := c_take h1 x
        have w0 : (ab_st τ2 1 (tpc 0 x 0 0 0 (-1))).2 0 = some (c9 r) := st_e (by decide) h0
        have w1 : (ab_st τ2 1 (tpc 0 x 0 0 0 (-1))).2 1 = some (tpc 0 ((x.toNat : Nat) : Int) 0 0 0 (-1)) := by rw [hsx]; exact st_s
        have wC26 : C26 (ab_st τ2 1 (tpc 0 x 0 0 0 (-1))) := by
          obtain ⟨p26, q26, g27, t4, t5⟩ := hC26
          exact ⟨p26, q26, g27, st_e (by decide) t4, st_e (by decide) t5⟩
        obtain ⟨p26, q26, g27, t4, t5⟩ := id wC26
        have hrc := c_readColumn (σ := ab_st τ2 1 (tpc 0 x 0 0 0 (-1))) (len := x.toNat) hs w1 (st_e (by decide) h2) hby (by omega) wC26
        refine Exists.intro _ (And.intro (by first | assumption | exact st_s | exact st_e (by decide) (by assumption) | exact st_e (by omega) (by assumption) | exact st_e (by decide) st_s | exact st_e (by omega) st_s | exact st_e (by decide) (st_e (by decide) (by assumption)) | exact st_e (by omega) (st_e (by omega) (by assumption))) ?_)
        refine Exists.intro _ (And.intro (by first | assumption | exact st_s | exact st_e (by decide) (by assumption) | exact st_e (by omega) (by assumption) | exact st_e (by decide) st_s | exact st_e (by omega) st_s | exact st_e (by decide) (st_e (by decide) (by assumption)) | exact st_e (by omega) (st_e (by omega) (by assumption))) (And.intro rfl (ab_inv_ev htk (by first | decide | omega) (by first | exact Nat.le_refl _ | omega) (by first | exact Nat.le_refl _ | omega) ?_)))
        refine Exists.intro _ (And.intro (by first | assumption | exact st_s | exact st_e (by decide) (by assumption) | exact st_e (by omega) (by assumption) | exact st_e (by decide) st_s | exact st_e (by omega) st_s | exact st_e (by decide) (st_e (by decide) (by assumption)) | exact st_e (by omega) (st_e (by omega) (by assumption))) ?_)
        refine Exists.intro _ (And.intro (by first | assumption | exact st_s | exact st_e (by decide) (by assumption) | exact st_e (by omega) (by assumption) | exact st_e (by decide) st_s | exact st_e (by omega) st_s | exact st_e (by decide) (st_e (by decide) (by assumption)) | exact st_e (by omega) (st_e (by omega) (by assumption))) (And.intro rfl (ab_inv_of hrc (by first | decide | omega) (by omega) (by omega) ?_)))
        intro r' υ hpost
        obtain ⟨uC26, hQ⟩ := hpost
        have hf1 : fr (fun a => a = 1 ∨ (26 ≤ a ∧ a ≤ 32) ∨ a = 54) τ2 (ab_st τ2 1 (tpc 0 x 0 0 0 (-1))) := fr_st (Or.inl rfl)
        rcases hL : colP f x.toNat with ⟨u, v⟩ | ⟨ρ, card, parts, b⟩
        · rw [hL] at hQ hsp hM hN
          obtain ⟨rfl, q1, q2, ⟨a', st', q3, q4⟩, f2⟩ := hQ
          have hf0 := hf1.tr (f2.mono (fun a ha => by unfold ctA at ha; omega))
          have u0 := (hf0.2 0 (by omega)).trans h0
          have hI2 := hI.rd hf0 (n' := 0) (pl' := v) ⟨_, _, _, _, q4⟩ (Nat.zero_le _) ⟨uC26, (f2.2 28 (by unfold ctA; omega)).trans (st_e (by decide) h28), (hNS.fr (fr_st (A := fun a => a = 1) rfl) (fun a _ _ => by omega)).fr f2 (fun a h1 h2 h3 => by unfold ctA at h3; omega)⟩ ⟨s53, (h53.ne (a := 1) (by decide) (by decide)).fr f2 (by unfold ctA; omega) (by unfold ctA; omega)⟩
          refine And.intro (fun q => ?_) (fun q => ?_)
          · exact absurd rfl q
          · refine hA 5 _ rfl _ _ _ _ _ ?_
            refine Exists.intro _ (And.intro (by first | assumption | exact st_s | exact st_e (by decide) (by assumption) | exact st_e (by omega) (by assumption) | exact st_e (by decide) st_s | exact st_e (by omega) st_s | exact st_e (by decide) (st_e (by decide) (by assumption)) | exact st_e (by omega) (st_e (by omega) (by assumption))) ?_)
            refine Exists.intro _ (And.intro (by first | assumption | exact st_s | exact st_e (by decide) (by assumption) | exact st_e (by omega) (by assumption) | exact st_e (by decide) st_s | exact st_e (by omega) st_s | exact st_e (by decide) (st_e (by decide) (by assumption)) | exact st_e (by omega) (st_e (by omega) (by assumption))) (And.intro rfl (ab_inv_ev (c_refusal q4) (by first | decide | omega) (by first | exact Nat.le_refl _ | omega) (by first | exact Nat.le_refl _ | omega) ?_)))
            exact st_ok hsp ((hf0.mono (fun a ha => by unfold fcA; omega)).gr) hI2
        · rw [hL] at hQ hsp hM hN
          obtain ⟨rfl, ⟨a', st', q3, q4⟩, q5, q6, q7, q8⟩ := hQ
          have hs1 : (ab_st τ2 1 (tpc 0 x 0 0 0 (-1))).1 = τ2.1 := rfl
          rw [hs1] at q6 q7 q8
          -- what was there stays, but for the tape and the text of a column
          have hg0 : gr (fun a => a = 1 ∨ a = 26 ∨ a = 27) τ2 υ := ⟨by omega, fun a ha hn => by
            rw [q8 a ha (by unfold ctA; omega)]
            exact st_n (fun e => hn (Or.inl e))⟩
          have u0 : υ.2 0 = some (c9 r) := (hg0.2 0 (by omega) (by omega)).trans h0
          have u3 : υ.2 3 = some (tbc cc rows) := (hg0.2 3 (by omega) (by omega)).trans h3
          obtain ⟨-, ⟨A, h4, hAd⟩, hcol⟩ := id hC
          have u4 := (hg0.2 4 (by omega) (by omega)).trans h4
          have hac := c_addColumn u3 u4 hP2.2 q7.1
          have hr0 : rows = 0 := hP2.1
          subst hr0
          let υ2 := ab_st (ab_st υ 4 (.inr (.inr (1, 4, ab_up A cc (some τ2.1))))) 3 (tbc (cc + 1) 0)
          have hg2 : gr (fun a => a = 1 ∨ a = 26 ∨ a = 27 ∨ a = 3 ∨ a = 4) τ2 υ2 := (hg0.mono (fun a ha => by omega)).tr ((((fr_rf (fun a => a = 1 ∨ a = 26 ∨ a = 27 ∨ a = 3 ∨ a = 4) υ).st (by omega)).st (by omega)).gr)
          have hI2 : CI υ2 (cc + 1) 0 (ab_up K cc (ρ, card, parts, b)) (ab_up va cc (fun _ => 0)) (ab_up ad cc τ2.1) R f 0 (-1) c r := by
            obtain ⟨i0, ⟨-, i2, i3, i4⟩, ⟨t1, t2, t3, t4, t5, t6⟩, s1, s2, s3, s4⟩ := id hI
            refine ⟨(hg2.2 0 (by omega) (by omega)).trans i0, ⟨⟨_, _, _, _, st_e (by decide) (st_e (by decide) q4)⟩, (hg2.2 2 (by omega) (by omega)).trans i2, i3, Nat.zero_le _⟩, ⟨st_s, t2, (hg2.2 5 (by omega) (by omega)).trans t3, ⟨by omega, ⟨_, st_e (by decide) st_s, fun d hd => ?_⟩, fun d hd => ?_⟩, fun i hi => (t5 i hi).gr hg2 (by omega) (by omega) (by omega), t6⟩, s1.gr hg2 hs (fun a _ _ => by omega), ⟨?_, (hg2.2 28 (by omega) (by omega)).trans h28, ?_⟩, s3.gr hg2 hs (fun a _ _ => by omega), s4.gr hg2 (fun a _ _ => by omega)⟩
            · by_cases e : d = cc
              · subst e; rw [ab_up_s, ab_up_s]
              · rw [ab_up_n e, ab_up_n e]; exact hAd d (by omega)
            · by_cases e : d = cc
              · subst e
                rw [ab_up_s, ab_up_s, ab_up_s]
                refine ⟨q5, fun _ => (by decide : (0 : Nat) < 200), ?_, by omega, Nat.le_of_eq q6.symm, fun d' hd' => ?_⟩
                · rw [cbm_0]
                  exact (q7.ne (by omega)).ne (by omega)
                · rw [ab_up_n (by omega), ab_up_n (by omega)]
                  exact (hcol d' hd').2.2.2.2.1
              · rw [ab_up_n e, ab_up_n e, ab_up_n e]
                obtain ⟨m1, m2, m3, m4, m5, m6⟩ := hcol d (by omega)
                refine ⟨m1, m2, ?_, m4, Nat.le_trans m5 hg2.1, fun d' hd' => ?_⟩
                · obtain ⟨j0, j1, j2, j3, j4, j5, j6⟩ := m3
                  have g : ∀ a, ad d ≤ a → a < ad d + 6 + 2 * fsp (K d).1 (K d).2.2.2 (K d).2.2.1 → υ2.2 a = τ2.2 a := fun a h1 h2 => hg2.2 a (by omega) (by omega)
                  exact ⟨(g _ (by omega) (by omega)).trans j0, (g _ (by omega) (by omega)).trans j1, (g _ (by omega) (by omega)).trans j2, (g _ (by omega) (by omega)).trans j3, (g _ (by omega) (by omega)).trans j4, (g _ (by omega) (by omega)).trans j5, fun i hi => ⟨(g _ (by omega) (by omega)).trans (j6 i hi).1, (g _ (by omega) (by omega)).trans (j6 i hi).2.1, (j6 i hi).2.2⟩⟩
                · rw [ab_up_n (by omega), ab_up_n (by omega)]
                  exact m6 d' hd'
            · obtain ⟨p9, q9, g9, k9, l9⟩ := uC26
              exact ⟨p9, q9, g9, st_e (by decide) (st_e (by decide) k9), st_e (by decide) (st_e (by decide) l9)⟩
            · obtain ⟨L, cl, co, nu, l1, l2, l3, l4, l5, l6⟩ := hNS
              exact ⟨L, cl, co, nu, l1, (hg2.2 29 (by omega) (by omega)).trans l2, (hg2.2 30 (by omega) (by omega)).trans l3, (hg2.2 31 (by omega) (by omega)).trans l4, (hg2.2 32 (by omega) (by omega)).trans l5, l6⟩
          refine And.intro (fun q => ?_) (fun q => ?_)
          · refine hA 6 _ rfl _ _ _ _ _ ?_
            refine Exists.intro _ (And.intro (by first | assumption | exact st_s | exact st_e (by decide) (by assumption) | exact st_e (by omega) (by assumption) | exact st_e (by decide) st_s | exact st_e (by omega) st_s | exact st_e (by decide) (st_e (by decide) (by assumption)) | exact st_e (by omega) (st_e (by omega) (by assumption))) ?_)
            refine Exists.intro _ (And.intro (by first | assumption | exact st_s | exact st_e (by decide) (by assumption) | exact st_e (by omega) (by assumption) | exact st_e (by decide) st_s | exact st_e (by omega) st_s | exact st_e (by decide) (st_e (by decide) (by assumption)) | exact st_e (by omega) (st_e (by omega) (by assumption))) (And.intro rfl (ab_inv_ev hac (by first | decide | omega) (by first | exact Nat.le_refl _ | omega) (by first | exact Nat.le_refl _ | omega) ?_)))
            exact st_ok hsp (hg2.mono (fun a ha => by unfold fcA; omega)) hI2
          · exact absurd q (by intro h; cases h)
      · have hP2 := of_decide_eq_false hb2
        exact st_no (by unfold sg_column; rw [if_pos hP, if_neg hP2]) (gr_rf _ _) hI hq9
    have k3 : ¬ (rows = 0 ∧ cc < 4) → At 3 [some (rf 0), some (.inl x), none] [rf 0] τ (0 + 1) (0 + 6) := fun h => by
      refine hA 3 _ rfl _ _ _ _ _ ?_
      exact k4 0 (by rw [decide_eq_false h]; rfl)
    refine Exists.intro _ (And.intro (by first | assumption | exact st_s | exact st_e (by decide) (by assumption) | exact st_e (by omega) (by assumption) | exact st_e (by decide) st_s | exact st_e (by omega) st_s | exact st_e (by decide) (st_e (by decide) (by assumption)) | exact st_e (by omega) (st_e (by omega) (by assumption))) ?_)
    refine Exists.intro _ (And.intro (by first | assumption | exact st_s | exact st_e (by decide) (by assumption) | exact st_e (by omega) (by assumption) | exact st_e (by decide) st_s | exact st_e (by omega) st_s | exact st_e (by decide) (st_e (by decide) (by assumption)) | exact st_e (by omega) (st_e (by omega) (by assumption))) ?_)
    refine And.intro (by first | assumption | exact b2i_R _ | exact rR (by omega) (by omega) | exact rR (by simp only [Int.toNat_natCast]; omega) (by simp only [Int.toNat_natCast]; omega)) (And.intro (fun q => ?_) (fun q => ?_))
    · exact k3 (by omega)
    · refine hA 1 _ rfl _ _ _ _ _ ?_
      refine Exists.intro _ (And.intro (by first | assumption | exact st_s | exact st_e (by decide) (by assumption) | exact st_e (by omega) (by assumption) | exact st_e (by decide) st_s | exact st_e (by omega) st_s | exact st_e (by decide) (st_e (by decide) (by assumption)) | exact st_e (by omega) (st_e (by omega) (by assumption))) ?_)
      refine Exists.intro _ (And.intro (by first | assumption | exact st_s | exact st_e (by decide) (by assumption) | exact st_e (by omega) (by assumption) | exact st_e (by decide) st_s | exact st_e (by omega) st_s | exact st_e (by decide) (st_e (by decide) (by assumption)) | exact st_e (by omega) (st_e (by omega) (by assumption))) ?_)
      refine And.intro (And.intro (by first | assumption | exact b2i_R _ | exact rR (by omega) (by omega) | exact rR (by simp only [Int.toNat_natCast]; omega) (by simp only [Int.toNat_natCast]; omega)) (by first | assumption | exact b2i_R _ | exact rR (by omega) (by omega) | exact rR (by simp only [Int.toNat_natCast]; omega) (by simp only [Int.toNat_natCast]; omega))) (And.intro (fun q => ?_) (fun q => ?_))
      · exact k3 (by omega)
      · refine hA 2 _ rfl _ _ _ _ _ ?_
        exact k4 1 (by rw [decide_eq_true (by omega)]; rfl)
  · have hP := of_decide_eq_false hb
    exact st_no (by unfold sg_column; rw [if_neg hP]) (gr_rf _ _) hI hq9
end State3
