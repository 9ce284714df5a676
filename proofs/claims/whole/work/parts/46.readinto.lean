-- ===== words brought from outside: the loop =====
section RInto
variable {σ : ab_H} {f : Nat → Int} {len rows : Nat} {n st : Int}
/-- what the reading of words leaves -/
def ldQ (n : Int) (len h : Nat) (P : (Int × Int) ⊕ (Nat → Nat)) (σ' : ab_H) : Prop := match P with
  | .inl (u, v) => u ≠ 0 ∧ ab_R u ∧ T1 σ' n len u v ∧ ∃ m : Nat → Nat, IsB σ' h m
  | .inr m => T1 σ' n len 0 (-1) ∧ IsB σ' h m
set_option maxRecDepth 100000 in
set_option maxHeartbeats 1000000 in
theorem c_readInto (h28 : σ.2 28 = some (.inl (8, [rf 1]))) {a0 : Nat} (h1 : σ.2 1 = some (tpc n len a0 st 0 (-1))) (ha0 : a0 ≤ len) (h2 : σ.2 2 = some (bya f)) (hf : byR f) (hl : len ≤ 400) (hr : rows ≤ 1500) {h : Nat} (hh : 29 ≤ h) {m : Nat → Nat} (hB : IsB σ h m) : ab_call 3 0 0 yX8_readInto [rf 28, rf h, .inl rows] σ (fun r σ' => r = .inl none ∧ fr (fun a => a = 1 ∨ a = h + 1) σ σ' ∧ ldQ n len h (ldP f len rows (len / 2 + 1) 0 0 0 m) σ') := by
  have hgu := gu_le hr
  have hB1 := hB.1
  generalize hP : ldP f len rows (len / 2 + 1) 0 0 0 m = P
  refine eX8_readInto rfl (fun At hA => ?_)
  have loop : ∀ (k a g w0 : Nat) (m' : Nat → Nat) (y7 y8 y9 : Option ab_V), len < a + 2 * k → a ≤ len → g ≤ gu rows → w0 < 65536 → (∀ i, m' i < 32768) → ldP f len rows k a g w0 m' = P → At 1 [some (rf 28), some (rf h), some (.inl rows), some (.inl (gu rows)), some (.inl g), some (.inl w0), some (.inl a), y7, y8, y9] [] (ab_st σ (h + 1) (bmc m')) 0 0 := by
    intro k
    induction k with
    | zero => intro a g w0 m' y7 y8 y9 hk ha; omega
    | succ k ih =>
      intro a g w0 m' y7 y8 y9 hk ha hg hw0 hm' hP2
      have q28 : (ab_st σ (h + 1) (bmc m')).2 28 = _ := st_e (by omega) h28
      have q1 : (ab_st σ (h + 1) (bmc m')).2 1 = _ := st_e (by omega) h1
      have q2 : (ab_st σ (h + 1) (bmc m')).2 2 = _ := st_e (by omega) h2
      have qB := hB.st hm'
      have qf : fr (fun a => a = 1 ∨ a = h + 1) σ (ab_st σ (h + 1) (bmc m')) := fr_st (Or.inr rfl)
      unfold ldP at hP2
      have fails : ∀ (u v : Int) (τ : ab_H), u ≠ 0 → ab_R u → P = .inl (u, v) → τ = ab_st (ab_st σ (h + 1) (bmc m')) 1 (tpc n len a0 st (if (0 : Int) = 0 then u else 0) (if (0 : Int) = 0 then v else -1)) → fr (fun a => a = 1 ∨ a = h + 1) σ τ ∧ ldQ n len h P τ := fun u v τ hu hR hPe hτ => by
        subst hτ
        rw [if_pos rfl, if_pos rfl, hPe]
        exact ⟨qf.st (Or.inl rfl), hu, hR, ⟨a0, st, ha0, st_s⟩, m', qB.ne (by omega) (by omega)⟩
      refine hA 1 _ rfl _ _ _ _ _ ?_
      refine Exists.intro _ (And.intro (by first | assumption | exact st_s | exact st_e (by decide) (by assumption) | exact st_e (by omega) (by assumption) | exact st_e (by decide) st_s | exact st_e (by omega) st_s | exact st_e (by decide) (st_e (by decide) (by assumption)) | exact st_e (by omega) (st_e (by omega) (by assumption))) ?_)
      refine Exists.intro _ (And.intro (by first | assumption | exact st_s | exact st_e (by decide) (by assumption) | exact st_e (by omega) (by assumption) | exact st_e (by decide) st_s | exact st_e (by omega) st_s | exact st_e (by decide) (st_e (by decide) (by assumption)) | exact st_e (by omega) (st_e (by omega) (by assumption))) ?_)
      refine And.intro (And.intro (by first | assumption | exact b2i_R _ | exact rR (by omega) (by omega) | exact rR (by simp only [Int.toNat_natCast]; omega) (by simp only [Int.toNat_natCast]; omega)) (by first | assumption | exact b2i_R _ | exact rR (by omega) (by omega) | exact rR (by simp only [Int.toNat_natCast]; omega) (by simp only [Int.toNat_natCast]; omega))) (And.intro (fun q => ?_) (fun q => ?_))
      · have hn : ¬ a < len := by omega
        rw [if_neg hn] at hP2
        refine hA 10 _ rfl _ _ _ _ _ ?_
        refine And.intro (And.intro (by first | assumption | exact b2i_R _ | exact rR (by omega) (by omega) | exact rR (by simp only [Int.toNat_natCast]; omega) (by simp only [Int.toNat_natCast]; omega)) (by first | assumption | exact b2i_R _ | exact rR (by omega) (by omega) | exact rR (by simp only [Int.toNat_natCast]; omega) (by simp only [Int.toNat_natCast]; omega))) (And.intro (fun q => ?_) (fun q => ?_))
        · rw [if_neg (by omega)] at hP2
          refine hA 12 _ rfl _ _ _ _ _ ?_
          refine ⟨rfl, qf, ?_⟩
          rw [← hP2]
          exact ⟨⟨a0, st, ha0, q1⟩, qB⟩
        · rw [if_pos (by omega)] at hP2
          refine hA 11 _ rfl _ _ _ _ _ ?_
          refine Exists.intro _ (And.intro (by first | assumption | exact st_s | exact st_e (by decide) (by assumption) | exact st_e (by omega) (by assumption) | exact st_e (by decide) st_s | exact st_e (by omega) st_s | exact st_e (by decide) (st_e (by decide) (by assumption)) | exact st_e (by omega) (st_e (by omega) (by assumption))) ?_)
          refine Exists.intro _ (And.intro (by first | assumption | exact st_s | exact st_e (by decide) (by assumption) | exact st_e (by omega) (by assumption) | exact st_e (by decide) st_s | exact st_e (by omega) st_s | exact st_e (by decide) (st_e (by decide) (by assumption)) | exact st_e (by omega) (st_e (by omega) (by assumption))) ?_)
          refine Exists.intro _ (And.intro (by first | assumption | exact st_s | exact st_e (by decide) (by assumption) | exact st_e (by omega) (by assumption) | exact st_e (by decide) st_s | exact st_e (by omega) st_s | exact st_e (by decide) (st_e (by decide) (by assumption)) | exact st_e (by omega) (st_e (by omega) (by assumption))) ?_)
          refine Exists.intro _ (And.intro (by first | assumption | exact st_s | exact st_e (by decide) (by assumption) | exact st_e (by omega) (by assumption) | exact st_e (by decide) st_s | exact st_e (by omega) st_s | exact st_e (by decide) (st_e (by decide) (by assumption)) | exact st_e (by omega) (st_e (by omega) (by assumption))) (And.intro rfl (ab_inv_ev (c_fail q1 (rR (by omega) (by omega)) 7 len) (by first | decide | omega) (Nat.le_refl _) (Nat.le_refl _) ?_)))
          refine hA 12 _ rfl _ _ _ _ _ ?_
          exact ⟨rfl, fails 7 len _ (by decide) (rR (by decide) (by decide)) hP2.symm rfl⟩
      · have hn : a < len := by omega
        rw [if_pos hn] at hP2
        refine hA 2 _ rfl _ _ _ _ _ ?_
        refine Exists.intro _ (And.intro (by first | assumption | exact st_s | exact st_e (by decide) (by assumption) | exact st_e (by omega) (by assumption) | exact st_e (by decide) st_s | exact st_e (by omega) st_s | exact st_e (by decide) (st_e (by decide) (by assumption)) | exact st_e (by omega) (st_e (by omega) (by assumption))) ?_)
        refine Exists.intro _ (And.intro (by first | assumption | exact st_s | exact st_e (by decide) (by assumption) | exact st_e (by omega) (by assumption) | exact st_e (by decide) st_s | exact st_e (by omega) st_s | exact st_e (by decide) (st_e (by decide) (by assumption)) | exact st_e (by omega) (st_e (by omega) (by assumption))) ?_)
        refine And.intro (And.intro (by first | assumption | exact b2i_R _ | exact rR (by omega) (by omega) | exact rR (by simp only [Int.toNat_natCast]; omega) (by simp only [Int.toNat_natCast]; omega)) (by first | assumption | exact b2i_R _ | exact rR (by omega) (by omega) | exact rR (by simp only [Int.toNat_natCast]; omega) (by simp only [Int.toNat_natCast]; omega))) (And.intro (fun q => ?_) (fun q => ?_))
        · rw [if_neg (by omega)] at hP2
          have hfa := hf a
          have hfb := hf (a + 1)
          have hw : wrd2 f a < 65536 := by unfold wrd2; omega
          have e1 : ((a : Nat) : Int) + 1 = ((a + 1 : Nat) : Int) := by omega
          have e2 : f a * 256 + f (a + 1) = ((wrd2 f a : Nat) : Int) := by unfold wrd2; omega
          have hcv : wcov (wrd2 f a) ≤ 16384 := by unfold wcov; split <;> omega
          have e13 := an13 hw
          have k7 : ∀ z : Int, z = wcov (wrd2 f a) → At 7 [some (rf 28), some (rf h), some (.inl rows), some (.inl (gu rows)), some (.inl g), some (.inl w0), some (.inl a), some (.inl (wrd2 f a)), y8, y9] [.inl z] (ab_st σ (h + 1) (bmc m')) 0 0 := fun z hz => by
            subst hz
            have hFl := wfa_le rows g (wrd2 f a) w0
            refine hA 7 _ rfl _ _ _ _ _ ?_
            refine Exists.intro _ (And.intro (by first | assumption | exact st_s | exact st_e (by decide) (by assumption) | exact st_e (by omega) (by assumption) | exact st_e (by decide) st_s | exact st_e (by omega) st_s | exact st_e (by decide) (st_e (by decide) (by assumption)) | exact st_e (by omega) (st_e (by omega) (by assumption))) (And.intro rfl (ab_inv_ev (c_faultOf (wrd2 f a) w0 g hw hw0 (by omega) hr) (by first | decide | omega) (Nat.le_refl _) (Nat.le_refl _) ?_)))
            refine And.intro (by first | assumption | exact b2i_R _ | exact rR (by omega) (by omega) | exact rR (by simp only [Int.toNat_natCast]; omega) (by simp only [Int.toNat_natCast]; omega)) (And.intro (fun q => ?_) (fun q => ?_))
            · have q0 : wfa rows g (wrd2 f a) w0 = 0 := by
                have q : ((wfa rows g (wrd2 f a) w0 : Nat) : Int) = 0 := q
                omega
              rw [if_neg (by omega)] at hP2
              have hcov : g + wcov (wrd2 f a) ≤ gu rows := by
                rcases Nat.lt_or_ge (gu rows) (g + wcov (wrd2 f a)) with h9 | h9
                · exfalso
                  unfold wfa at q0
                  repeat' split at q0
                  all_goals omega
                · exact h9
              have qB1 := qB.1
              refine hA 9 _ rfl _ _ _ _ _ ?_
              refine Exists.intro _ (And.intro (by first | assumption | exact st_s | exact st_e (by decide) (by assumption) | exact st_e (by omega) (by assumption) | exact st_e (by decide) st_s | exact st_e (by omega) st_s | exact st_e (by decide) (st_e (by decide) (by assumption)) | exact st_e (by omega) (st_e (by omega) (by assumption))) (And.intro rfl (ab_inv_ev (c_putWord qB (wrd2 f a) g hw (by omega)) (by first | decide | omega) (Nat.le_refl _) (Nat.le_refl _) ?_)))
              rw [st_st]
              have e3 : ((a : Nat) : Int) + 2 = ((a + 2 : Nat) : Int) := by omega
              exact ih (a + 2) (g + wcov (wrd2 f a)) (wrd2 f a) _ _ _ _ (by omega) (by omega) hcov hw (fun i => by
                unfold put1
                split
                · exact wmsk_lt hw
                · exact hm' i) hP2
            · have q0 : wfa rows g (wrd2 f a) w0 ≠ 0 := by
                have q : ((wfa rows g (wrd2 f a) w0 : Nat) : Int) ≠ 0 := q
                omega
              rw [if_pos q0] at hP2
              refine hA 8 _ rfl _ _ _ _ _ ?_
              refine Exists.intro _ (And.intro (by first | assumption | exact st_s | exact st_e (by decide) (by assumption) | exact st_e (by omega) (by assumption) | exact st_e (by decide) st_s | exact st_e (by omega) st_s | exact st_e (by decide) (st_e (by decide) (by assumption)) | exact st_e (by omega) (st_e (by omega) (by assumption))) ?_)
              refine Exists.intro _ (And.intro (by first | assumption | exact st_s | exact st_e (by decide) (by assumption) | exact st_e (by omega) (by assumption) | exact st_e (by decide) st_s | exact st_e (by omega) st_s | exact st_e (by decide) (st_e (by decide) (by assumption)) | exact st_e (by omega) (st_e (by omega) (by assumption))) (And.intro rfl (ab_inv_ev (c_fail q1 (rR (by omega) (by omega)) (wfa rows g (wrd2 f a) w0) a) (by first | decide | omega) (Nat.le_refl _) (Nat.le_refl _) ?_)))
              exact ⟨rfl, fails _ _ _ (by omega) (rR (by omega) (by omega)) hP2.symm rfl⟩
          refine hA 4 _ rfl _ _ _ _ _ ?_
          refine Exists.intro _ (And.intro (q28) ?_)
          refine Exists.intro _ (And.intro (q1) ?_)
          refine Exists.intro _ (Exists.intro _ (And.intro (q2) (And.intro (by omega) ?_)))
          refine Exists.intro _ (And.intro (q28) ?_)
          refine Exists.intro _ (And.intro (q1) ?_)
          refine Exists.intro _ (Exists.intro _ (And.intro (q2) (And.intro (by omega) ?_)))
          rw [e1]
          simp only [Int.toNat_natCast]
          refine And.intro (And.intro (show ab_R (f a * 256 + f (a + 1)) by rw [e2]; exact rR (by omega) (by omega)) (show ab_R 32768 from rR (by decide) (by decide))) (And.intro (fun q3 => ?_) (fun q3 => ?_))
          · have q3 : f a * 256 + f (a + 1) < 32768 := q3
            rw [e2] at q3 ⊢
            refine hA 6 _ rfl _ _ _ _ _ ?_
            exact k7 1 (by unfold wcov; rw [if_pos (by omega)]; rfl)
          · have q3 : (32768 : Int) ≤ f a * 256 + f (a + 1) := q3
            rw [e2] at q3 ⊢
            refine hA 5 _ rfl _ _ _ _ _ ?_
            exact k7 _ (by rw [e13]; unfold wcov; rw [if_neg (by omega)])
        · rw [if_pos (by omega)] at hP2
          refine hA 3 _ rfl _ _ _ _ _ ?_
          refine Exists.intro _ (And.intro (by first | assumption | exact st_s | exact st_e (by decide) (by assumption) | exact st_e (by omega) (by assumption) | exact st_e (by decide) st_s | exact st_e (by omega) st_s | exact st_e (by decide) (st_e (by decide) (by assumption)) | exact st_e (by omega) (st_e (by omega) (by assumption))) ?_)
          refine Exists.intro _ (And.intro (by first | assumption | exact st_s | exact st_e (by decide) (by assumption) | exact st_e (by omega) (by assumption) | exact st_e (by decide) st_s | exact st_e (by omega) st_s | exact st_e (by decide) (st_e (by decide) (by assumption)) | exact st_e (by omega) (st_e (by omega) (by assumption))) (And.intro rfl (ab_inv_ev (c_fail q1 (rR (by omega) (by omega)) 1 a) (by first | decide | omega) (Nat.le_refl _) (Nat.le_refl _) ?_)))
          exact ⟨rfl, fails 1 a _ (by decide) (rR (by decide) (by decide)) hP2.symm rfl⟩
  refine hA 0 _ rfl _ _ _ _ _ ?_
  refine And.intro ⟨by omega, rR (by omega) (by omega), by omega, rR (by omega) (by omega)⟩ ?_
  have e0 : ((rows : Int) + 15 - 1) / 15 = ((gu rows : Nat) : Int) := by unfold gu; omega
  rw [e0]
  have := loop (len / 2 + 1) 0 0 0 m none none none (by omega) (by omega) (by omega) (by omega) hB.2.2 hP
  rw [st_id hB.2.1] at this
  exact this
end RInto
