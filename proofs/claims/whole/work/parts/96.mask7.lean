-- ===== the model: words loaded =====
/-- the scratch and the object while words are read -/
def LDS (σ : ab_H) (m : Nat → Nat) (t : Nat → Int) : ab_H := ab_st (ab_st σ 313 (bmc m)) 57 (m10 t)
section Mask7
variable {σ τ : ab_H} {cc rows : Nat} {K : Nat → CT} {va : Nat → Nat → Nat} {R : Nat → V1} {f : Nat → Int} {n : Nat} {pl : Int} {c : C3} {t : Nat → Int} {r : Nat → Nat} {th : Int}
theorem LDS_57 (m : Nat → Nat) (t : Nat → Int) : (LDS σ m t).2 57 = some (m10 t) := st_s
theorem LDS_313 (m : Nat → Nat) (t : Nat → Int) : (LDS σ m t).2 313 = some (bmc m) := st_e (by omega) st_s
theorem LDS_59 {x : ab_C} (h : σ.2 59 = some x) (m : Nat → Nat) (t : Nat → Int) : (LDS σ m t).2 59 = some x := st_e (by omega) (st_e (by omega) h)
theorem LDS_a (m : Nat → Nat) (t t' : Nat → Int) : ab_st (LDS σ m t) 57 (m10 t') = LDS σ m t' := st_st
theorem LDS_b (m m' : Nat → Nat) (t : Nat → Int) : ab_st (LDS σ m t) 313 (bmc m') = LDS σ m' t := by
  unfold LDS
  rw [st_3 (by omega), st_cm (by omega)]
theorem LDS_mi (hI : MI σ cc rows K va R f n pl c t r th) (m : Nat → Nat) {t' : Nat → Int} (h2 : t' 2 = 0) (h : ∀ j, j = 0 ∨ j = 12 ∨ j = 13 ∨ j = 24 ∨ j = 25 ∨ j = 26 → t' j = t j) : MI (LDS σ m t') cc rows K va R f 0 (t' 5) c t' r th := (hI.st (a := 313) (by omega) (by omega) (shp_bm (by omega) (by omega))).tp (by omega) h2 rfl h
set_option maxRecDepth 100000 in
set_option maxHeartbeats 1000000 in
theorem g_load (hI : MI σ cc rows K va R f n pl c t r th) (k x : Int) (hk : ab_R k) (hx : ab_R x) : ab_call 12 0 0 yX10_load [rf 57, .inl k, .inl x] σ (mdP σ (cc, rows, K, va, R, f, n, pl, c) r (fun i => (i : Int) + 1) (sg_load cc rows K va R f n c k x)) := by
  have q57 := hI.h57
  have hr := hI.hr
  have hcc := hI.hc
  have hgl := gu_le hr
  have hI0 := hI.uth 0
  have hf0 : fr mA σ (ab_st σ 57 (m10 (ab_up t 0 0))) := fr_st (by unfold mA; omega)
  generalize ht0 : ab_up t 0 0 = t0 at hI0 hf0
  generalize hs0 : ab_st σ 57 (m10 t0) = σ0 at hI0 hf0
  have p57 := hI0.h57
  have p58 := hI0.h58
  have p0 := hI0.t0
  have p2 := hI0.t2
  have p12 := hI0.t12
  have p13 := hI0.t13
  have hn4 := hI0.1.2.2.2.2.2
  refine eX10_load rfl (fun At hA => ?_)
  have gK1 : (0 ≤ k ∧ k ≤ 5) → At 3 [some (rf 57), some (.inl k), some (.inl x), none, none, none, none, none, none] [.inl 0, rf 57] σ0 0 0 := fun hP1 => by
    refine hA 3 _ rfl _ _ _ _ _ ?_
    refine Exists.intro _ (And.intro (by first | assumption | exact st_s | exact st_e (by decide) (by assumption) | exact st_e (by omega) (by assumption) | exact st_e (by decide) st_s | exact st_e (by omega) st_s | exact st_e (by decide) (st_e (by decide) (by assumption)) | exact st_e (by omega) (st_e (by omega) (by assumption))) (And.intro rfl (ab_inv_ev (m_bad0 p57 p0 1 0) (by first | decide | omega) (by first | exact Nat.le_refl _ | omega) (by first | exact Nat.le_refl _ | omega) ?_)))
    refine And.intro (by first | assumption | exact b2i_R _ | exact rR (by omega) (by omega) | exact rR (by simp only [Int.toNat_natCast]; omega) (by simp only [Int.toNat_natCast]; omega)) (And.intro (fun q => ?_) (fun q => ?_))
    · exact absurd rfl q
    · have gK2 : (0 ≤ x ∧ x ≤ n) → At 7 [some (rf 57), some (.inl k), some (.inl x), none, none, none, none, none, none] [.inl 0, rf 57] σ0 0 0 := fun hP2 => by
        refine hA 7 _ rfl _ _ _ _ _ ?_
        refine Exists.intro _ (And.intro (by first | assumption | exact st_s | exact st_e (by decide) (by assumption) | exact st_e (by omega) (by assumption) | exact st_e (by decide) st_s | exact st_e (by omega) st_s | exact st_e (by decide) (st_e (by decide) (by assumption)) | exact st_e (by omega) (st_e (by omega) (by assumption))) (And.intro rfl (ab_inv_ev (m_bad0 p57 p0 2 1) (by first | decide | omega) (by first | exact Nat.le_refl _ | omega) (by first | exact Nat.le_refl _ | omega) ?_)))
        refine And.intro (by first | assumption | exact b2i_R _ | exact rR (by omega) (by omega) | exact rR (by simp only [Int.toNat_natCast]; omega) (by simp only [Int.toNat_natCast]; omega)) (And.intro (fun q => ?_) (fun q => ?_))
        · obtain ⟨k', rfl⟩ : ∃ m : Nat, k = (m : Int) := ⟨k.toNat, by omega⟩
          obtain ⟨x', rfl⟩ : ∃ m : Nat, x = (m : Int) := ⟨x.toNat, by omega⟩
          have hby := hI0.1.2.2.2.2.1
          have hst := m_starts p57 (x' : Nat)
          have hM0 := stT_M t0 f x'
          have hsg : sg_load cc rows K va R f n c (k' : Nat) (x' : Nat) = match ldP f x' rows (x' / 2 + 1) 0 0 0 (fun _ => 0) with
              | .inl (u, v) => .inl (u - 10, (cc, rows, K, va, R, f, 0, v, c))
              | .inr m => .inl ((cnt (bit m) 1500 : Nat), (cc, rows, K, va, ab_up R k' m, f, 0, -1, c)) := by
            unfold sg_load
            rw [if_pos hP1, if_pos hP2, Int.toNat_natCast, Int.toNat_natCast, all1_0]
            cases ldP f x' rows (x' / 2 + 1) 0 0 0 (fun _ => 0) <;> rfl
          have hok : ∀ m', ldP f x' rows (x' / 2 + 1) 0 0 0 (fun _ => 0) = .inr m' → hi0 rows m' := fun m' h => by
            have := ldP_ok hby _ _ _ _ _ _ (Nat.zero_le _) (fun _ => (by decide : 0 < 32768)) (fun y _ => by unfold bit; exact Nat.zero_testBit _) h
            exact this
          generalize hLD : ldP f x' rows (x' / 2 + 1) 0 0 0 (fun _ => 0) = LD at hsg hok
          have h59 := hI0.h59
          obtain ⟨g313, h313⟩ := hI0.sc.bm (a := 313) (by omega) (by omega)
          have hU0 : MU (ab_up (stT t0 (x' : Nat)) 4 0) (ab_up (stT t0 (x' : Nat)) 4 0) := MU.rf _
          have hMu : MT (ab_up (stT t0 (x' : Nat)) 4 0) f x' (.inr 0) := ⟨by rw [ab_up_n (by omega)]; exact hM0.1, Nat.zero_le _, by rw [ab_up_n (by omega)]; exact hM0.2.2.1, by rw [ab_up_n (by omega)]; exact hM0.2.2.2.1, 0, Nat.zero_le _, rfl, ab_up_s⟩
          have u4 : ab_up (stT t0 (x' : Nat)) 4 0 4 = ((0 : Nat) : Int) := ab_up_s
          have u2 : ab_up (stT t0 (x' : Nat)) 4 0 2 = 0 := by rw [ab_up_n (by omega)]; rfl
          have hu : ∀ j, j = 0 ∨ j = 12 ∨ j = 13 ∨ j = 24 ∨ j = 25 ∨ j = 26 → ab_up (stT t0 (x' : Nat)) 4 0 j = t0 j := fun j hj => by rw [ab_up_n (by omega)]; exact stT_e (by omega)
          have eS : ab_st (ab_st (ab_st σ0 57 (m10 (stT t0 (x' : Nat)))) 313 (bmc (fun _ => 0))) 57 (m10 (ab_up (stT t0 (x' : Nat)) 4 0)) = LDS σ0 (fun _ => 0) (ab_up (stT t0 (x' : Nat)) 4 0) := by
            unfold LDS
            rw [st_3 (by omega)]
          have v57 : (ab_st (ab_st σ0 57 (m10 (stT t0 (x' : Nat)))) 313 (bmc (fun _ => 0))).2 57 = some (m10 (stT t0 (x' : Nat))) := st_e (by omega) st_s
          have w57 : (ab_st σ0 57 (m10 (stT t0 (x' : Nat)))).2 57 = some (m10 (stT t0 (x' : Nat))) := st_s
          have hem := m_empties (σ := ab_st σ0 57 (m10 (stT t0 (x' : Nat)))) (c := 313) (st_e (by omega) h313)
          have fS : ∀ (m : Nat → Nat) (t' : Nat → Int), fr mA σ (LDS σ0 m t') := fun m t' => (hf0.st (by unfold mA; omega)).st (by unfold mA; omega)
          have last : ∀ (u : Nat → Int), MU u u → u 2 = 0 → (∀ j, j = 0 ∨ j = 12 ∨ j = 13 ∨ j = 24 ∨ j = 25 ∨ j = 26 → u j = t0 j) → MT u f x' (.inr 0) → u 4 = ((0 : Nat) : Int) → At 10 [some (rf 57), some (.inl k'), some (.inl x'), some (.inl 0), some (.inl 0), none, none, none, none] [] (LDS σ0 (fun _ => 0) u) 0 0 := fun u _ u2 hu hMu u4 => by
            have hmi : ∀ (m : Nat → Nat) (t' : Nat → Int), MU u t' → MI (LDS σ0 m t') cc rows K va R f 0 (t' 5) c t' r 0 := fun m t' hU => LDS_mi hI0 m ((hU 2 (by omega) (by omega) (by omega)).trans u2) (fun j hj => (hU j (by omega) (by omega) (by omega)).trans (hu j hj))
            have fin34F : ∀ (m : Nat → Nat) (t' : Nat → Int) (u9 v9 : Int) (y3 y4 y5 y6 y7 y8 : Option ab_V), MT t' f x' (.inl (u9, v9)) → MU u t' → LD = .inl (u9, v9) → At 34 [some (rf 57), some (.inl k'), some (.inl x'), y3, y4, y5, y6, y7, y8] [] (LDS σ0 m t') 0 0 := fun m t' u9 v9 y3 y4 y5 y6 y7 y8 hM hU e => by
              rw [e] at hsg
              have hJ0 := hmi m t' hU
              have c57 := LDS_57 (σ := σ0) m t'
              have c72 := hJ0.h72
              have hfi := m_fine c57 hM
              have hma := m_many2 c57 hJ0.t13 hr (hJ0.rs (k := k') (by omega)) (hJ0.hR (by omega))
              have hen := m_ends c57 hM (cnt (bit (R k')) 1500)
              rw [if_neg (show ¬ isR (.inl (u9, v9)) = true from Bool.false_ne_true)] at hen
              have hJ := hJ0.tp (t' := ab_up t' 5 (t' 7)) (n' := 0) (pl' := v9) (by omega) (by rw [ab_up_n (by omega)]; exact hJ0.t2) (by rw [ab_up_s]; exact hM.2.2.2.2.1) (fun j hj => ab_up_n (by omega))
              refine hA 34 _ rfl _ _ _ _ _ ?_
              refine Exists.intro _ (And.intro (by first | assumption | exact st_s | exact st_e (by decide) (by assumption) | exact st_e (by omega) (by assumption) | exact st_e (by decide) st_s | exact st_e (by omega) st_s | exact st_e (by decide) (st_e (by decide) (by assumption)) | exact st_e (by omega) (st_e (by omega) (by assumption))) (And.intro rfl (ab_inv_ev hfi (by first | decide | omega) (by first | exact Nat.le_refl _ | omega) (by first | exact Nat.le_refl _ | omega) ?_)))
              refine And.intro (by first | assumption | exact b2i_R _ | exact rR (by omega) (by omega) | exact rR (by simp only [Int.toNat_natCast]; omega) (by simp only [Int.toNat_natCast]; omega)) (And.intro (fun q => ?_) (fun q => ?_))
              · refine hA 36 _ rfl _ _ _ _ _ ?_
                refine Exists.intro _ (And.intro (c57) ?_)
                refine Exists.intro _ (Exists.intro _ (And.intro (c72) (And.intro (by omega) ?_)))
                refine Exists.intro _ (And.intro c57 (And.intro rfl (ab_inv_ev hma (by first | decide | omega) (by first | exact Nat.le_refl _ | omega) (by first | exact Nat.le_refl _ | omega) ?_)))
                refine Exists.intro _ (And.intro c57 (And.intro rfl (ab_inv_ev hen (by first | decide | omega) (by first | exact Nat.le_refl _ | omega) (by first | exact Nat.le_refl _ | omega) ?_)))
                exact md_ok (S := (cc, rows, K, va, R, f, n, pl, c)) (e := fun i => (i : Int) + 1) hsg (by rw [hM.2.2.2.1]) ((fS m t').st (by unfold mA; omega)) hJ
              · exact absurd rfl q
            have fin34R : ∀ (m : Nat → Nat) (t' : Nat → Int) (a9 : Nat) (y3 y4 y5 y6 y7 y8 : Option ab_V), MT t' f x' (.inr a9) → MU u t' → LD = .inr m → At 34 [some (rf 57), some (.inl k'), some (.inl x'), y3, y4, y5, y6, y7, y8] [] (LDS σ0 m t') 0 0 := fun m t' a9 y3 y4 y5 y6 y7 y8 hM hU e => by
              have hhi := hok m e
              rw [e] at hsg
              have hJ0 := hmi m t' hU
              have c57 := LDS_57 (σ := σ0) m t'
              have c313 := LDS_313 (σ := σ0) m t'
              have c72 := hJ0.h72
              have hfi := m_fine c57 hM
              have hcp := m_copies (hJ0.rs (k := k') (by omega)) c313
              have hJ1 := hJ0.res (k := k') (by omega) hhi
              have d73 : (ab_st (LDS σ0 m t') (73 + k') (bmc m)).2 (73 + k') = some (bmc m) := st_s
              have f73 : fr mA σ (ab_st (LDS σ0 m t') (73 + k') (bmc m)) := (fS m t').st (by unfold mA; omega)
              generalize ab_st (LDS σ0 m t') (73 + k') (bmc m) = σ3 at hcp hJ1 d73 f73
              have d57 := hJ1.h57
              have d72 := hJ1.h72
              have hma := m_many2 d57 hJ1.t13 hr d73 hhi
              have hen := m_ends d57 hM (cnt (bit m) 1500)
              rw [if_pos (show isR (.inr a9) = true from rfl)] at hen
              have hJ := hJ1.tp (t' := ab_up t' 5 (t' 7)) (n' := 0) (pl' := -1) (by omega) (by rw [ab_up_n (by omega)]; exact hJ1.t2) (by rw [ab_up_s]; exact hM.2.2.2.1) (fun j hj => ab_up_n (by omega))
              refine hA 34 _ rfl _ _ _ _ _ ?_
              refine Exists.intro _ (And.intro (by first | assumption | exact st_s | exact st_e (by decide) (by assumption) | exact st_e (by omega) (by assumption) | exact st_e (by decide) st_s | exact st_e (by omega) st_s | exact st_e (by decide) (st_e (by decide) (by assumption)) | exact st_e (by omega) (st_e (by omega) (by assumption))) (And.intro rfl (ab_inv_ev hfi (by first | decide | omega) (by first | exact Nat.le_refl _ | omega) (by first | exact Nat.le_refl _ | omega) ?_)))
              refine And.intro (by first | assumption | exact b2i_R _ | exact rR (by omega) (by omega) | exact rR (by simp only [Int.toNat_natCast]; omega) (by simp only [Int.toNat_natCast]; omega)) (And.intro (fun q => ?_) (fun q => ?_))
              · exact absurd (show (1 : Int) = 0 from q) (by decide)
              · refine hA 35 _ rfl _ _ _ _ _ ?_
                refine Exists.intro _ (And.intro (c57) ?_)
                refine Exists.intro _ (And.intro (c57) ?_)
                refine Exists.intro _ (Exists.intro _ (And.intro (c72) (And.intro (by omega) ?_)))
                refine And.intro rfl (ab_inv_ev hcp (by first | decide | omega) (by first | exact Nat.le_refl _ | omega) (by first | exact Nat.le_refl _ | omega) ?_)
                refine hA 36 _ rfl _ _ _ _ _ ?_
                refine Exists.intro _ (And.intro (d57) ?_)
                refine Exists.intro _ (Exists.intro _ (And.intro (d72) (And.intro (by omega) ?_)))
                refine Exists.intro _ (And.intro d57 (And.intro rfl (ab_inv_ev hma (by first | decide | omega) (by first | exact Nat.le_refl _ | omega) (by first | exact Nat.le_refl _ | omega) ?_)))
                refine Exists.intro _ (And.intro d57 (And.intro rfl (ab_inv_ev hen (by first | decide | omega) (by first | exact Nat.le_refl _ | omega) (by first | exact Nat.le_refl _ | omega) ?_)))
                exact md_ok (S := (cc, rows, K, va, R, f, n, pl, c)) (e := fun i => (i : Int) + 1) hsg rfl (f73.st (by unfold mA; omega)) hJ
            have fin32F : ∀ (m : Nat → Nat) (t' : Nat → Int) (u9 v9 : Int) (g : Nat) (y4 y5 y6 y7 y8 : Option ab_V), g ≤ 100 → MT t' f x' (.inl (u9, v9)) → MU u t' → LD = .inl (u9, v9) → At 32 [some (rf 57), some (.inl k'), some (.inl x'), some (.inl g), y4, y5, y6, y7, y8] [] (LDS σ0 m t') 0 0 := fun m t' u9 v9 g y4 y5 y6 y7 y8 hg hM hU e => by
              have hJ0 := hmi m t' hU
              have c57 := LDS_57 (σ := σ0) m t'
              have hgr := m_groups c57 hJ0.t13 hr
              have hw := m_wrong c57 hM.fault.1 7 (x' : Nat)
              rw [LDS_a] at hw
              have hMw : MT (wrT t' 7 (x' : Nat)) f x' (.inl (u9, v9)) := MT.wr hM 7 (x' : Nat) (by omega) (rR (by omega) (by omega))
              have kA := fin34F m t' u9 v9 (some (.inl g)) y4 y5 y6 y7 y8 hM hU e
              have kB := fin34F m (wrT t' 7 (x' : Nat)) u9 v9 (some (.inl g)) y4 y5 y6 y7 y8 hMw (hU.wr _ _) e
              refine hA 32 _ rfl _ _ _ _ _ ?_
              refine Exists.intro _ (And.intro (by first | assumption | exact st_s | exact st_e (by decide) (by assumption) | exact st_e (by omega) (by assumption) | exact st_e (by decide) st_s | exact st_e (by omega) st_s | exact st_e (by decide) (st_e (by decide) (by assumption)) | exact st_e (by omega) (st_e (by omega) (by assumption))) (And.intro rfl (ab_inv_ev hgr (by first | decide | omega) (by first | exact Nat.le_refl _ | omega) (by first | exact Nat.le_refl _ | omega) ?_)))
              refine And.intro (And.intro (by first | assumption | exact b2i_R _ | exact rR (by omega) (by omega) | exact rR (by simp only [Int.toNat_natCast]; omega) (by simp only [Int.toNat_natCast]; omega)) (by first | assumption | exact b2i_R _ | exact rR (by omega) (by omega) | exact rR (by simp only [Int.toNat_natCast]; omega) (by simp only [Int.toNat_natCast]; omega))) (And.intro (fun q => ?_) (fun q => ?_))
              · exact kA
              · refine hA 33 _ rfl _ _ _ _ _ ?_
                refine Exists.intro _ (And.intro (by first | assumption | exact st_s | exact st_e (by decide) (by assumption) | exact st_e (by omega) (by assumption) | exact st_e (by decide) st_s | exact st_e (by omega) st_s | exact st_e (by decide) (st_e (by decide) (by assumption)) | exact st_e (by omega) (st_e (by omega) (by assumption))) (And.intro rfl (ab_inv_ev hw (by first | decide | omega) (by first | exact Nat.le_refl _ | omega) (by first | exact Nat.le_refl _ | omega) ?_)))
                exact kB
            have loop : ∀ (k9 a g w0 : Nat) (m : Nat → Nat) (t' : Nat → Int) (y5 y6 y7 y8 : Option ab_V), x' + 1 ≤ a + 2 * k9 → a ≤ x' → g ≤ gu rows → w0 < 65536 → MT t' f x' (.inr a) → t' 4 = (a : Nat) → MU u t' → ldP f x' rows k9 a g w0 m = LD → At 10 [some (rf 57), some (.inl k'), some (.inl x'), some (.inl g), some (.inl w0), y5, y6, y7, y8] [] (LDS σ0 m t') 0 0 := by
              intro k9
              induction k9 with
              | zero => intro a g w0 m t' y5 y6 y7 y8 h1 h2; omega
              | succ k9 ih =>
                intro a g w0 m t' y5 y6 y7 y8 h1 h2 hg hw0 hM ht4 hU hl
                have hJ0 := hmi m t' hU
                have c57 := LDS_57 (σ := σ0) m t'
                have hfi := m_fine c57 hM
                have hgr := m_groups c57 hJ0.t13 hr
                unfold ldP at hl
                refine hA 10 _ rfl _ _ _ _ _ ?_
                refine Exists.intro _ (And.intro (by first | assumption | exact st_s | exact st_e (by decide) (by assumption) | exact st_e (by omega) (by assumption) | exact st_e (by decide) st_s | exact st_e (by omega) st_s | exact st_e (by decide) (st_e (by decide) (by assumption)) | exact st_e (by omega) (st_e (by omega) (by assumption))) ?_)
                refine And.intro (And.intro (by first | assumption | exact b2i_R _ | exact rR (by omega) (by omega) | exact rR (by simp only [Int.toNat_natCast]; omega) (by simp only [Int.toNat_natCast]; omega)) (by first | assumption | exact b2i_R _ | exact rR (by omega) (by omega) | exact rR (by simp only [Int.toNat_natCast]; omega) (by simp only [Int.toNat_natCast]; omega))) (And.intro (fun q => ?_) (fun q => ?_))
                · have ha : ¬ a < x' := by omega
                  rw [if_neg ha] at hl
                  have ha : a = x' := by omega
                  refine hA 32 _ rfl _ _ _ _ _ ?_
                  refine Exists.intro _ (And.intro (by first | assumption | exact st_s | exact st_e (by decide) (by assumption) | exact st_e (by omega) (by assumption) | exact st_e (by decide) st_s | exact st_e (by omega) st_s | exact st_e (by decide) (st_e (by decide) (by assumption)) | exact st_e (by omega) (st_e (by omega) (by assumption))) (And.intro rfl (ab_inv_ev hgr (by first | decide | omega) (by first | exact Nat.le_refl _ | omega) (by first | exact Nat.le_refl _ | omega) ?_)))
                  refine And.intro (And.intro (by first | assumption | exact b2i_R _ | exact rR (by omega) (by omega) | exact rR (by simp only [Int.toNat_natCast]; omega) (by simp only [Int.toNat_natCast]; omega)) (by first | assumption | exact b2i_R _ | exact rR (by omega) (by omega) | exact rR (by simp only [Int.toNat_natCast]; omega) (by simp only [Int.toNat_natCast]; omega))) (And.intro (fun q => ?_) (fun q => ?_))
                  · rw [if_neg (by omega)] at hl
                    exact fin34R m t' a _ _ _ _ _ _ hM hU hl.symm
                  · rw [if_pos (by omega)] at hl
                    have hw := m_wrong c57 hM.fault.1 7 (x' : Nat)
                    rw [LDS_a] at hw
                    have hMw : MT (wrT t' 7 (x' : Nat)) f x' (.inl (7, (x' : Nat))) := MT.wr hM 7 (x' : Nat) (by omega) (rR (by omega) (by omega))
                    have kB := fin34F m (wrT t' 7 (x' : Nat)) _ _ (some (.inl g)) (some (.inl w0)) y5 y6 y7 y8 hMw (hU.wr _ _) hl.symm
                    refine hA 33 _ rfl _ _ _ _ _ ?_
                    refine Exists.intro _ (And.intro (by first | assumption | exact st_s | exact st_e (by decide) (by assumption) | exact st_e (by omega) (by assumption) | exact st_e (by decide) st_s | exact st_e (by omega) st_s | exact st_e (by decide) (st_e (by decide) (by assumption)) | exact st_e (by omega) (st_e (by omega) (by assumption))) (And.intro rfl (ab_inv_ev hw (by first | decide | omega) (by first | exact Nat.le_refl _ | omega) (by first | exact Nat.le_refl _ | omega) ?_)))
                    exact kB
                · have ha : a < x' := by omega
                  rw [if_pos ha] at hl
                  -- a fault at this word
                  have flt : ∀ (z : Int) (y5 y6 y7 y8 : Option ab_V), z ≠ 0 → ab_R z → (.inl (z, (a : Nat)) : (Int × Int) ⊕ (Nat → Nat)) = LD → MT (wrT t' z (a : Nat)) f x' (.inl (z, (a : Nat))) ∧ (∀ y5 y6 y7 y8 : Option ab_V, At 32 [some (rf 57), some (.inl k'), some (.inl x'), some (.inl g), some (.inl w0), y5, y6, y7, y8] [] (LDS σ0 m (wrT t' z (a : Nat))) 0 0) := fun z y5 y6 y7 y8 hz hzR e => by
                    have hMw : MT (wrT t' z (a : Nat)) f x' (.inl (z, (a : Nat))) := MT.wr hM z (a : Nat) hz hzR
                    exact ⟨hMw, fun y5 y6 y7 y8 => fin32F m _ z (a : Nat) g _ y5 y6 y7 y8 (by omega) hMw (hU.wr _ _) e.symm⟩
                  refine hA 11 _ rfl _ _ _ _ _ ?_
                  refine Exists.intro _ (And.intro (by first | assumption | exact st_s | exact st_e (by decide) (by assumption) | exact st_e (by omega) (by assumption) | exact st_e (by decide) st_s | exact st_e (by omega) st_s | exact st_e (by decide) (st_e (by decide) (by assumption)) | exact st_e (by omega) (st_e (by omega) (by assumption))) (And.intro rfl (ab_inv_ev hfi (by first | decide | omega) (by first | exact Nat.le_refl _ | omega) (by first | exact Nat.le_refl _ | omega) ?_)))
                  refine And.intro (by first | assumption | exact b2i_R _ | exact rR (by omega) (by omega) | exact rR (by simp only [Int.toNat_natCast]; omega) (by simp only [Int.toNat_natCast]; omega)) (And.intro (fun q => ?_) (fun q => ?_))
                  · exact absurd (show (1 : Int) = 0 from q) (by decide)
                  · refine hA 12 _ rfl _ _ _ _ _ ?_
                    refine Exists.intro _ (And.intro (by first | assumption | exact st_s | exact st_e (by decide) (by assumption) | exact st_e (by omega) (by assumption) | exact st_e (by decide) st_s | exact st_e (by omega) st_s | exact st_e (by decide) (st_e (by decide) (by assumption)) | exact st_e (by omega) (st_e (by omega) (by assumption))) ?_)
                    refine And.intro (And.intro (by first | assumption | exact b2i_R _ | exact rR (by omega) (by omega) | exact rR (by simp only [Int.toNat_natCast]; omega) (by simp only [Int.toNat_natCast]; omega)) (by first | assumption | exact b2i_R _ | exact rR (by omega) (by omega) | exact rR (by simp only [Int.toNat_natCast]; omega) (by simp only [Int.toNat_natCast]; omega))) (And.intro (fun q => ?_) (fun q => ?_))
                    · have ha2 : ¬ x' ≤ a + 1 := by omega
                      rw [if_neg ha2] at hl
                      have hfa := hby a
                      have hfb := hby (a + 1)
                      have hw : wrd2 f a < 65536 := by unfold wrd2; omega
                      have e1 : ((a : Nat) : Int) + 1 = ((a + 1 : Nat) : Int) := by omega
                      have e2 : 256 * f (t' 4).toNat + f (t' 4 + 1).toNat = ((wrd2 f a : Nat) : Int) := by
                        rw [ht4, e1]
                        simp only [Int.toNat_natCast]
                        unfold wrd2
                        omega
                      have hFl := wfa_le rows g (wrd2 f a) w0
                      have hcov : wfa rows g (wrd2 f a) w0 = 0 → g + wcov (wrd2 f a) ≤ gu rows := fun q0 => by
                        rcases Nat.lt_or_ge (gu rows) (g + wcov (wrd2 f a)) with h9 | h9
                        · exfalso
                          unfold wfa at q0
                          repeat' split at q0
                          all_goals omega
                        · exact h9
                      have hwo := m_wrongOf c57 hJ0.t13 hr (wrd2 f a) g w0 hw hw0 hg
                      have hgl := gu_le hr
                      have c59 := LDS_59 h59 m t'
                      generalize wfa rows g (wrd2 f a) w0 = F at hl hwo hFl hcov
                      generalize wrd2 f a = w at hl hwo hcov hw e2
                      have hcl : wcov w ≤ 16384 := by unfold wcov; split <;> omega
                      have hzl := wmsk_lt hw
                      have k20 : F = 0 → ∀ y7 y8 : Option ab_V, At 20 [some (rf 57), some (.inl k'), some (.inl x'), some (.inl g), some (.inl w0), some (.inl w), some (.inl F), y7, y8] [] (LDS σ0 m t') 0 0 := fun hF y7 y8 => by
                        rw [if_neg (by omega)] at hl
                        have hcov := hcov hF
                        have e14 := an14 hw
                        have e13 := an13 hw
                        have k24 : ∀ (q9 j : Nat), j + q9 = wcov w → At 24 [some (rf 57), some (.inl k'), some (.inl x'), some (.inl g), some (.inl w0), some (.inl w), some (.inl F), some (.inl (wcov w : Nat)), some (.inl j)] [] (LDS σ0 (put1 m g j (wmsk w)) t') 0 0 := by
                          intro q9
                          induction q9 with
                          | zero =>
                            intro j hj
                            have ej : j = wcov w := by omega
                            subst ej
                            have b57 := LDS_57 (σ := σ0) (put1 m g (wcov w) (wmsk w)) t'
                            have hn := ih (a + 2) (g + wcov w) w (put1 m g (wcov w) (wmsk w)) (ab_up t' 4 ((a + 2 : Nat) : Int)) (some (.inl w)) (some (.inl F)) (some (.inl (wcov w : Nat))) (some (.inl (wcov w : Nat))) (by omega) (by omega) hcov hw ⟨by rw [ab_up_n (by omega)]; exact hM.1, by omega, by rw [ab_up_n (by omega)]; exact hM.2.2.1, by rw [ab_up_n (by omega)]; exact hM.2.2.2.1, a + 2, by omega, rfl, ab_up_s⟩ ab_up_s (hU.a4 _) hl
                            have eg : ((g : Nat) : Int) + ((wcov w : Nat) : Int) = ((g + wcov w : Nat) : Int) := by omega
                            have ea : t' 4 + 2 = ((a + 2 : Nat) : Int) := by omega
                            refine hA 24 _ rfl _ _ _ _ _ ?_
                            refine And.intro (And.intro (by first | assumption | exact b2i_R _ | exact rR (by omega) (by omega) | exact rR (by simp only [Int.toNat_natCast]; omega) (by simp only [Int.toNat_natCast]; omega)) (by first | assumption | exact b2i_R _ | exact rR (by omega) (by omega) | exact rR (by simp only [Int.toNat_natCast]; omega) (by simp only [Int.toNat_natCast]; omega))) (And.intro (fun q => ?_) (fun q => ?_))
                            · refine hA 31 _ rfl _ _ _ _ _ ?_
                              refine Exists.intro _ (And.intro (by first | assumption | exact st_s | exact st_e (by decide) (by assumption) | exact st_e (by omega) (by assumption) | exact st_e (by decide) st_s | exact st_e (by omega) st_s | exact st_e (by decide) (st_e (by decide) (by assumption)) | exact st_e (by omega) (st_e (by omega) (by assumption))) ?_)
                              refine Exists.intro _ (And.intro (by first | assumption | exact st_s | exact st_e (by decide) (by assumption) | exact st_e (by omega) (by assumption) | exact st_e (by decide) st_s | exact st_e (by omega) st_s | exact st_e (by decide) (st_e (by decide) (by assumption)) | exact st_e (by omega) (st_e (by omega) (by assumption))) ?_)
                              rw [m10_s4, LDS_a, ea, eg]
                              exact hn
                            · omega
                          | succ q9 ih2 =>
                            intro j hj
                            have b57 := LDS_57 (σ := σ0) (put1 m g j (wmsk w)) t'
                            have b313 := LDS_313 (σ := σ0) (put1 m g j (wmsk w)) t'
                            have k30 : ∀ z i : Int, z = (wmsk w : Nat) → i = (g + j : Nat) → At 30 [some (rf 57), some (.inl k'), some (.inl x'), some (.inl g), some (.inl w0), some (.inl w), some (.inl F), some (.inl (wcov w : Nat)), some (.inl j)] [.inl z, .inl i, rf 313] (LDS σ0 (put1 m g j (wmsk w)) t') 0 0 := fun z i hz hi => by
                              subst hz hi
                              have eu : ab_up (put1 m g j (wmsk w)) (g + j) (wmsk w) = put1 m g (j + 1) (wmsk w) := by
                                funext i
                                unfold ab_up put1
                                by_cases h : i = g + j
                                · rw [if_pos h, if_pos (by omega)]
                                · rw [if_neg h]
                                  by_cases h2 : g ≤ i ∧ i < g + j
                                  · rw [if_pos h2, if_pos (by omega)]
                                  · rw [if_neg h2, if_neg (by omega)]
                              have es : ab_st (LDS σ0 (put1 m g j (wmsk w)) t') 313 (.inr (.inl (0, 100, ab_up (fun y => ((put1 m g j (wmsk w) y : Nat) : Int)) (g + j) ((wmsk w : Nat) : Int)))) = LDS σ0 (put1 m g (j + 1) (wmsk w)) t' := by
                                rw [ints_up 100 (put1 m g j (wmsk w)) (g + j) (wmsk w), LDS_b, eu]
                              have hn := ih2 (j + 1) (by omega)
                              rw [← es] at hn
                              have ej : ((j : Nat) : Int) + 1 = ((j + 1 : Nat) : Int) := by omega
                              rw [← ej] at hn
                              refine hA 30 _ rfl _ _ _ _ _ ?_
                              refine Exists.intro _ (Exists.intro _ (And.intro (b313) (And.intro (by omega) ?_)))
                              rw [Int.toNat_natCast]
                              exact hn
                            have eg : ((g : Nat) : Int) + ((j : Nat) : Int) = ((g + j : Nat) : Int) := by omega
                            refine hA 24 _ rfl _ _ _ _ _ ?_
                            refine And.intro (And.intro (by first | assumption | exact b2i_R _ | exact rR (by omega) (by omega) | exact rR (by simp only [Int.toNat_natCast]; omega) (by simp only [Int.toNat_natCast]; omega)) (by first | assumption | exact b2i_R _ | exact rR (by omega) (by omega) | exact rR (by simp only [Int.toNat_natCast]; omega) (by simp only [Int.toNat_natCast]; omega))) (And.intro (fun q => ?_) (fun q => ?_))
                            · omega
                            · refine hA 25 _ rfl _ _ _ _ _ ?_
                              refine Exists.intro _ (And.intro (b57) ?_)
                              refine And.intro (And.intro (rR (by omega) (by omega)) (show ab_R 32768 from rR (by decide) (by decide))) (And.intro (fun q => ?_) (fun q => ?_))
                              · have q : (32768 : Int) ≤ ((w : Nat) : Int) := q
                                refine hA 27 _ rfl _ _ _ _ _ ?_
                                refine And.intro (show ab_R (ab_and (w : Int) 16384) by rw [e14]; exact rR (by omega) (by omega)) (And.intro (fun q2 => ?_) (fun q2 => ?_))
                                · have q2 : ab_and (w : Int) 16384 = 0 := q2
                                  rw [e14] at q2
                                  refine hA 29 _ rfl _ _ _ _ _ ?_
                                  exact k30 0 _ (by unfold wmsk; rw [if_neg (by omega), if_neg (by omega)]; rfl) eg
                                · have q2 : ab_and (w : Int) 16384 ≠ 0 := q2
                                  rw [e14] at q2
                                  have hm2 : w / 16384 % 2 < 2 := Nat.mod_lt _ (by decide)
                                  refine hA 28 _ rfl _ _ _ _ _ ?_
                                  exact k30 32767 _ (by unfold wmsk; rw [if_neg (by omega), if_pos (by omega)]; rfl) eg
                              · have q : ((w : Nat) : Int) < 32768 := q
                                refine hA 26 _ rfl _ _ _ _ _ ?_
                                exact k30 w _ (by unfold wmsk; rw [if_pos (by omega)]) eg
                        have k23 : ∀ z : Int, z = (wcov w : Nat) → At 23 [some (rf 57), some (.inl k'), some (.inl x'), some (.inl g), some (.inl w0), some (.inl w), some (.inl F), y7, y8] [.inl z] (LDS σ0 m t') 0 0 := fun z hz => by
                          subst hz
                          have hn := k24 (wcov w) 0 (by omega)
                          rw [show put1 m g 0 (wmsk w) = m from funext fun i => if_neg (by omega)] at hn
                          refine hA 23 _ rfl _ _ _ _ _ ?_
                          exact hn
                        refine hA 20 _ rfl _ _ _ _ _ ?_
                        refine And.intro (And.intro (rR (by omega) (by omega)) (show ab_R 32768 from rR (by decide) (by decide))) (And.intro (fun q => ?_) (fun q => ?_))
                        · have q : (32768 : Int) ≤ ((w : Nat) : Int) := q
                          refine hA 22 _ rfl _ _ _ _ _ ?_
                          exact k23 _ (by rw [e13]; unfold wcov; rw [if_neg (by omega)])
                        · have q : ((w : Nat) : Int) < 32768 := q
                          refine hA 21 _ rfl _ _ _ _ _ ?_
                          exact k23 1 (by unfold wcov; rw [if_pos (by omega)]; rfl)
                      have k17 : F ≠ 0 → ∀ y7 y8 : Option ab_V, At 17 [some (rf 57), some (.inl k'), some (.inl x'), some (.inl g), some (.inl w0), some (.inl w), some (.inl F), y7, y8] [] (LDS σ0 m t') 0 0 := fun hF y7 y8 => by
                        rw [if_pos hF] at hl
                        have k := flt (F : Nat) none none none none (by omega) (rR (by omega) (by omega)) hl
                        have hMw := k.1
                        have k2 := k.2 (some (.inl w)) (some (.inl F)) y7 y8
                        rw [← ht4] at hMw k2
                        have hw17 := m_wrong c57 hM.fault.1 (F : Nat) (t' 4)
                        rw [LDS_a] at hw17
                        have d57 := LDS_57 (σ := σ0) m (wrT t' (F : Nat) (t' 4))
                        have hfi2 := m_fine d57 hMw
                        refine hA 17 _ rfl _ _ _ _ _ ?_
                        refine Exists.intro _ (And.intro (by first | assumption | exact st_s | exact st_e (by decide) (by assumption) | exact st_e (by omega) (by assumption) | exact st_e (by decide) st_s | exact st_e (by omega) st_s | exact st_e (by decide) (st_e (by decide) (by assumption)) | exact st_e (by omega) (st_e (by omega) (by assumption))) ?_)
                        refine Exists.intro _ (And.intro (by first | assumption | exact st_s | exact st_e (by decide) (by assumption) | exact st_e (by omega) (by assumption) | exact st_e (by decide) st_s | exact st_e (by omega) st_s | exact st_e (by decide) (st_e (by decide) (by assumption)) | exact st_e (by omega) (st_e (by omega) (by assumption))) (And.intro rfl (ab_inv_ev hw17 (by first | decide | omega) (by first | exact Nat.le_refl _ | omega) (by first | exact Nat.le_refl _ | omega) ?_)))
                        refine hA 18 _ rfl _ _ _ _ _ ?_
                        refine Exists.intro _ (And.intro (by first | assumption | exact st_s | exact st_e (by decide) (by assumption) | exact st_e (by omega) (by assumption) | exact st_e (by decide) st_s | exact st_e (by omega) st_s | exact st_e (by decide) (st_e (by decide) (by assumption)) | exact st_e (by omega) (st_e (by omega) (by assumption))) (And.intro rfl (ab_inv_ev hfi2 (by first | decide | omega) (by first | exact Nat.le_refl _ | omega) (by first | exact Nat.le_refl _ | omega) ?_)))
                        refine And.intro (by first | assumption | exact b2i_R _ | exact rR (by omega) (by omega) | exact rR (by simp only [Int.toNat_natCast]; omega) (by simp only [Int.toNat_natCast]; omega)) (And.intro (fun q => ?_) (fun q => ?_))
                        · exact absurd rfl q
                        · refine hA 19 _ rfl _ _ _ _ _ ?_
                          exact k2
                      have k16 : ∀ z : Int, z = (w : Nat) → ∀ y7 y8 : Option ab_V, F = 0 → At 18 [some (rf 57), some (.inl k'), some (.inl x'), some (.inl g), some (.inl w0), some (.inl z), some (.inl F), y7, y8] [] (LDS σ0 m t') 0 0 := fun z hz y7 y8 hF => by
                        subst hz
                        refine hA 18 _ rfl _ _ _ _ _ ?_
                        refine Exists.intro _ (And.intro (by first | assumption | exact st_s | exact st_e (by decide) (by assumption) | exact st_e (by omega) (by assumption) | exact st_e (by decide) st_s | exact st_e (by omega) st_s | exact st_e (by decide) (st_e (by decide) (by assumption)) | exact st_e (by omega) (st_e (by omega) (by assumption))) (And.intro rfl (ab_inv_ev hfi (by first | decide | omega) (by first | exact Nat.le_refl _ | omega) (by first | exact Nat.le_refl _ | omega) ?_)))
                        refine And.intro (by first | assumption | exact b2i_R _ | exact rR (by omega) (by omega) | exact rR (by simp only [Int.toNat_natCast]; omega) (by simp only [Int.toNat_natCast]; omega)) (And.intro (fun q => ?_) (fun q => ?_))
                        · exact k20 hF y7 y8
                        · exact absurd (show (1 : Int) = 0 from q) (by decide)
                      rw [← e2] at hwo k17
                      refine hA 14 _ rfl _ _ _ _ _ ?_
                      refine Exists.intro _ (And.intro (by first | assumption | exact st_s | exact st_e (by decide) (by assumption) | exact st_e (by omega) (by assumption) | exact st_e (by decide) st_s | exact st_e (by omega) st_s | exact st_e (by decide) (st_e (by decide) (by assumption)) | exact st_e (by omega) (st_e (by omega) (by assumption))) (And.intro rfl (ab_inv_ev hfi (by first | decide | omega) (by first | exact Nat.le_refl _ | omega) (by first | exact Nat.le_refl _ | omega) ?_)))
                      refine And.intro (by first | assumption | exact b2i_R _ | exact rR (by omega) (by omega) | exact rR (by simp only [Int.toNat_natCast]; omega) (by simp only [Int.toNat_natCast]; omega)) (And.intro (fun q => ?_) (fun q => ?_))
                      · refine hA 16 _ rfl _ _ _ _ _ ?_
                        refine Exists.intro _ (And.intro (c57) ?_)
                        refine Exists.intro _ (And.intro (c57) ?_)
                        refine Exists.intro _ (Exists.intro _ (And.intro (c59) (And.intro (by omega) ?_)))
                        refine Exists.intro _ (And.intro (c57) ?_)
                        refine Exists.intro _ (And.intro (c57) ?_)
                        refine Exists.intro _ (Exists.intro _ (And.intro (c59) (And.intro (by omega) ?_)))
                        refine Exists.intro _ (And.intro c57 (And.intro rfl (ab_inv_ev hwo (by first | decide | omega) (by first | exact Nat.le_refl _ | omega) (by first | exact Nat.le_refl _ | omega) ?_)))
                        refine And.intro (rR (by omega) (by omega)) (And.intro (fun q => ?_) (fun q => ?_))
                        · have q : ((F : Nat) : Int) ≤ 0 := q
                          exact k16 _ e2 _ _ (by omega)
                        · have q : ¬ ((F : Nat) : Int) ≤ 0 := by first | exact q | (have q : (0 : Int) < ((F : Nat) : Int) := q; omega)
                          exact k17 (by omega) _ _
                      · exact absurd (show (1 : Int) = 0 from q) (by decide)
                    · have ha2 : x' ≤ a + 1 := by omega
                      rw [if_pos ha2] at hl
                      have k := flt 1 none none none none (by decide) (rR (by decide) (by decide)) hl
                      have hMw := k.1
                      have k2 := k.2 y5 y6 y7 y8
                      rw [← ht4] at hMw k2
                      have hw17 := m_wrong c57 hM.fault.1 1 (t' 4)
                      rw [LDS_a] at hw17
                      have d57 := LDS_57 (σ := σ0) m (wrT t' 1 (t' 4))
                      have hfi2 := m_fine d57 hMw
                      refine hA 13 _ rfl _ _ _ _ _ ?_
                      refine Exists.intro _ (And.intro (by first | assumption | exact st_s | exact st_e (by decide) (by assumption) | exact st_e (by omega) (by assumption) | exact st_e (by decide) st_s | exact st_e (by omega) st_s | exact st_e (by decide) (st_e (by decide) (by assumption)) | exact st_e (by omega) (st_e (by omega) (by assumption))) ?_)
                      refine Exists.intro _ (And.intro (by first | assumption | exact st_s | exact st_e (by decide) (by assumption) | exact st_e (by omega) (by assumption) | exact st_e (by decide) st_s | exact st_e (by omega) st_s | exact st_e (by decide) (st_e (by decide) (by assumption)) | exact st_e (by omega) (st_e (by omega) (by assumption))) (And.intro rfl (ab_inv_ev hw17 (by first | decide | omega) (by first | exact Nat.le_refl _ | omega) (by first | exact Nat.le_refl _ | omega) ?_)))
                      refine hA 14 _ rfl _ _ _ _ _ ?_
                      refine Exists.intro _ (And.intro (by first | assumption | exact st_s | exact st_e (by decide) (by assumption) | exact st_e (by omega) (by assumption) | exact st_e (by decide) st_s | exact st_e (by omega) st_s | exact st_e (by decide) (st_e (by decide) (by assumption)) | exact st_e (by omega) (st_e (by omega) (by assumption))) (And.intro rfl (ab_inv_ev hfi2 (by first | decide | omega) (by first | exact Nat.le_refl _ | omega) (by first | exact Nat.le_refl _ | omega) ?_)))
                      refine And.intro (by first | assumption | exact b2i_R _ | exact rR (by omega) (by omega) | exact rR (by simp only [Int.toNat_natCast]; omega) (by simp only [Int.toNat_natCast]; omega)) (And.intro (fun q => ?_) (fun q => ?_))
                      · exact absurd rfl q
                      · refine hA 15 _ rfl _ _ _ _ _ ?_
                        exact k2
            exact loop (x' / 2 + 1) 0 0 0 (fun _ => 0) u none none none none (by omega) (Nat.zero_le _) (Nat.zero_le _) (by decide) hMu u4 (MU.rf u) hLD
          have l0 := last _ hU0 u2 hu hMu u4
          refine hA 9 _ rfl _ _ _ _ _ ?_
          refine Exists.intro _ (And.intro (by first | assumption | exact st_s | exact st_e (by decide) (by assumption) | exact st_e (by omega) (by assumption) | exact st_e (by decide) st_s | exact st_e (by omega) st_s | exact st_e (by decide) (st_e (by decide) (by assumption)) | exact st_e (by omega) (st_e (by omega) (by assumption))) (And.intro rfl (ab_inv_ev hst (by first | decide | omega) (by first | exact Nat.le_refl _ | omega) (by first | exact Nat.le_refl _ | omega) ?_)))
          refine Exists.intro _ (And.intro (by first | assumption | exact st_s | exact st_e (by decide) (by assumption) | exact st_e (by omega) (by assumption) | exact st_e (by decide) st_s | exact st_e (by omega) st_s | exact st_e (by decide) (st_e (by decide) (by assumption)) | exact st_e (by omega) (st_e (by omega) (by assumption))) ?_)
          refine And.intro rfl (ab_inv_ev hem (by first | decide | omega) (by first | exact Nat.le_refl _ | omega) (by first | exact Nat.le_refl _ | omega) ?_)
          refine Exists.intro _ (And.intro (by first | assumption | exact st_s | exact st_e (by decide) (by assumption) | exact st_e (by omega) (by assumption) | exact st_e (by decide) st_s | exact st_e (by omega) st_s | exact st_e (by decide) (st_e (by decide) (by assumption)) | exact st_e (by omega) (st_e (by omega) (by assumption))) ?_)
          rw [m10_s4, eS]
          exact l0
        · exact absurd rfl q
      have gF2 : ¬ (0 ≤ x ∧ x ≤ n) → At 7 [some (rf 57), some (.inl k), some (.inl x), none, none, none, none, none, none] [.inl 1, rf 57] σ0 0 0 := fun hP2 => by
        refine hA 7 _ rfl _ _ _ _ _ ?_
        refine Exists.intro _ (And.intro (by first | assumption | exact st_s | exact st_e (by decide) (by assumption) | exact st_e (by omega) (by assumption) | exact st_e (by decide) st_s | exact st_e (by omega) st_s | exact st_e (by decide) (st_e (by decide) (by assumption)) | exact st_e (by omega) (st_e (by omega) (by assumption))) (And.intro rfl (ab_inv_ev (m_bad1 p57 p0 p58 2 1 (by decide) (by decide) (by decide)) (by first | decide | omega) (by first | exact Nat.le_refl _ | omega) (by first | exact Nat.le_refl _ | omega) ?_)))
        refine And.intro (by first | assumption | exact b2i_R _ | exact rR (by omega) (by omega) | exact rR (by simp only [Int.toNat_natCast]; omega) (by simp only [Int.toNat_natCast]; omega)) (And.intro (fun q => ?_) (fun q => ?_))
        · exact absurd q (by decide)
        · refine hA 8 _ rfl _ _ _ _ _ ?_
          exact md_no (by unfold sg_load; rw [if_pos hP1, if_neg hP2] <;> rfl) hf0 hI0 rfl
      have gO2 : ¬ (0 ≤ x ∧ x ≤ n) → At 5 [some (rf 57), some (.inl k), some (.inl x), none, none, none, none, none, none] [rf 57] σ0 0 0 := fun h => by
        refine hA 5 _ rfl _ _ _ _ _ ?_
        exact gF2 h
      have gZ2 : (0 ≤ x ∧ x ≤ n) → At 6 [some (rf 57), some (.inl k), some (.inl x), none, none, none, none, none, none] [rf 57] σ0 0 0 := fun h => by
        refine hA 6 _ rfl _ _ _ _ _ ?_
        exact gK2 h
      refine hA 4 _ rfl _ _ _ _ _ ?_
      refine Exists.intro _ (And.intro (by first | assumption | exact st_s | exact st_e (by decide) (by assumption) | exact st_e (by omega) (by assumption) | exact st_e (by decide) st_s | exact st_e (by omega) st_s | exact st_e (by decide) (st_e (by decide) (by assumption)) | exact st_e (by omega) (st_e (by omega) (by assumption))) ?_)
      refine And.intro rfl (ab_inv_ev (m_in x 0 (t0 2) hx (rR (by omega) (by omega)) (rR (by omega) (by omega))) (by first | decide | omega) (by first | exact Nat.le_refl _ | omega) (by first | exact Nat.le_refl _ | omega) ?_)
      refine And.intro (by first | assumption | exact b2i_R _ | exact rR (by omega) (by omega) | exact rR (by simp only [Int.toNat_natCast]; omega) (by simp only [Int.toNat_natCast]; omega)) (And.intro (fun q => ?_) (fun q => ?_))
      · have q10 := of_decide_eq_true (b2i_1 q)
        exact gZ2 (by omega)
      · exact gO2 (by have q1 := of_decide_eq_false (b2i_0 q); omega)
  have gF1 : ¬ (0 ≤ k ∧ k ≤ 5) → At 3 [some (rf 57), some (.inl k), some (.inl x), none, none, none, none, none, none] [.inl 1, rf 57] σ0 0 0 := fun hP1 => by
    refine hA 3 _ rfl _ _ _ _ _ ?_
    refine Exists.intro _ (And.intro (by first | assumption | exact st_s | exact st_e (by decide) (by assumption) | exact st_e (by omega) (by assumption) | exact st_e (by decide) st_s | exact st_e (by omega) st_s | exact st_e (by decide) (st_e (by decide) (by assumption)) | exact st_e (by omega) (st_e (by omega) (by assumption))) (And.intro rfl (ab_inv_ev (m_bad1 p57 p0 p58 1 0 (by decide) (by decide) (by decide)) (by first | decide | omega) (by first | exact Nat.le_refl _ | omega) (by first | exact Nat.le_refl _ | omega) ?_)))
    refine And.intro (by first | assumption | exact b2i_R _ | exact rR (by omega) (by omega) | exact rR (by simp only [Int.toNat_natCast]; omega) (by simp only [Int.toNat_natCast]; omega)) (And.intro (fun q => ?_) (fun q => ?_))
    · refine hA 8 _ rfl _ _ _ _ _ ?_
      exact md_no (by unfold sg_load; rw [if_neg hP1] <;> rfl) hf0 hI0 rfl
    · exact absurd q (by decide)
  have gO1 : ¬ (0 ≤ k ∧ k ≤ 5) → At 1 [some (rf 57), some (.inl k), some (.inl x), none, none, none, none, none, none] [rf 57] σ0 0 0 := fun h => by
    refine hA 1 _ rfl _ _ _ _ _ ?_
    exact gF1 h
  have gZ1 : (0 ≤ k ∧ k ≤ 5) → At 2 [some (rf 57), some (.inl k), some (.inl x), none, none, none, none, none, none] [rf 57] σ0 0 0 := fun h => by
    refine hA 2 _ rfl _ _ _ _ _ ?_
    exact gK1 h
  refine hA 0 _ rfl _ _ _ _ _ ?_
  refine Exists.intro _ (And.intro (q57) ?_)
  rw [m10_s0, ht0, hs0]
  refine Exists.intro _ (And.intro (by first | assumption | exact st_s | exact st_e (by decide) (by assumption) | exact st_e (by omega) (by assumption) | exact st_e (by decide) st_s | exact st_e (by omega) st_s | exact st_e (by decide) (st_e (by decide) (by assumption)) | exact st_e (by omega) (st_e (by omega) (by assumption))) (And.intro rfl (ab_inv_ev (m_isResult k hk) (by first | decide | omega) (by first | exact Nat.le_refl _ | omega) (by first | exact Nat.le_refl _ | omega) ?_)))
  refine And.intro (by first | assumption | exact b2i_R _ | exact rR (by omega) (by omega) | exact rR (by simp only [Int.toNat_natCast]; omega) (by simp only [Int.toNat_natCast]; omega)) (And.intro (fun q => ?_) (fun q => ?_))
  · have q00 := of_decide_eq_true (b2i_1 q)
    exact gZ1 (by omega)
  · exact gO1 (by have q1 := of_decide_eq_false (b2i_0 q); omega)

end Mask7
