-- ===== the law: its cases =====
abbrev lscr : ab_V := .inr (.inr (.inr 21))
abbrev LLs (i : Int) (y5 y6 : Option ab_V) : ab_L := [some lscr, some (rf 0), some (rf 57), some (rf 319), some (.inl i), y5, y6]
/-- the law's objects hold the same -/
def LI (σ : ab_H) (S : St) (r : Nat → Nat) (th : Int) : Prop := CS σ S r ∧ MS σ S r th ∧ ∃ g : Nat → Int, σ.2 319 = some (lgc g)
def lwP : ab_O → ab_H → Prop := fun o _ => o = .inl (some (.inl 1))
/-- what comes behind a case -/
def LNx (At : Nat → ab_L → List ab_V → ab_H → Nat → Nat → Prop) (i : Nat) (S : St) (k n : Nat) : Prop := ∀ (σ' : ab_H) (S' : St) (r' : Nat → Nat) (th' : Int) (y5 y6 : Option ab_V) (k' n' : Nat), LI σ' S' r' th' → k' + 2100 * S.1 ≤ k + 4 + 2100 * S'.1 → n' + 110000 * S.1 ≤ n + 24 + 110000 * S'.1 → At 239 (LLs i y5 y6) [] σ' k' n'
theorem cs_wss {σ : ab_H} {S : St} {r : Nat → Nat} (h : CS σ S r) : WSS S := by
  obtain ⟨cc, rows, K, va, R, f, n, pl, c⟩ := S
  obtain ⟨ad, h⟩ := h
  exact h.ws
theorem cs_mA {σ σ' : ab_H} {S : St} {r : Nat → Nat} (h : CS σ S r) (hf : fr mA σ σ') : CS σ' S r := h.keep (A := mA) ⟨Nat.le_of_eq hf.1.symm, fun a _ h => hf.2 a h⟩ (fun a h => by unfold mA; omega)
theorem ab_wr0 : ab_wr 0 = 0 := by decide
theorem ab_wr1 : ab_wr 1 = 1 := by decide
theorem basP_b {f : Nat → Int} {len : Nat} : ∀ (m k a : Nat) (bs : Nat → Nat) (a1 k1 : Nat) (bs1 : Nat → Nat), (∀ p, 2 ≤ bs p ∧ bs p ≤ 200) → basP f len m k a bs = .inr (a1, k1, bs1) → k1 ≤ k + m ∧ ∀ p, 2 ≤ bs1 p ∧ bs1 p ≤ 200 := by
  intro m
  induction m with
  | zero => intro k a bs a1 k1 bs1 _ h; cases h
  | succ m ih =>
    intro k a bs a1 k1 bs1 hb h
    unfold basP at h
    split at h
    · cases h
    · split at h
      · cases h
      · next z a' hz =>
        have hzz : (2 : Int) ≤ z ∧ z ≤ 200 := by
          unfold numP at hz
          dsimp only at hz
          split at hz
          · split at hz
            · cases hz
            · next h9 => cases hz; omega
          · cases hz
        have hu : ∀ p, 2 ≤ ab_up bs k z.toNat p ∧ ab_up bs k z.toNat p ≤ 200 := fun p => by
          unfold ab_up
          split
          · omega
          · exact hb p
        split at h
        · cases h
        · split at h
          · have := ih (k + 1) _ _ a1 k1 bs1 hu h
            exact ⟨by omega, this.2⟩
          · cases h
            exact ⟨by omega, hu⟩
theorem colP_b {f : Nat → Int} {len : Nat} : colM (colP f len) ≤ 2007 ∧ colN (colP f len) ≤ 103520 := by
  cases h : colP f len with
  | inl e => exact ⟨Nat.zero_le _, Nat.zero_le _⟩
  | inr u =>
    obtain ⟨ρ, card, parts, b⟩ := u
    unfold colP at h
    split at h
    · cases h
    · split at h
      · cases h
      · next a1 k1 bs1 hb =>
        obtain ⟨h1, h2⟩ := basP_b 5 0 _ _ _ _ _ (fun _ => ⟨Nat.le_refl 2, (by decide : 2 ≤ 200)⟩) hb
        split at h
        · cases h
        · split at h
          · cases h
          · split at h
            · cases h
            · cases h
              have h3 : ∀ ρ, fsp ρ b parts ≤ 200 * parts := fun ρ => fsp_le h2 parts
              have h4 : 200 * parts ≤ 1000 := by omega
              exact ⟨Nat.le_trans (Nat.add_le_add_left (Nat.mul_le_mul_left 2 (h3 _)) 7) (by omega), Nat.le_trans (Nat.add_le_add_left (Nat.mul_le_mul_left 102 (h3 _)) 1520) (by omega)⟩
theorem clb_b {cc rows : Nat} {f : Nat → Int} {n : Nat} {x : Int} : clM cc rows f n x ≤ 2007 ∧ clN cc rows f n x ≤ 103520 := by
  have h := colP_b (f := f) (len := x.toNat)
  unfold clM clN
  split
  · exact h
  · exact ⟨Nat.zero_le _, Nat.zero_le _⟩
theorem clb_l {cc rows : Nat} {K : Nat → CT} {va : Nat → Nat → Nat} {R : Nat → V1} {f : Nat → Int} {n : Nat} {c : C3} {x y : Int} {S' : St} (h : sg_column cc rows K va R f n c x = .inl (y, S')) : (S'.1 = cc ∧ clM cc rows f n x = 0 ∧ clN cc rows f n x = 0) ∨ S'.1 = cc + 1 := by
  unfold sg_column at h
  split at h
  · next h1 =>
    split at h
    · next h2 =>
      split at h
      · next u v h3 =>
        cases h
        refine Or.inl ⟨rfl, ?_, ?_⟩
        · unfold clM; rw [if_pos ⟨h1, h2⟩, h3]; rfl
        · unfold clN; rw [if_pos ⟨h1, h2⟩, h3]; rfl
      · cases h
        exact Or.inr rfl
    · cases h
  · cases h
theorem clb_r {cc rows : Nat} {K : Nat → CT} {va : Nat → Nat → Nat} {R : Nat → V1} {f : Nat → Int} {n : Nat} {c : C3} {x : Int} {i : Nat} (h : sg_column cc rows K va R f n c x = .inr i) : clM cc rows f n x = 0 ∧ clN cc rows f n x = 0 := by
  unfold sg_column at h
  split at h
  · split at h
    · split at h <;> cases h
    · next h2 => exact ⟨if_neg (fun q => h2 q.2), if_neg (fun q => h2 q.2)⟩
  · next h1 => exact ⟨if_neg (fun q => h1 q.1), if_neg (fun q => h1 q.1)⟩
section Law
variable {At : Nat → ab_L → List ab_V → ab_H → Nat → Nat → Prop} {N0 : Nat} {sc : Nat → Int} {σ : ab_H} {S : St} {r : Nat → Nat} {th : Int} {k n i : Nat}
theorem cc_feed {cc : Nat} {rows : Nat} {K : Nat → CT} {va : Nat → Nat → Nat} {R : Nat → V1} {f : Nat → Int} {n : Nat} {pl : Int} {c : C3} {x1 x2 x3 x4 x5 : Int} {y : Int} {S' : St} (h : (sg_feed cc rows K va R f n pl c x1 x2 x3 x4 x5) = .inl (y, S')) : S'.1 = cc := by
  unfold sg_feed at h
  repeat' split at h
  all_goals first | (cases h; done) | (cases h; rfl)
theorem cc_add {cc : Nat} {rows : Nat} {K : Nat → CT} {va : Nat → Nat → Nat} {R : Nat → V1} {f : Nat → Int} {n : Nat} {pl : Int} {c : C3} {x1 x2 x3 x4 : Int} {y : Int} {S' : St} (h : (sg_add cc rows K va R f n pl c x1 x2 x3 x4) = .inl (y, S')) : S'.1 = cc := by
  unfold sg_add at h
  repeat' split at h
  all_goals first | (cases h; done) | (cases h; rfl)
theorem cc_many {cc : Nat} {rows : Nat} {K : Nat → CT} {va : Nat → Nat → Nat} {R : Nat → V1} {f : Nat → Int} {n : Nat} {pl : Int} {c : C3} {m x1 x2 x3 x4 : Int} {y : Int} {S' : St} (h : (sg_many cc rows K va R f n pl c m x1 x2 x3 x4) = .inl (y, S')) : S'.1 = cc := by
  unfold sg_many at h
  repeat' split at h
  all_goals first | (cases h; done) | (cases h; rfl)
theorem cc_delete {cc : Nat} {rows : Nat} {K : Nat → CT} {va : Nat → Nat → Nat} {R : Nat → V1} {f : Nat → Int} {n : Nat} {pl : Int} {c : C3} {row : Int} {y : Int} {S' : St} (h : (sg_delete cc rows K va R f n pl c row) = .inl (y, S')) : S'.1 = cc := by
  unfold sg_delete at h
  repeat' split at h
  all_goals first | (cases h; done) | (cases h; rfl)
theorem cc_close {cc : Nat} {rows : Nat} {K : Nat → CT} {va : Nat → Nat → Nat} {R : Nat → V1} {f : Nat → Int} {n : Nat} {pl : Int} {c : C3} {y : Int} {S' : St} (h : (sg_close cc rows K va R f n pl c) = .inl (y, S')) : S'.1 = cc := by
  unfold sg_close at h
  repeat' split at h
  all_goals first | (cases h; done) | (cases h; rfl)
theorem cc_ask {cc : Nat} {rows : Nat} {K : Nat → CT} {va : Nat → Nat → Nat} {R : Nat → V1} {f : Nat → Int} {n : Nat} {c : C3} {k x : Int} {y : Int} {S' : St} (h : (sg_ask cc rows K va R f n c k x) = .inl (y, S')) : S'.1 = cc := by
  unfold sg_ask at h
  repeat' split at h
  all_goals first | (cases h; done) | (cases h; rfl)
theorem cc_load {cc : Nat} {rows : Nat} {K : Nat → CT} {va : Nat → Nat → Nat} {R : Nat → V1} {f : Nat → Int} {n : Nat} {c : C3} {k x : Int} {y : Int} {S' : St} (h : (sg_load cc rows K va R f n c k x) = .inl (y, S')) : S'.1 = cc := by
  unfold sg_load at h
  repeat' split at h
  all_goals first | (cases h; done) | (cases h; rfl)
theorem cc_logic {cc : Nat} {rows : Nat} {K : Nat → CT} {va : Nat → Nat → Nat} {R : Nat → V1} {f : Nat → Int} {n : Nat} {pl : Int} {c : C3} {kind a b to : Int} {y : Int} {S' : St} (h : (sg_logic cc rows K va R f n pl c kind a b to) = .inl (y, S')) : S'.1 = cc := by
  unfold sg_logic at h
  repeat' split at h
  all_goals first | (cases h; done) | (cases h; rfl)
theorem cc_turn {cc : Nat} {rows : Nat} {K : Nat → CT} {va : Nat → Nat → Nat} {R : Nat → V1} {f : Nat → Int} {n : Nat} {pl : Int} {c : C3} {k : Int} {y : Int} {S' : St} (h : (sg_turn cc rows K va R f n pl c k) = .inl (y, S')) : S'.1 = cc := by
  unfold sg_turn at h
  repeat' split at h
  all_goals first | (cases h; done) | (cases h; rfl)
set_option maxRecDepth 100000 in
set_option maxHeartbeats 1000000 in
theorem c_feed (hA : ab_ruleL N0 sc bL_law 30 601024 7293033 lwP At) (hsc : ∀ j, ab_R (sc j)) (hi : i + 6 ≤ N0) (hN : N0 < 100000) (hL : LI σ S r th) (hk : k + 2100 ≤ 601024) (hn : n + 110000 ≤ 7293033) (y5 y6 : Option ab_V) (hx : LNx At i S k n) : At 3 (LLs i y5 y6) [] σ k n := by
  obtain ⟨cc, rows, K, va, R, f, m9, pl, c⟩ := S
  obtain ⟨⟨ad, hC⟩, ⟨t, hM⟩, u9, h9⟩ := hL
  have h0 := hC.1
  have hs := hC.s
  have hc := f_feed hC (sc (((i : Nat) : Int) + 1).toNat) (sc (((i : Nat) : Int) + 2).toNat) (sc (((i : Nat) : Int) + 3).toNat) (sc (((i : Nat) : Int) + 4).toNat) (sc (((i : Nat) : Int) + 5).toNat)
  have hm := fun (σ1 : ab_H) (h1 : ∀ a, 57 ≤ a → a ≤ 318 → σ1.2 a = σ.2 a) => g_feed (hM.keep h1) (sc (((i : Nat) : Int) + 1).toNat) (sc (((i : Nat) : Int) + 2).toNat) (sc (((i : Nat) : Int) + 3).toNat) (sc (((i : Nat) : Int) + 4).toNat) (sc (((i : Nat) : Int) + 5).toNat) (hsc _) (hsc _) (hsc _) (hsc _) (hsc _)
  generalize ho : (sg_feed cc rows K va R f m9 pl c (sc (((i : Nat) : Int) + 1).toNat) (sc (((i : Nat) : Int) + 2).toNat) (sc (((i : Nat) : Int) + 3).toNat) (sc (((i : Nat) : Int) + 4).toNat) (sc (((i : Nat) : Int) + 5).toNat)) = o at hc hm
  have hcc : ∀ x S1, o = .inl (x, S1) → S1.1 = cc := fun x S1 h => by subst h; exact cc_feed ho
  have hno : ∀ j, o = .inr j → False := fun j h => by
    subst h
    unfold sg_feed at ho
    repeat' split at ho
    all_goals cases ho
  clear ho
  skip
  refine hA 3 _ rfl _ _ _ _ _ ?_
  refine And.intro rfl (And.intro (And.intro (by omega) (fun N hN => by have hN := ab_Xs_n hN; omega)) (fun z hzR hz => ?_))
  have hz := ab_Xs_z hz
  subst hz
  refine And.intro rfl (And.intro (And.intro (by omega) (fun N hN => by have hN := ab_Xs_n hN; omega)) (fun z hzR hz => ?_))
  have hz := ab_Xs_z hz
  subst hz
  refine And.intro rfl (And.intro (And.intro (by omega) (fun N hN => by have hN := ab_Xs_n hN; omega)) (fun z hzR hz => ?_))
  have hz := ab_Xs_z hz
  subst hz
  refine And.intro rfl (And.intro (And.intro (by omega) (fun N hN => by have hN := ab_Xs_n hN; omega)) (fun z hzR hz => ?_))
  have hz := ab_Xs_z hz
  subst hz
  refine And.intro rfl (And.intro (And.intro (by omega) (fun N hN => by have hN := ab_Xs_n hN; omega)) (fun z hzR hz => ?_))
  have hz := ab_Xs_z hz
  subst hz
  refine Exists.intro _ (And.intro (by first | assumption | exact st_s | exact st_e (by decide) (by assumption) | exact st_e (by omega) (by assumption) | exact st_e (by decide) st_s | exact st_e (by omega) st_s | exact st_e (by decide) (st_e (by decide) (by assumption)) | exact st_e (by omega) (st_e (by omega) (by assumption))) (And.intro rfl (ab_inv_of hc (by first | decide | omega) (by omega) (by omega) ?_)))
  intro z σ1 hp
  obtain ⟨hg, hp⟩ := hp
  have h91 : σ1.2 319 = some (lgc u9) := (hg.2 319 (by omega) (by unfold fcA; omega)).trans h9
  have hm1 : ∀ a, 57 ≤ a → a ≤ 318 → σ1.2 a = σ.2 a := fun a h1 h2 => hg.2 a (by omega) (by unfold fcA; omega)
  have q57 := (hM.keep hm1).h57
  have hmm := hm σ1 hm1
  rcases o with ⟨x, S1⟩ | j
  · obtain ⟨cc2, rows2, K2, va2, R2, f2, m2, pl2, c2⟩ := S1
    obtain ⟨rfl, hC1⟩ := hp
    have hcc : cc2 = cc := hcc _ _ rfl
    refine And.intro rfl (And.intro (And.intro (by omega) (fun N hN => by have hN := ab_Xs_n hN; omega)) (fun z hzR hz => ?_))
    have hz := ab_Xs_z hz
    subst hz
    refine And.intro rfl (And.intro (And.intro (by omega) (fun N hN => by have hN := ab_Xs_n hN; omega)) (fun z hzR hz => ?_))
    have hz := ab_Xs_z hz
    subst hz
    refine And.intro rfl (And.intro (And.intro (by omega) (fun N hN => by have hN := ab_Xs_n hN; omega)) (fun z hzR hz => ?_))
    have hz := ab_Xs_z hz
    subst hz
    refine And.intro rfl (And.intro (And.intro (by omega) (fun N hN => by have hN := ab_Xs_n hN; omega)) (fun z hzR hz => ?_))
    have hz := ab_Xs_z hz
    subst hz
    refine And.intro rfl (And.intro (And.intro (by omega) (fun N hN => by have hN := ab_Xs_n hN; omega)) (fun z hzR hz => ?_))
    have hz := ab_Xs_z hz
    subst hz
    refine Exists.intro _ (And.intro (by first | assumption | exact st_s | exact st_e (by decide) (by assumption) | exact st_e (by omega) (by assumption) | exact st_e (by decide) st_s | exact st_e (by omega) st_s | exact st_e (by decide) (st_e (by decide) (by assumption)) | exact st_e (by omega) (st_e (by omega) (by assumption))) (And.intro rfl (ab_inv_of hmm (by first | decide | omega) (by omega) (by omega) ?_)))
    intro z2 σ2 hp2
    obtain ⟨hf2, rfl, t2, hM2⟩ := hp2
    have h92 : σ2.2 319 = some (lgc u9) := (hf2.2 319 (by unfold mA; omega)).trans h91
    refine And.intro (fun q => ?_) (fun q => ?_)
    · exact hx _ _ _ _ _ _ _ _ ⟨cs_mA hC1 hf2, ⟨t2, hM2⟩, u9, h92⟩ (by show _ + 2100 * cc ≤ _ + 2100 * cc2; omega) (by show _ + 110000 * cc ≤ _ + 110000 * cc2; omega)
    · exact absurd rfl q
  · exact (hno j rfl).elim
set_option maxRecDepth 100000 in
set_option maxHeartbeats 1000000 in
theorem c_column (hA : ab_ruleL N0 sc bL_law 30 601024 7293033 lwP At) (hsc : ∀ j, ab_R (sc j)) (hi : i + 6 ≤ N0) (hN : N0 < 100000) (hL : LI σ S r th) (hk : k + 2100 ≤ 601024) (hn : n + 110000 ≤ 7293033) (y5 y6 : Option ab_V) (hx : LNx At i S k n) : At 5 (LLs i y5 y6) [] σ k n := by
  obtain ⟨cc, rows, K, va, R, f, m9, pl, c⟩ := S
  obtain ⟨⟨ad, hC⟩, ⟨t, hM⟩, u9, h9⟩ := hL
  have h0 := hC.1
  have hc := h_column hC (sc (((i : Nat) : Int) + 1).toNat) (hsc _) h9
  have hm := fun (σ1 : ab_H) (h1 : ∀ a, 57 ≤ a → a ≤ 318 → σ1.2 a = σ.2 a) hW => g_column (hM.keep h1) (sc (((i : Nat) : Int) + 1).toNat) (hsc _) hW
  obtain ⟨b1, b2⟩ := clb_b (cc := cc) (rows := rows) (f := f) (n := m9) (x := (sc (((i : Nat) : Int) + 1).toNat))
  generalize ho : (sg_column cc rows K va R f m9 c (sc (((i : Nat) : Int) + 1).toNat)) = o at hc hm
  have hcl : ∀ x S1, o = .inl (x, S1) → (S1.1 = cc ∧ clM cc rows f m9 (sc (((i : Nat) : Int) + 1).toNat) = 0 ∧ clN cc rows f m9 (sc (((i : Nat) : Int) + 1).toNat) = 0) ∨ S1.1 = cc + 1 := fun x S1 h => by subst h; exact clb_l ho
  have hcr : ∀ j, o = .inr j → clM cc rows f m9 (sc (((i : Nat) : Int) + 1).toNat) = 0 ∧ clN cc rows f m9 (sc (((i : Nat) : Int) + 1).toNat) = 0 := fun j h => by subst h; exact clb_r ho
  generalize clM cc rows f m9 (sc (((i : Nat) : Int) + 1).toNat) = cm at hc b1 hcl hcr
  generalize clN cc rows f m9 (sc (((i : Nat) : Int) + 1).toNat) = cn at hc b2 hcl hcr
  have hj : ∀ j, o = .inr j → j = 1 ∨ j = 2 := fun j h => by
    subst h
    exact on_column ho
  clear ho
  skip
  refine hA 5 _ rfl _ _ _ _ _ ?_
  refine And.intro rfl (And.intro (And.intro (by omega) (fun N hN => by have hN := ab_Xs_n hN; omega)) (fun z hzR hz => ?_))
  have hz := ab_Xs_z hz
  subst hz
  refine And.intro rfl (ab_invH_of hc (by first | decide | omega) (by omega) (by omega) ?_)
  intro z σ1 hp
  obtain ⟨hs1, hm1, u1, h91, hp⟩ := hp
  have q57 := (hM.keep hm1).h57
  rcases o with ⟨x, S1⟩ | j
  · obtain ⟨cc2, rows2, K2, va2, R2, f2, m2, pl2, c2⟩ := S1
    obtain ⟨rfl, hx1, hC1⟩ := hp
    have hmm := hm σ1 hm1 (fun y S h => by
      cases h
      exact cs_wss hC1)
    have hcc : (cc2 = cc ∧ cm = 0 ∧ cn = 0) ∨ cc2 = cc + 1 := hcl _ _ rfl
    have hxR : ab_R (u1 0) := by rw [hx1]; exact ab_wr_R x
    have hxW := ab_wr_R x
    refine And.intro rfl (And.intro (And.intro (by omega) (fun N hN => by have hN := ab_Xs_n hN; omega)) (fun z hzR hz => ?_))
    have hz := ab_Xs_z hz
    subst hz
    refine Exists.intro _ (And.intro (by first | assumption | exact st_s | exact st_e (by decide) (by assumption) | exact st_e (by omega) (by assumption) | exact st_e (by decide) st_s | exact st_e (by omega) st_s | exact st_e (by decide) (st_e (by decide) (by assumption)) | exact st_e (by omega) (st_e (by omega) (by assumption))) (And.intro rfl (ab_inv_of hmm (by first | decide | omega) (by omega) (by omega) ?_)))
    intro z2 σ2 hp2
    obtain ⟨hf2, rfl, t2, hM2⟩ := hp2
    have q572 := hM2.h57
    have hth := m_thrown hM2
    have h92 : σ2.2 319 = some (lgc u1) := (hf2.2 319 (by unfold mA; omega)).trans h91
    refine Exists.intro _ (And.intro (by first | assumption | exact st_s | exact st_e (by decide) (by assumption) | exact st_e (by omega) (by assumption) | exact st_e (by decide) st_s | exact st_e (by omega) st_s | exact st_e (by decide) (st_e (by decide) (by assumption)) | exact st_e (by omega) (st_e (by omega) (by assumption))) (And.intro rfl (ab_inv_ev hth (by first | decide | omega) (by first | exact Nat.le_refl _ | omega) (by first | exact Nat.le_refl _ | omega) ?_)))
    refine And.intro (fun q => ?_) (fun q => ?_)
    · refine hA 7 _ rfl _ _ _ _ _ ?_
      refine And.intro (by first | assumption | exact b2i_R _ | exact rR (by omega) (by omega) | exact rR (by simp only [Int.toNat_natCast]; omega) (by simp only [Int.toNat_natCast]; omega)) (And.intro (fun q => ?_) (fun q => ?_))
      · exact absurd rfl q
      · refine hA 8 _ rfl _ _ _ _ _ ?_
        refine Exists.intro _ (Exists.intro _ (And.intro (by first | assumption | exact st_s | exact st_e (by decide) (by assumption) | exact st_e (by omega) (by assumption) | exact st_e (by decide) st_s | exact st_e (by omega) st_s | exact st_e (by decide) (st_e (by decide) (by assumption)) | exact st_e (by omega) (st_e (by omega) (by assumption))) (And.intro (by first | omega | (simp only [Int.toNat_natCast]; omega)) ?_)))
        refine And.intro (And.intro (by first | assumption | exact b2i_R _ | exact rR (by omega) (by omega) | exact rR (by simp only [Int.toNat_natCast]; omega) (by simp only [Int.toNat_natCast]; omega)) (by first | assumption | exact b2i_R _ | exact rR (by omega) (by omega) | exact rR (by simp only [Int.toNat_natCast]; omega) (by simp only [Int.toNat_natCast]; omega))) (fun z hzR hz => ?_)
        refine And.intro (by first | assumption | exact b2i_R _ | exact rR (by omega) (by omega) | exact rR (by simp only [Int.toNat_natCast]; omega) (by simp only [Int.toNat_natCast]; omega)) (And.intro (fun q => ?_) (fun q => ?_))
        · refine hA 10 _ rfl _ _ _ _ _ ?_
          exact hx _ _ _ _ _ _ _ _ ⟨cs_mA hC1 hf2, ⟨t2, hM2⟩, u1, h92⟩ (by show _ + 2100 * cc ≤ _ + 2100 * cc2; omega) (by show _ + 110000 * cc ≤ _ + 110000 * cc2; omega)
        · exact absurd (hz.mpr hx1) q
    · exact absurd rfl q
  · obtain ⟨rfl, hC1⟩ := hp
    have hj := hj j rfl
    have hmm := hm σ1 hm1 (fun y S h => by cases h)
    obtain ⟨hcm, hcn⟩ := hcr j rfl
    refine And.intro rfl (And.intro (And.intro (by omega) (fun N hN => by have hN := ab_Xs_n hN; omega)) (fun z hzR hz => ?_))
    have hz := ab_Xs_z hz
    subst hz
    refine Exists.intro _ (And.intro (by first | assumption | exact st_s | exact st_e (by decide) (by assumption) | exact st_e (by omega) (by assumption) | exact st_e (by decide) st_s | exact st_e (by omega) st_s | exact st_e (by decide) (st_e (by decide) (by assumption)) | exact st_e (by omega) (st_e (by omega) (by assumption))) (And.intro rfl (ab_inv_of hmm (by first | decide | omega) (by omega) (by omega) ?_)))
    intro z2 σ2 hp2
    obtain ⟨hf2, ⟨x2, rfl⟩, t2, hM2⟩ := hp2
    have q572 := hM2.h57
    have hth := m_thrown hM2
    have h92 : σ2.2 319 = some (lgc u1) := (hf2.2 319 (by unfold mA; omega)).trans h91
    refine Exists.intro _ (And.intro (by first | assumption | exact st_s | exact st_e (by decide) (by assumption) | exact st_e (by omega) (by assumption) | exact st_e (by decide) st_s | exact st_e (by omega) st_s | exact st_e (by decide) (st_e (by decide) (by assumption)) | exact st_e (by omega) (st_e (by omega) (by assumption))) (And.intro rfl (ab_inv_ev hth (by first | decide | omega) (by first | exact Nat.le_refl _ | omega) (by first | exact Nat.le_refl _ | omega) ?_)))
    refine And.intro (fun q => ?_) (fun q => ?_)
    · refine hA 7 _ rfl _ _ _ _ _ ?_
      refine And.intro (show ab_R (((j : Nat) : Int)) from rR (by omega) (by omega)) (And.intro (fun q => ?_) (fun q => ?_))
      · refine hA 10 _ rfl _ _ _ _ _ ?_
        exact hx _ _ _ _ _ _ _ _ ⟨cs_mA hC1 hf2, ⟨t2, hM2⟩, u1, h92⟩ (by show _ + 2100 * cc ≤ _ + 2100 * cc; omega) (by show _ + 110000 * cc ≤ _ + 110000 * cc; omega)
      · have q : ((j : Nat) : Int) = 0 := q
        omega
    · exact absurd rfl q
set_option maxRecDepth 100000 in
set_option maxHeartbeats 1000000 in
theorem c_add (hA : ab_ruleL N0 sc bL_law 30 601024 7293033 lwP At) (hsc : ∀ j, ab_R (sc j)) (hi : i + 6 ≤ N0) (hN : N0 < 100000) (hL : LI σ S r th) (hk : k + 2100 ≤ 601024) (hn : n + 110000 ≤ 7293033) (y5 y6 : Option ab_V) (hx : LNx At i S k n) : At 11 (LLs i y5 y6) [] σ k n := by
  obtain ⟨cc, rows, K, va, R, f, m9, pl, c⟩ := S
  obtain ⟨⟨ad, hC⟩, ⟨t, hM⟩, u9, h9⟩ := hL
  have h0 := hC.1
  have hc := h_add hC (sc (((i : Nat) : Int) + 1).toNat) (sc (((i : Nat) : Int) + 2).toNat) (sc (((i : Nat) : Int) + 3).toNat) (sc (((i : Nat) : Int) + 4).toNat) (hsc _) (hsc _) (hsc _) (hsc _) h9
  have hm := fun (σ1 : ab_H) (h1 : ∀ a, 57 ≤ a → a ≤ 318 → σ1.2 a = σ.2 a) => g_add (hM.keep h1) (sc (((i : Nat) : Int) + 1).toNat) (sc (((i : Nat) : Int) + 2).toNat) (sc (((i : Nat) : Int) + 3).toNat) (sc (((i : Nat) : Int) + 4).toNat) (hsc _) (hsc _) (hsc _) (hsc _)
  generalize ho : (sg_add cc rows K va R f m9 pl c (sc (((i : Nat) : Int) + 1).toNat) (sc (((i : Nat) : Int) + 2).toNat) (sc (((i : Nat) : Int) + 3).toNat) (sc (((i : Nat) : Int) + 4).toNat)) = o at hc hm
  have hcc : ∀ x S1, o = .inl (x, S1) → S1.1 = cc := fun x S1 h => by subst h; exact cc_add ho
  have hj : ∀ j, o = .inr j → j = 1 ∨ j = 2 := fun j h => by
    subst h
    exact on_add ho
  clear ho
  skip
  refine hA 11 _ rfl _ _ _ _ _ ?_
  refine And.intro rfl (And.intro (And.intro (by omega) (fun N hN => by have hN := ab_Xs_n hN; omega)) (fun z hzR hz => ?_))
  have hz := ab_Xs_z hz
  subst hz
  refine And.intro rfl (And.intro (And.intro (by omega) (fun N hN => by have hN := ab_Xs_n hN; omega)) (fun z hzR hz => ?_))
  have hz := ab_Xs_z hz
  subst hz
  refine And.intro rfl (And.intro (And.intro (by omega) (fun N hN => by have hN := ab_Xs_n hN; omega)) (fun z hzR hz => ?_))
  have hz := ab_Xs_z hz
  subst hz
  refine And.intro rfl (And.intro (And.intro (by omega) (fun N hN => by have hN := ab_Xs_n hN; omega)) (fun z hzR hz => ?_))
  have hz := ab_Xs_z hz
  subst hz
  refine And.intro rfl (ab_invH_of hc (by first | decide | omega) (by omega) (by omega) ?_)
  intro z σ1 hp
  obtain ⟨hs1, hm1, u1, h91, hp⟩ := hp
  have q57 := (hM.keep hm1).h57
  have hmm := hm σ1 hm1
  rcases o with ⟨x, S1⟩ | j
  · obtain ⟨cc2, rows2, K2, va2, R2, f2, m2, pl2, c2⟩ := S1
    obtain ⟨rfl, hx1, hC1⟩ := hp
    have hcc : cc2 = cc := hcc _ _ rfl
    have hxR : ab_R (u1 0) := by rw [hx1]; exact ab_wr_R x
    have hxW := ab_wr_R x
    refine And.intro rfl (And.intro (And.intro (by omega) (fun N hN => by have hN := ab_Xs_n hN; omega)) (fun z hzR hz => ?_))
    have hz := ab_Xs_z hz
    subst hz
    refine And.intro rfl (And.intro (And.intro (by omega) (fun N hN => by have hN := ab_Xs_n hN; omega)) (fun z hzR hz => ?_))
    have hz := ab_Xs_z hz
    subst hz
    refine And.intro rfl (And.intro (And.intro (by omega) (fun N hN => by have hN := ab_Xs_n hN; omega)) (fun z hzR hz => ?_))
    have hz := ab_Xs_z hz
    subst hz
    refine And.intro rfl (And.intro (And.intro (by omega) (fun N hN => by have hN := ab_Xs_n hN; omega)) (fun z hzR hz => ?_))
    have hz := ab_Xs_z hz
    subst hz
    refine Exists.intro _ (And.intro (by first | assumption | exact st_s | exact st_e (by decide) (by assumption) | exact st_e (by omega) (by assumption) | exact st_e (by decide) st_s | exact st_e (by omega) st_s | exact st_e (by decide) (st_e (by decide) (by assumption)) | exact st_e (by omega) (st_e (by omega) (by assumption))) (And.intro rfl (ab_inv_of hmm (by first | decide | omega) (by omega) (by omega) ?_)))
    intro z2 σ2 hp2
    obtain ⟨hf2, rfl, t2, hM2⟩ := hp2
    have q572 := hM2.h57
    have hth := m_thrown hM2
    have h92 : σ2.2 319 = some (lgc u1) := (hf2.2 319 (by unfold mA; omega)).trans h91
    refine Exists.intro _ (And.intro (by first | assumption | exact st_s | exact st_e (by decide) (by assumption) | exact st_e (by omega) (by assumption) | exact st_e (by decide) st_s | exact st_e (by omega) st_s | exact st_e (by decide) (st_e (by decide) (by assumption)) | exact st_e (by omega) (st_e (by omega) (by assumption))) (And.intro rfl (ab_inv_ev hth (by first | decide | omega) (by first | exact Nat.le_refl _ | omega) (by first | exact Nat.le_refl _ | omega) ?_)))
    refine And.intro (fun q => ?_) (fun q => ?_)
    · refine hA 13 _ rfl _ _ _ _ _ ?_
      refine And.intro (by first | assumption | exact b2i_R _ | exact rR (by omega) (by omega) | exact rR (by simp only [Int.toNat_natCast]; omega) (by simp only [Int.toNat_natCast]; omega)) (And.intro (fun q => ?_) (fun q => ?_))
      · exact absurd rfl q
      · refine hA 14 _ rfl _ _ _ _ _ ?_
        refine Exists.intro _ (Exists.intro _ (And.intro (by first | assumption | exact st_s | exact st_e (by decide) (by assumption) | exact st_e (by omega) (by assumption) | exact st_e (by decide) st_s | exact st_e (by omega) st_s | exact st_e (by decide) (st_e (by decide) (by assumption)) | exact st_e (by omega) (st_e (by omega) (by assumption))) (And.intro (by first | omega | (simp only [Int.toNat_natCast]; omega)) ?_)))
        refine And.intro (And.intro (by first | assumption | exact b2i_R _ | exact rR (by omega) (by omega) | exact rR (by simp only [Int.toNat_natCast]; omega) (by simp only [Int.toNat_natCast]; omega)) (by first | assumption | exact b2i_R _ | exact rR (by omega) (by omega) | exact rR (by simp only [Int.toNat_natCast]; omega) (by simp only [Int.toNat_natCast]; omega))) (fun z hzR hz => ?_)
        refine And.intro (by first | assumption | exact b2i_R _ | exact rR (by omega) (by omega) | exact rR (by simp only [Int.toNat_natCast]; omega) (by simp only [Int.toNat_natCast]; omega)) (And.intro (fun q => ?_) (fun q => ?_))
        · refine hA 16 _ rfl _ _ _ _ _ ?_
          exact hx _ _ _ _ _ _ _ _ ⟨cs_mA hC1 hf2, ⟨t2, hM2⟩, u1, h92⟩ (by show _ + 2100 * cc ≤ _ + 2100 * cc2; omega) (by show _ + 110000 * cc ≤ _ + 110000 * cc2; omega)
        · exact absurd (hz.mpr hx1) q
    · exact absurd rfl q
  · obtain ⟨rfl, hC1⟩ := hp
    have hj := hj j rfl
    refine And.intro rfl (And.intro (And.intro (by omega) (fun N hN => by have hN := ab_Xs_n hN; omega)) (fun z hzR hz => ?_))
    have hz := ab_Xs_z hz
    subst hz
    refine And.intro rfl (And.intro (And.intro (by omega) (fun N hN => by have hN := ab_Xs_n hN; omega)) (fun z hzR hz => ?_))
    have hz := ab_Xs_z hz
    subst hz
    refine And.intro rfl (And.intro (And.intro (by omega) (fun N hN => by have hN := ab_Xs_n hN; omega)) (fun z hzR hz => ?_))
    have hz := ab_Xs_z hz
    subst hz
    refine And.intro rfl (And.intro (And.intro (by omega) (fun N hN => by have hN := ab_Xs_n hN; omega)) (fun z hzR hz => ?_))
    have hz := ab_Xs_z hz
    subst hz
    refine Exists.intro _ (And.intro (by first | assumption | exact st_s | exact st_e (by decide) (by assumption) | exact st_e (by omega) (by assumption) | exact st_e (by decide) st_s | exact st_e (by omega) st_s | exact st_e (by decide) (st_e (by decide) (by assumption)) | exact st_e (by omega) (st_e (by omega) (by assumption))) (And.intro rfl (ab_inv_of hmm (by first | decide | omega) (by omega) (by omega) ?_)))
    intro z2 σ2 hp2
    obtain ⟨hf2, ⟨x2, rfl⟩, t2, hM2⟩ := hp2
    have q572 := hM2.h57
    have hth := m_thrown hM2
    have h92 : σ2.2 319 = some (lgc u1) := (hf2.2 319 (by unfold mA; omega)).trans h91
    refine Exists.intro _ (And.intro (by first | assumption | exact st_s | exact st_e (by decide) (by assumption) | exact st_e (by omega) (by assumption) | exact st_e (by decide) st_s | exact st_e (by omega) st_s | exact st_e (by decide) (st_e (by decide) (by assumption)) | exact st_e (by omega) (st_e (by omega) (by assumption))) (And.intro rfl (ab_inv_ev hth (by first | decide | omega) (by first | exact Nat.le_refl _ | omega) (by first | exact Nat.le_refl _ | omega) ?_)))
    refine And.intro (fun q => ?_) (fun q => ?_)
    · refine hA 13 _ rfl _ _ _ _ _ ?_
      refine And.intro (show ab_R (((j : Nat) : Int)) from rR (by omega) (by omega)) (And.intro (fun q => ?_) (fun q => ?_))
      · refine hA 16 _ rfl _ _ _ _ _ ?_
        exact hx _ _ _ _ _ _ _ _ ⟨cs_mA hC1 hf2, ⟨t2, hM2⟩, u1, h92⟩ (by show _ + 2100 * cc ≤ _ + 2100 * cc; omega) (by show _ + 110000 * cc ≤ _ + 110000 * cc; omega)
      · have q : ((j : Nat) : Int) = 0 := q
        omega
    · exact absurd rfl q
set_option maxRecDepth 100000 in
set_option maxHeartbeats 1000000 in
theorem c_has (hA : ab_ruleL N0 sc bL_law 30 601024 7293033 lwP At) (hsc : ∀ j, ab_R (sc j)) (hi : i + 6 ≤ N0) (hN : N0 < 100000) (hL : LI σ S r th) (hk : k + 2100 ≤ 601024) (hn : n + 110000 ≤ 7293033) (y5 y6 : Option ab_V) (hx : LNx At i S k n) : At 99 (LLs i y5 y6) [] σ k n := by
  obtain ⟨cc, rows, K, va, R, f, m9, pl, c⟩ := S
  obtain ⟨⟨ad, hC⟩, ⟨t, hM⟩, u9, h9⟩ := hL
  have h0 := hC.1
  have hc := h_has hC (sc (((i : Nat) : Int) + 1).toNat) (sc (((i : Nat) : Int) + 2).toNat) (hsc _) (hsc _) h9
  have hm := fun (σ1 : ab_H) (h1 : ∀ a, 57 ≤ a → a ≤ 318 → σ1.2 a = σ.2 a) => g_has (hM.keep h1) (sc (((i : Nat) : Int) + 1).toNat) (sc (((i : Nat) : Int) + 2).toNat) (hsc _) (hsc _)
  generalize ho : (stq (cc, rows, K, va, R, f, m9, pl, c) (sp_has rows R (sc (((i : Nat) : Int) + 1).toNat) (sc (((i : Nat) : Int) + 2).toNat))) = o at hc hm
  have hcc : ∀ x S1, o = .inl (x, S1) → S1.1 = cc := fun x S1 h => by subst h; exact congrArg (fun S : St => S.1) (stq_l ho).2
  have hj : ∀ j, o = .inr j → j = 0 := fun j h => by
    subst h
    exact on_has (stq_i ho)
  have hb : ∀ x S1, o = .inl (x, S1) → x = 0 ∨ x = 1 := fun x S1 h => by
    subst h
    exact bo_has (stq_l ho).1
  clear ho
  skip
  refine hA 99 _ rfl _ _ _ _ _ ?_
  refine And.intro rfl (And.intro (And.intro (by omega) (fun N hN => by have hN := ab_Xs_n hN; omega)) (fun z hzR hz => ?_))
  have hz := ab_Xs_z hz
  subst hz
  refine And.intro rfl (And.intro (And.intro (by omega) (fun N hN => by have hN := ab_Xs_n hN; omega)) (fun z hzR hz => ?_))
  have hz := ab_Xs_z hz
  subst hz
  refine And.intro rfl (ab_invH_of hc (by first | decide | omega) (by omega) (by omega) ?_)
  intro z σ1 hp
  obtain ⟨hs1, hm1, u1, h91, hp⟩ := hp
  have q57 := (hM.keep hm1).h57
  have hmm := hm σ1 hm1
  rcases o with ⟨x, S1⟩ | j
  · obtain ⟨cc2, rows2, K2, va2, R2, f2, m2, pl2, c2⟩ := S1
    obtain ⟨rfl, hx1, hC1⟩ := hp
    have hcc : cc2 = cc := hcc _ _ rfl
    have hxR : ab_R (u1 0) := by rw [hx1]; exact ab_wr_R x
    have hxW := ab_wr_R x
    refine And.intro rfl (And.intro (And.intro (by omega) (fun N hN => by have hN := ab_Xs_n hN; omega)) (fun z hzR hz => ?_))
    have hz := ab_Xs_z hz
    subst hz
    refine And.intro rfl (And.intro (And.intro (by omega) (fun N hN => by have hN := ab_Xs_n hN; omega)) (fun z hzR hz => ?_))
    have hz := ab_Xs_z hz
    subst hz
    refine Exists.intro _ (And.intro (by first | assumption | exact st_s | exact st_e (by decide) (by assumption) | exact st_e (by omega) (by assumption) | exact st_e (by decide) st_s | exact st_e (by omega) st_s | exact st_e (by decide) (st_e (by decide) (by assumption)) | exact st_e (by omega) (st_e (by omega) (by assumption))) (And.intro rfl (ab_inv_of hmm (by first | decide | omega) (by omega) (by omega) ?_)))
    intro z2 σ2 hp2
    obtain ⟨hf2, rfl, t2, hM2⟩ := hp2
    have q572 := hM2.h57
    have hth := m_thrown hM2
    have h92 : σ2.2 319 = some (lgc u1) := (hf2.2 319 (by unfold mA; omega)).trans h91
    refine Exists.intro _ (And.intro (by first | assumption | exact st_s | exact st_e (by decide) (by assumption) | exact st_e (by omega) (by assumption) | exact st_e (by decide) st_s | exact st_e (by omega) st_s | exact st_e (by decide) (st_e (by decide) (by assumption)) | exact st_e (by omega) (st_e (by omega) (by assumption))) (And.intro rfl (ab_inv_ev hth (by first | decide | omega) (by first | exact Nat.le_refl _ | omega) (by first | exact Nat.le_refl _ | omega) ?_)))
    refine And.intro (fun q => ?_) (fun q => ?_)
    · refine hA 101 _ rfl _ _ _ _ _ ?_
      refine And.intro (by first | assumption | exact b2i_R _ | exact rR (by omega) (by omega) | exact rR (by simp only [Int.toNat_natCast]; omega) (by simp only [Int.toNat_natCast]; omega)) (And.intro (fun q => ?_) (fun q => ?_))
      · exact absurd rfl q
      · rcases hb x _ rfl with rfl | rfl
        · refine hA 102 _ rfl _ _ _ _ _ ?_
          refine Exists.intro _ (Exists.intro _ (And.intro (by first | assumption | exact st_s | exact st_e (by decide) (by assumption) | exact st_e (by omega) (by assumption) | exact st_e (by decide) st_s | exact st_e (by omega) st_s | exact st_e (by decide) (st_e (by decide) (by assumption)) | exact st_e (by omega) (st_e (by omega) (by assumption))) (And.intro (by first | omega | (simp only [Int.toNat_natCast]; omega)) ?_)))
          refine And.intro (by first | assumption | exact b2i_R _ | exact rR (by omega) (by omega) | exact rR (by simp only [Int.toNat_natCast]; omega) (by simp only [Int.toNat_natCast]; omega)) (And.intro (fun q => ?_) (fun q => ?_))
          · refine hA 104 _ rfl _ _ _ _ _ ?_
            refine hA 105 _ rfl _ _ _ _ _ ?_
            refine And.intro (And.intro (by first | assumption | exact b2i_R _ | exact rR (by omega) (by omega) | exact rR (by simp only [Int.toNat_natCast]; omega) (by simp only [Int.toNat_natCast]; omega)) (by first | assumption | exact b2i_R _ | exact rR (by omega) (by omega) | exact rR (by simp only [Int.toNat_natCast]; omega) (by simp only [Int.toNat_natCast]; omega))) (fun z hzR hz => ?_)
            refine And.intro (by first | assumption | exact b2i_R _ | exact rR (by omega) (by omega) | exact rR (by simp only [Int.toNat_natCast]; omega) (by simp only [Int.toNat_natCast]; omega)) (And.intro (fun q => ?_) (fun q => ?_))
            · refine hA 107 _ rfl _ _ _ _ _ ?_
              exact hx _ _ _ _ _ _ _ _ ⟨cs_mA hC1 hf2, ⟨t2, hM2⟩, u1, h92⟩ (by show _ + 2100 * cc ≤ _ + 2100 * cc2; omega) (by show _ + 110000 * cc ≤ _ + 110000 * cc2; omega)
            · exact absurd (hz.mpr (hx1.trans ab_wr0)) q
          · exact absurd rfl q
        · refine hA 102 _ rfl _ _ _ _ _ ?_
          refine Exists.intro _ (Exists.intro _ (And.intro (by first | assumption | exact st_s | exact st_e (by decide) (by assumption) | exact st_e (by omega) (by assumption) | exact st_e (by decide) st_s | exact st_e (by omega) st_s | exact st_e (by decide) (st_e (by decide) (by assumption)) | exact st_e (by omega) (st_e (by omega) (by assumption))) (And.intro (by first | omega | (simp only [Int.toNat_natCast]; omega)) ?_)))
          refine And.intro (by first | assumption | exact b2i_R _ | exact rR (by omega) (by omega) | exact rR (by simp only [Int.toNat_natCast]; omega) (by simp only [Int.toNat_natCast]; omega)) (And.intro (fun q => ?_) (fun q => ?_))
          · exact absurd (show (1 : Int) = 0 from q) (by decide)
          · refine hA 103 _ rfl _ _ _ _ _ ?_
            refine hA 105 _ rfl _ _ _ _ _ ?_
            refine And.intro (And.intro (by first | assumption | exact b2i_R _ | exact rR (by omega) (by omega) | exact rR (by simp only [Int.toNat_natCast]; omega) (by simp only [Int.toNat_natCast]; omega)) (by first | assumption | exact b2i_R _ | exact rR (by omega) (by omega) | exact rR (by simp only [Int.toNat_natCast]; omega) (by simp only [Int.toNat_natCast]; omega))) (fun z hzR hz => ?_)
            refine And.intro (by first | assumption | exact b2i_R _ | exact rR (by omega) (by omega) | exact rR (by simp only [Int.toNat_natCast]; omega) (by simp only [Int.toNat_natCast]; omega)) (And.intro (fun q => ?_) (fun q => ?_))
            · refine hA 107 _ rfl _ _ _ _ _ ?_
              exact hx _ _ _ _ _ _ _ _ ⟨cs_mA hC1 hf2, ⟨t2, hM2⟩, u1, h92⟩ (by show _ + 2100 * cc ≤ _ + 2100 * cc2; omega) (by show _ + 110000 * cc ≤ _ + 110000 * cc2; omega)
            · exact absurd (hz.mpr (hx1.trans ab_wr1)) q
    · exact absurd rfl q
  · obtain ⟨rfl, hC1⟩ := hp
    have hj := hj j rfl
    refine And.intro rfl (And.intro (And.intro (by omega) (fun N hN => by have hN := ab_Xs_n hN; omega)) (fun z hzR hz => ?_))
    have hz := ab_Xs_z hz
    subst hz
    refine And.intro rfl (And.intro (And.intro (by omega) (fun N hN => by have hN := ab_Xs_n hN; omega)) (fun z hzR hz => ?_))
    have hz := ab_Xs_z hz
    subst hz
    refine Exists.intro _ (And.intro (by first | assumption | exact st_s | exact st_e (by decide) (by assumption) | exact st_e (by omega) (by assumption) | exact st_e (by decide) st_s | exact st_e (by omega) st_s | exact st_e (by decide) (st_e (by decide) (by assumption)) | exact st_e (by omega) (st_e (by omega) (by assumption))) (And.intro rfl (ab_inv_of hmm (by first | decide | omega) (by omega) (by omega) ?_)))
    intro z2 σ2 hp2
    obtain ⟨hf2, ⟨x2, rfl⟩, t2, hM2⟩ := hp2
    have q572 := hM2.h57
    have hth := m_thrown hM2
    have h92 : σ2.2 319 = some (lgc u1) := (hf2.2 319 (by unfold mA; omega)).trans h91
    refine Exists.intro _ (And.intro (by first | assumption | exact st_s | exact st_e (by decide) (by assumption) | exact st_e (by omega) (by assumption) | exact st_e (by decide) st_s | exact st_e (by omega) st_s | exact st_e (by decide) (st_e (by decide) (by assumption)) | exact st_e (by omega) (st_e (by omega) (by assumption))) (And.intro rfl (ab_inv_ev hth (by first | decide | omega) (by first | exact Nat.le_refl _ | omega) (by first | exact Nat.le_refl _ | omega) ?_)))
    refine And.intro (fun q => ?_) (fun q => ?_)
    · refine hA 101 _ rfl _ _ _ _ _ ?_
      refine And.intro (show ab_R (((j : Nat) : Int) + 1) from rR (by omega) (by omega)) (And.intro (fun q => ?_) (fun q => ?_))
      · refine hA 107 _ rfl _ _ _ _ _ ?_
        exact hx _ _ _ _ _ _ _ _ ⟨cs_mA hC1 hf2, ⟨t2, hM2⟩, u1, h92⟩ (by show _ + 2100 * cc ≤ _ + 2100 * cc; omega) (by show _ + 110000 * cc ≤ _ + 110000 * cc; omega)
      · have q : ((j : Nat) : Int) + 1 = 0 := q
        omega
    · exact absurd rfl q
end Law
