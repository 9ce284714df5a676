-- ===== the law: its cases, on =====
section Law
variable {At : Nat → ab_L → List ab_V → ab_H → Nat → Nat → Prop} {N0 : Nat} {sc : Nat → Int} {σ : ab_H} {S : St} {r : Nat → Nat} {th : Int} {k n i : Nat}
set_option maxRecDepth 100000 in
set_option maxHeartbeats 1000000 in
theorem c_many (hA : ab_ruleL N0 sc bL_law 30 601024 7293033 lwP At) (hsc : ∀ j, ab_R (sc j)) (hi : i + 6 ≤ N0) (hN : N0 < 100000) (hL : LI σ S r th) (hk : k + 2100 ≤ 601024) (hn : n + 110000 ≤ 7293033) (y5 y6 : Option ab_V) (hx : LNx At i S k n) : At 17 (LLs i y5 y6) [] σ k n := by
  obtain ⟨cc, rows, K, va, R, f, m9, pl, c⟩ := S
  obtain ⟨⟨ad, hC⟩, ⟨t, hM⟩, u9, h9⟩ := hL
  have h0 := hC.1
  have hc := h_many hC (sc (((i : Nat) : Int) + 1).toNat) (sc (((i : Nat) : Int) + 2).toNat) (sc (((i : Nat) : Int) + 3).toNat) (sc (((i : Nat) : Int) + 4).toNat) (sc (((i : Nat) : Int) + 5).toNat) (hsc _) (hsc _) (hsc _) (hsc _) (hsc _) h9
  have hm := fun (σ1 : ab_H) (h1 : ∀ a, 57 ≤ a → a ≤ 318 → σ1.2 a = σ.2 a) => g_many (hM.keep h1) (sc (((i : Nat) : Int) + 1).toNat) (sc (((i : Nat) : Int) + 2).toNat) (sc (((i : Nat) : Int) + 3).toNat) (sc (((i : Nat) : Int) + 4).toNat) (sc (((i : Nat) : Int) + 5).toNat) (hsc _) (hsc _) (hsc _) (hsc _) (hsc _)
  generalize ho : (sg_many cc rows K va R f m9 pl c (sc (((i : Nat) : Int) + 1).toNat) (sc (((i : Nat) : Int) + 2).toNat) (sc (((i : Nat) : Int) + 3).toNat) (sc (((i : Nat) : Int) + 4).toNat) (sc (((i : Nat) : Int) + 5).toNat)) = o at hc hm
  have hcc : ∀ x S1, o = .inl (x, S1) → S1.1 = cc := fun x S1 h => by subst h; exact cc_many ho
  have hj : ∀ j, o = .inr j → j = 1 ∨ j = 2 := fun j h => by
    subst h
    exact on_many ho
  clear ho
  skip
  refine hA 17 _ rfl _ _ _ _ _ ?_
  refine And.intro rfl (And.intro (And.intro (by omega) (fun N hN => by have hN := ab_Xs_n hN; omega)) (fun z hzR hz => ?_))
  have hz := ab_Xs_z hz
  subst hz
  refine And.intro rfl (And.intro (And.intro (by omega) (fun N hN => by have hN := ab_Xs_n hN; omega)) (fun z hzR hz => ?_))
  have hz := ab_Xs_z hz
  subst hz
  refine And.intro rfl (And.intro (And.intro (by omega) (fun N hN => by have hN := ab_Xs_n hN; omega)) (fun z hzR hz => ?_))
  have hz := ab_Xs_z hz
  subst hz
  refine And.intro rfl (And.intro (And.intro (by omega) (fun N hN => by have hN := ab_Xs_n hN; omega)) (fun z hzR hz => ?_))
  have hz := ab_Xs_z hz
  subst hz
  refine And.intro rfl (And.intro (And.intro (by omega) (fun N hN => by have hN := ab_Xs_n hN; omega)) (fun z hzR hz => ?_))
  have hz := ab_Xs_z hz
  subst hz
  refine And.intro rfl (ab_invH_of hc (by first | decide | omega) (by omega) (by omega) ?_)
  intro z σ1 hp
  obtain ⟨hs1, hm1, u1, h91, hp⟩ := hp
  have q57 := (hM.keep hm1).h57
  have hmm := hm σ1 hm1
  rcases o with ⟨x, S1⟩ | j
  · obtain ⟨cc2, rows2, K2, va2, R2, f2, m2, pl2, c2⟩ := S1
    obtain ⟨rfl, hx1, hC1⟩ := hp
    have hcc : cc2 = cc := hcc _ _ rfl
    have hxR : ab_R (u1 0) := by rw [hx1]; exact ab_wr_R x
    have hxW := ab_wr_R x
    refine And.intro rfl (And.intro (And.intro (by omega) (fun N hN => by have hN := ab_Xs_n hN; omega)) (fun z hzR hz => ?_))
    have hz := ab_Xs_z hz
    subst hz
    refine And.intro rfl (And.intro (And.intro (by omega) (fun N hN => by have hN := ab_Xs_n hN; omega)) (fun z hzR hz => ?_))
    have hz := ab_Xs_z hz
    subst hz
    refine And.intro rfl (And.intro (And.intro (by omega) (fun N hN => by have hN := ab_Xs_n hN; omega)) (fun z hzR hz => ?_))
    have hz := ab_Xs_z hz
    subst hz
    refine And.intro rfl (And.intro (And.intro (by omega) (fun N hN => by have hN := ab_Xs_n hN; omega)) (fun z hzR hz => ?_))
    have hz := ab_Xs_z hz
    subst hz
    refine And.intro rfl (And.intro (And.intro (by omega) (fun N hN => by have hN := ab_Xs_n hN; omega)) (fun z hzR hz => ?_))
    have hz := ab_Xs_z hz
    subst hz
    refine Exists.intro _ (And.intro (by first | assumption | exact st_s | exact st_e (by decide) (by assumption) | exact st_e (by omega) (by assumption) | exact st_e (by decide) st_s | exact st_e (by omega) st_s | exact st_e (by decide) (st_e (by decide) (by assumption)) | exact st_e (by omega) (st_e (by omega) (by assumption))) (And.intro rfl (ab_inv_of hmm (by first | decide | omega) (by omega) (by omega) ?_)))
    intro z2 σ2 hp2
    obtain ⟨hf2, rfl, t2, hM2⟩ := hp2
    have q572 := hM2.h57
    have hth := m_thrown hM2
    have h92 : σ2.2 319 = some (lgc u1) := (hf2.2 319 (by unfold mA; omega)).trans h91
    refine Exists.intro _ (And.intro (by first | assumption | exact st_s | exact st_e (by decide) (by assumption) | exact st_e (by omega) (by assumption) | exact st_e (by decide) st_s | exact st_e (by omega) st_s | exact st_e (by decide) (st_e (by decide) (by assumption)) | exact st_e (by omega) (st_e (by omega) (by assumption))) (And.intro rfl (ab_inv_ev hth (by first | decide | omega) (by first | exact Nat.le_refl _ | omega) (by first | exact Nat.le_refl _ | omega) ?_)))
    refine And.intro (fun q => ?_) (fun q => ?_)
    · refine hA 19 _ rfl _ _ _ _ _ ?_
      refine And.intro (by first | assumption | exact b2i_R _ | exact rR (by omega) (by omega) | exact rR (by simp only [Int.toNat_natCast]; omega) (by simp only [Int.toNat_natCast]; omega)) (And.intro (fun q => ?_) (fun q => ?_))
      · exact absurd rfl q
      · refine hA 20 _ rfl _ _ _ _ _ ?_
        refine Exists.intro _ (Exists.intro _ (And.intro (by first | assumption | exact st_s | exact st_e (by decide) (by assumption) | exact st_e (by omega) (by assumption) | exact st_e (by decide) st_s | exact st_e (by omega) st_s | exact st_e (by decide) (st_e (by decide) (by assumption)) | exact st_e (by omega) (st_e (by omega) (by assumption))) (And.intro (by first | omega | (simp only [Int.toNat_natCast]; omega)) ?_)))
        refine And.intro (And.intro (by first | assumption | exact b2i_R _ | exact rR (by omega) (by omega) | exact rR (by simp only [Int.toNat_natCast]; omega) (by simp only [Int.toNat_natCast]; omega)) (by first | assumption | exact b2i_R _ | exact rR (by omega) (by omega) | exact rR (by simp only [Int.toNat_natCast]; omega) (by simp only [Int.toNat_natCast]; omega))) (fun z hzR hz => ?_)
        refine And.intro (by first | assumption | exact b2i_R _ | exact rR (by omega) (by omega) | exact rR (by simp only [Int.toNat_natCast]; omega) (by simp only [Int.toNat_natCast]; omega)) (And.intro (fun q => ?_) (fun q => ?_))
        · refine hA 22 _ rfl _ _ _ _ _ ?_
          exact hx _ _ _ _ _ _ _ _ ⟨cs_mA hC1 hf2, ⟨t2, hM2⟩, u1, h92⟩ (by show _ + 2100 * cc ≤ _ + 2100 * cc2; omega) (by show _ + 110000 * cc ≤ _ + 110000 * cc2; omega)
        · exact absurd (hz.mpr hx1) q
    · exact absurd rfl q
  · obtain ⟨rfl, hC1⟩ := hp
    have hj := hj j rfl
    refine And.intro rfl (And.intro (And.intro (by omega) (fun N hN => by have hN := ab_Xs_n hN; omega)) (fun z hzR hz => ?_))
    have hz := ab_Xs_z hz
    subst hz
    refine And.intro rfl (And.intro (And.intro (by omega) (fun N hN => by have hN := ab_Xs_n hN; omega)) (fun z hzR hz => ?_))
    have hz := ab_Xs_z hz
    subst hz
    refine And.intro rfl (And.intro (And.intro (by omega) (fun N hN => by have hN := ab_Xs_n hN; omega)) (fun z hzR hz => ?_))
    have hz := ab_Xs_z hz
    subst hz
    refine And.intro rfl (And.intro (And.intro (by omega) (fun N hN => by have hN := ab_Xs_n hN; omega)) (fun z hzR hz => ?_))
    have hz := ab_Xs_z hz
    subst hz
    refine And.intro rfl (And.intro (And.intro (by omega) (fun N hN => by have hN := ab_Xs_n hN; omega)) (fun z hzR hz => ?_))
    have hz := ab_Xs_z hz
    subst hz
    refine Exists.intro _ (And.intro (by first | assumption | exact st_s | exact st_e (by decide) (by assumption) | exact st_e (by omega) (by assumption) | exact st_e (by decide) st_s | exact st_e (by omega) st_s | exact st_e (by decide) (st_e (by decide) (by assumption)) | exact st_e (by omega) (st_e (by omega) (by assumption))) (And.intro rfl (ab_inv_of hmm (by first | decide | omega) (by omega) (by omega) ?_)))
    intro z2 σ2 hp2
    obtain ⟨hf2, ⟨x2, rfl⟩, t2, hM2⟩ := hp2
    have q572 := hM2.h57
    have hth := m_thrown hM2
    have h92 : σ2.2 319 = some (lgc u1) := (hf2.2 319 (by unfold mA; omega)).trans h91
    refine Exists.intro _ (And.intro (by first | assumption | exact st_s | exact st_e (by decide) (by assumption) | exact st_e (by omega) (by assumption) | exact st_e (by decide) st_s | exact st_e (by omega) st_s | exact st_e (by decide) (st_e (by decide) (by assumption)) | exact st_e (by omega) (st_e (by omega) (by assumption))) (And.intro rfl (ab_inv_ev hth (by first | decide | omega) (by first | exact Nat.le_refl _ | omega) (by first | exact Nat.le_refl _ | omega) ?_)))
    refine And.intro (fun q => ?_) (fun q => ?_)
    · refine hA 19 _ rfl _ _ _ _ _ ?_
      refine And.intro (show ab_R (((j : Nat) : Int)) from rR (by omega) (by omega)) (And.intro (fun q => ?_) (fun q => ?_))
      · refine hA 22 _ rfl _ _ _ _ _ ?_
        exact hx _ _ _ _ _ _ _ _ ⟨cs_mA hC1 hf2, ⟨t2, hM2⟩, u1, h92⟩ (by show _ + 2100 * cc ≤ _ + 2100 * cc; omega) (by show _ + 110000 * cc ≤ _ + 110000 * cc; omega)
      · have q : ((j : Nat) : Int) = 0 := q
        omega
    · exact absurd rfl q
set_option maxRecDepth 100000 in
set_option maxHeartbeats 1000000 in
theorem c_delete (hA : ab_ruleL N0 sc bL_law 30 601024 7293033 lwP At) (hsc : ∀ j, ab_R (sc j)) (hi : i + 6 ≤ N0) (hN : N0 < 100000) (hL : LI σ S r th) (hk : k + 2100 ≤ 601024) (hn : n + 110000 ≤ 7293033) (y5 y6 : Option ab_V) (hx : LNx At i S k n) : At 23 (LLs i y5 y6) [] σ k n := by
  obtain ⟨cc, rows, K, va, R, f, m9, pl, c⟩ := S
  obtain ⟨⟨ad, hC⟩, ⟨t, hM⟩, u9, h9⟩ := hL
  have h0 := hC.1
  have hc := h_delete hC (sc (((i : Nat) : Int) + 1).toNat) (hsc _) h9
  have hm := fun (σ1 : ab_H) (h1 : ∀ a, 57 ≤ a → a ≤ 318 → σ1.2 a = σ.2 a) => g_delete (hM.keep h1) (sc (((i : Nat) : Int) + 1).toNat) (hsc _)
  generalize ho : (sg_delete cc rows K va R f m9 pl c (sc (((i : Nat) : Int) + 1).toNat)) = o at hc hm
  have hcc : ∀ x S1, o = .inl (x, S1) → S1.1 = cc := fun x S1 h => by subst h; exact cc_delete ho
  have hj : ∀ j, o = .inr j → j = 0 := fun j h => by
    subst h
    exact on_delete ho
  clear ho
  skip
  refine hA 23 _ rfl _ _ _ _ _ ?_
  refine And.intro rfl (And.intro (And.intro (by omega) (fun N hN => by have hN := ab_Xs_n hN; omega)) (fun z hzR hz => ?_))
  have hz := ab_Xs_z hz
  subst hz
  refine And.intro rfl (ab_invH_of hc (by first | decide | omega) (by omega) (by omega) ?_)
  intro z σ1 hp
  obtain ⟨hs1, hm1, u1, h91, hp⟩ := hp
  have q57 := (hM.keep hm1).h57
  have hmm := hm σ1 hm1
  rcases o with ⟨x, S1⟩ | j
  · obtain ⟨cc2, rows2, K2, va2, R2, f2, m2, pl2, c2⟩ := S1
    obtain ⟨rfl, hx1, hC1⟩ := hp
    have hcc : cc2 = cc := hcc _ _ rfl
    have hxR : ab_R (u1 0) := by rw [hx1]; exact ab_wr_R x
    have hxW := ab_wr_R x
    refine And.intro rfl (And.intro (And.intro (by omega) (fun N hN => by have hN := ab_Xs_n hN; omega)) (fun z hzR hz => ?_))
    have hz := ab_Xs_z hz
    subst hz
    refine Exists.intro _ (And.intro (by first | assumption | exact st_s | exact st_e (by decide) (by assumption) | exact st_e (by omega) (by assumption) | exact st_e (by decide) st_s | exact st_e (by omega) st_s | exact st_e (by decide) (st_e (by decide) (by assumption)) | exact st_e (by omega) (st_e (by omega) (by assumption))) (And.intro rfl (ab_inv_of hmm (by first | decide | omega) (by omega) (by omega) ?_)))
    intro z2 σ2 hp2
    obtain ⟨hf2, rfl, t2, hM2⟩ := hp2
    have q572 := hM2.h57
    have hth := m_thrown hM2
    have h92 : σ2.2 319 = some (lgc u1) := (hf2.2 319 (by unfold mA; omega)).trans h91
    refine Exists.intro _ (And.intro (by first | assumption | exact st_s | exact st_e (by decide) (by assumption) | exact st_e (by omega) (by assumption) | exact st_e (by decide) st_s | exact st_e (by omega) st_s | exact st_e (by decide) (st_e (by decide) (by assumption)) | exact st_e (by omega) (st_e (by omega) (by assumption))) (And.intro rfl (ab_inv_ev hth (by first | decide | omega) (by first | exact Nat.le_refl _ | omega) (by first | exact Nat.le_refl _ | omega) ?_)))
    refine And.intro (fun q => ?_) (fun q => ?_)
    · refine hA 25 _ rfl _ _ _ _ _ ?_
      refine And.intro (by first | assumption | exact b2i_R _ | exact rR (by omega) (by omega) | exact rR (by simp only [Int.toNat_natCast]; omega) (by simp only [Int.toNat_natCast]; omega)) (And.intro (fun q => ?_) (fun q => ?_))
      · exact absurd rfl q
      · refine hA 26 _ rfl _ _ _ _ _ ?_
        refine Exists.intro _ (Exists.intro _ (And.intro (by first | assumption | exact st_s | exact st_e (by decide) (by assumption) | exact st_e (by omega) (by assumption) | exact st_e (by decide) st_s | exact st_e (by omega) st_s | exact st_e (by decide) (st_e (by decide) (by assumption)) | exact st_e (by omega) (st_e (by omega) (by assumption))) (And.intro (by first | omega | (simp only [Int.toNat_natCast]; omega)) ?_)))
        refine And.intro (And.intro (by first | assumption | exact b2i_R _ | exact rR (by omega) (by omega) | exact rR (by simp only [Int.toNat_natCast]; omega) (by simp only [Int.toNat_natCast]; omega)) (by first | assumption | exact b2i_R _ | exact rR (by omega) (by omega) | exact rR (by simp only [Int.toNat_natCast]; omega) (by simp only [Int.toNat_natCast]; omega))) (fun z hzR hz => ?_)
        refine And.intro (by first | assumption | exact b2i_R _ | exact rR (by omega) (by omega) | exact rR (by simp only [Int.toNat_natCast]; omega) (by simp only [Int.toNat_natCast]; omega)) (And.intro (fun q => ?_) (fun q => ?_))
        · refine hA 28 _ rfl _ _ _ _ _ ?_
          exact hx _ _ _ _ _ _ _ _ ⟨cs_mA hC1 hf2, ⟨t2, hM2⟩, u1, h92⟩ (by show _ + 2100 * cc ≤ _ + 2100 * cc2; omega) (by show _ + 110000 * cc ≤ _ + 110000 * cc2; omega)
        · exact absurd (hz.mpr hx1) q
    · exact absurd rfl q
  · obtain ⟨rfl, hC1⟩ := hp
    have hj := hj j rfl
    refine And.intro rfl (And.intro (And.intro (by omega) (fun N hN => by have hN := ab_Xs_n hN; omega)) (fun z hzR hz => ?_))
    have hz := ab_Xs_z hz
    subst hz
    refine Exists.intro _ (And.intro (by first | assumption | exact st_s | exact st_e (by decide) (by assumption) | exact st_e (by omega) (by assumption) | exact st_e (by decide) st_s | exact st_e (by omega) st_s | exact st_e (by decide) (st_e (by decide) (by assumption)) | exact st_e (by omega) (st_e (by omega) (by assumption))) (And.intro rfl (ab_inv_of hmm (by first | decide | omega) (by omega) (by omega) ?_)))
    intro z2 σ2 hp2
    obtain ⟨hf2, ⟨x2, rfl⟩, t2, hM2⟩ := hp2
    have q572 := hM2.h57
    have hth := m_thrown hM2
    have h92 : σ2.2 319 = some (lgc u1) := (hf2.2 319 (by unfold mA; omega)).trans h91
    refine Exists.intro _ (And.intro (by first | assumption | exact st_s | exact st_e (by decide) (by assumption) | exact st_e (by omega) (by assumption) | exact st_e (by decide) st_s | exact st_e (by omega) st_s | exact st_e (by decide) (st_e (by decide) (by assumption)) | exact st_e (by omega) (st_e (by omega) (by assumption))) (And.intro rfl (ab_inv_ev hth (by first | decide | omega) (by first | exact Nat.le_refl _ | omega) (by first | exact Nat.le_refl _ | omega) ?_)))
    refine And.intro (fun q => ?_) (fun q => ?_)
    · refine hA 25 _ rfl _ _ _ _ _ ?_
      refine And.intro (show ab_R (((j : Nat) : Int) + 1) from rR (by omega) (by omega)) (And.intro (fun q => ?_) (fun q => ?_))
      · refine hA 28 _ rfl _ _ _ _ _ ?_
        exact hx _ _ _ _ _ _ _ _ ⟨cs_mA hC1 hf2, ⟨t2, hM2⟩, u1, h92⟩ (by show _ + 2100 * cc ≤ _ + 2100 * cc; omega) (by show _ + 110000 * cc ≤ _ + 110000 * cc; omega)
      · have q : ((j : Nat) : Int) + 1 = 0 := q
        omega
    · exact absurd rfl q
set_option maxRecDepth 100000 in
set_option maxHeartbeats 1000000 in
theorem c_close (hA : ab_ruleL N0 sc bL_law 30 601024 7293033 lwP At) (hsc : ∀ j, ab_R (sc j)) (hi : i + 6 ≤ N0) (hN : N0 < 100000) (hL : LI σ S r th) (hk : k + 2100 ≤ 601024) (hn : n + 110000 ≤ 7293033) (y5 y6 : Option ab_V) (hx : LNx At i S k n) : At 29 (LLs i y5 y6) [] σ k n := by
  obtain ⟨cc, rows, K, va, R, f, m9, pl, c⟩ := S
  obtain ⟨⟨ad, hC⟩, ⟨t, hM⟩, u9, h9⟩ := hL
  have h0 := hC.1
  have hs := hC.s
  have hc := f_close hC
  have hm := fun (σ1 : ab_H) (h1 : ∀ a, 57 ≤ a → a ≤ 318 → σ1.2 a = σ.2 a) => g_close (hM.keep h1)  
  generalize ho : (sg_close cc rows K va R f m9 pl c) = o at hc hm
  have hcc : ∀ x S1, o = .inl (x, S1) → S1.1 = cc := fun x S1 h => by subst h; exact cc_close ho
  have hno : ∀ j, o = .inr j → False := fun j h => by
    subst h
    unfold sg_close at ho
    repeat' split at ho
    all_goals cases ho
  clear ho
  skip
  refine hA 29 _ rfl _ _ _ _ _ ?_
  refine Exists.intro _ (And.intro (by first | assumption | exact st_s | exact st_e (by decide) (by assumption) | exact st_e (by omega) (by assumption) | exact st_e (by decide) st_s | exact st_e (by omega) st_s | exact st_e (by decide) (st_e (by decide) (by assumption)) | exact st_e (by omega) (st_e (by omega) (by assumption))) (And.intro rfl (ab_inv_of hc (by first | decide | omega) (by omega) (by omega) ?_)))
  intro z σ1 hp
  obtain ⟨hg, hp⟩ := hp
  have h91 : σ1.2 319 = some (lgc u9) := (hg.2 319 (by omega) (by unfold fcA; omega)).trans h9
  have hm1 : ∀ a, 57 ≤ a → a ≤ 318 → σ1.2 a = σ.2 a := fun a h1 h2 => hg.2 a (by omega) (by unfold fcA; omega)
  have q57 := (hM.keep hm1).h57
  have hmm := hm σ1 hm1
  rcases o with ⟨x, S1⟩ | j
  · obtain ⟨cc2, rows2, K2, va2, R2, f2, m2, pl2, c2⟩ := S1
    obtain ⟨rfl, hC1⟩ := hp
    have hcc : cc2 = cc := hcc _ _ rfl
    refine Exists.intro _ (And.intro (by first | assumption | exact st_s | exact st_e (by decide) (by assumption) | exact st_e (by omega) (by assumption) | exact st_e (by decide) st_s | exact st_e (by omega) st_s | exact st_e (by decide) (st_e (by decide) (by assumption)) | exact st_e (by omega) (st_e (by omega) (by assumption))) (And.intro rfl (ab_inv_of hmm (by first | decide | omega) (by omega) (by omega) ?_)))
    intro z2 σ2 hp2
    obtain ⟨hf2, rfl, t2, hM2⟩ := hp2
    have h92 : σ2.2 319 = some (lgc u9) := (hf2.2 319 (by unfold mA; omega)).trans h91
    refine And.intro (fun q => ?_) (fun q => ?_)
    · exact hx _ _ _ _ _ _ _ _ ⟨cs_mA hC1 hf2, ⟨t2, hM2⟩, u9, h92⟩ (by show _ + 2100 * cc ≤ _ + 2100 * cc2; omega) (by show _ + 110000 * cc ≤ _ + 110000 * cc2; omega)
    · exact absurd rfl q
  · exact (hno j rfl).elim
set_option maxRecDepth 100000 in
set_option maxHeartbeats 1000000 in
theorem c_ask (hA : ab_ruleL N0 sc bL_law 30 601024 7293033 lwP At) (hsc : ∀ j, ab_R (sc j)) (hi : i + 6 ≤ N0) (hN : N0 < 100000) (hL : LI σ S r th) (hk : k + 2100 ≤ 601024) (hn : n + 110000 ≤ 7293033) (y5 y6 : Option ab_V) (hx : LNx At i S k n) : At 31 (LLs i y5 y6) [] σ k n := by
  obtain ⟨cc, rows, K, va, R, f, m9, pl, c⟩ := S
  obtain ⟨⟨ad, hC⟩, ⟨t, hM⟩, u9, h9⟩ := hL
  have h0 := hC.1
  have hc := h_ask hC (sc (((i : Nat) : Int) + 1).toNat) (sc (((i : Nat) : Int) + 2).toNat) (hsc _) (hsc _) h9
  have hm := fun (σ1 : ab_H) (h1 : ∀ a, 57 ≤ a → a ≤ 318 → σ1.2 a = σ.2 a) => g_ask (hM.keep h1) (sc (((i : Nat) : Int) + 1).toNat) (sc (((i : Nat) : Int) + 2).toNat) (hsc _) (hsc _)
  generalize ho : (sg_ask cc rows K va R f m9 c (sc (((i : Nat) : Int) + 1).toNat) (sc (((i : Nat) : Int) + 2).toNat)) = o at hc hm
  have hcc : ∀ x S1, o = .inl (x, S1) → S1.1 = cc := fun x S1 h => by subst h; exact cc_ask ho
  have hj : ∀ j, o = .inr j → j = 0 ∨ j = 1 := fun j h => by
    subst h
    exact on_ask ho
  clear ho
  skip
  refine hA 31 _ rfl _ _ _ _ _ ?_
  refine And.intro rfl (And.intro (And.intro (by omega) (fun N hN => by have hN := ab_Xs_n hN; omega)) (fun z hzR hz => ?_))
  have hz := ab_Xs_z hz
  subst hz
  refine And.intro rfl (And.intro (And.intro (by omega) (fun N hN => by have hN := ab_Xs_n hN; omega)) (fun z hzR hz => ?_))
  have hz := ab_Xs_z hz
  subst hz
  refine And.intro rfl (ab_invH_of hc (by first | decide | omega) (by omega) (by omega) ?_)
  intro z σ1 hp
  obtain ⟨hs1, hm1, u1, h91, hp⟩ := hp
  have q57 := (hM.keep hm1).h57
  have hmm := hm σ1 hm1
  rcases o with ⟨x, S1⟩ | j
  · obtain ⟨cc2, rows2, K2, va2, R2, f2, m2, pl2, c2⟩ := S1
    obtain ⟨rfl, hx1, hC1⟩ := hp
    have hcc : cc2 = cc := hcc _ _ rfl
    have hxR : ab_R (u1 0) := by rw [hx1]; exact ab_wr_R x
    have hxW := ab_wr_R x
    refine And.intro rfl (And.intro (And.intro (by omega) (fun N hN => by have hN := ab_Xs_n hN; omega)) (fun z hzR hz => ?_))
    have hz := ab_Xs_z hz
    subst hz
    refine And.intro rfl (And.intro (And.intro (by omega) (fun N hN => by have hN := ab_Xs_n hN; omega)) (fun z hzR hz => ?_))
    have hz := ab_Xs_z hz
    subst hz
    refine Exists.intro _ (And.intro (by first | assumption | exact st_s | exact st_e (by decide) (by assumption) | exact st_e (by omega) (by assumption) | exact st_e (by decide) st_s | exact st_e (by omega) st_s | exact st_e (by decide) (st_e (by decide) (by assumption)) | exact st_e (by omega) (st_e (by omega) (by assumption))) (And.intro rfl (ab_inv_of hmm (by first | decide | omega) (by omega) (by omega) ?_)))
    intro z2 σ2 hp2
    obtain ⟨hf2, rfl, t2, hM2⟩ := hp2
    have q572 := hM2.h57
    have hth := m_thrown hM2
    have h92 : σ2.2 319 = some (lgc u1) := (hf2.2 319 (by unfold mA; omega)).trans h91
    refine Exists.intro _ (And.intro (by first | assumption | exact st_s | exact st_e (by decide) (by assumption) | exact st_e (by omega) (by assumption) | exact st_e (by decide) st_s | exact st_e (by omega) st_s | exact st_e (by decide) (st_e (by decide) (by assumption)) | exact st_e (by omega) (st_e (by omega) (by assumption))) (And.intro rfl (ab_inv_ev hth (by first | decide | omega) (by first | exact Nat.le_refl _ | omega) (by first | exact Nat.le_refl _ | omega) ?_)))
    refine And.intro (fun q => ?_) (fun q => ?_)
    · refine hA 33 _ rfl _ _ _ _ _ ?_
      refine And.intro (by first | assumption | exact b2i_R _ | exact rR (by omega) (by omega) | exact rR (by simp only [Int.toNat_natCast]; omega) (by simp only [Int.toNat_natCast]; omega)) (And.intro (fun q => ?_) (fun q => ?_))
      · exact absurd rfl q
      · refine hA 34 _ rfl _ _ _ _ _ ?_
        refine Exists.intro _ (Exists.intro _ (And.intro (by first | assumption | exact st_s | exact st_e (by decide) (by assumption) | exact st_e (by omega) (by assumption) | exact st_e (by decide) st_s | exact st_e (by omega) st_s | exact st_e (by decide) (st_e (by decide) (by assumption)) | exact st_e (by omega) (st_e (by omega) (by assumption))) (And.intro (by first | omega | (simp only [Int.toNat_natCast]; omega)) ?_)))
        refine And.intro (And.intro (by first | assumption | exact b2i_R _ | exact rR (by omega) (by omega) | exact rR (by simp only [Int.toNat_natCast]; omega) (by simp only [Int.toNat_natCast]; omega)) (by first | assumption | exact b2i_R _ | exact rR (by omega) (by omega) | exact rR (by simp only [Int.toNat_natCast]; omega) (by simp only [Int.toNat_natCast]; omega))) (fun z hzR hz => ?_)
        refine And.intro (by first | assumption | exact b2i_R _ | exact rR (by omega) (by omega) | exact rR (by simp only [Int.toNat_natCast]; omega) (by simp only [Int.toNat_natCast]; omega)) (And.intro (fun q => ?_) (fun q => ?_))
        · refine hA 36 _ rfl _ _ _ _ _ ?_
          exact hx _ _ _ _ _ _ _ _ ⟨cs_mA hC1 hf2, ⟨t2, hM2⟩, u1, h92⟩ (by show _ + 2100 * cc ≤ _ + 2100 * cc2; omega) (by show _ + 110000 * cc ≤ _ + 110000 * cc2; omega)
        · exact absurd (hz.mpr hx1) q
    · exact absurd rfl q
  · obtain ⟨rfl, hC1⟩ := hp
    have hj := hj j rfl
    refine And.intro rfl (And.intro (And.intro (by omega) (fun N hN => by have hN := ab_Xs_n hN; omega)) (fun z hzR hz => ?_))
    have hz := ab_Xs_z hz
    subst hz
    refine And.intro rfl (And.intro (And.intro (by omega) (fun N hN => by have hN := ab_Xs_n hN; omega)) (fun z hzR hz => ?_))
    have hz := ab_Xs_z hz
    subst hz
    refine Exists.intro _ (And.intro (by first | assumption | exact st_s | exact st_e (by decide) (by assumption) | exact st_e (by omega) (by assumption) | exact st_e (by decide) st_s | exact st_e (by omega) st_s | exact st_e (by decide) (st_e (by decide) (by assumption)) | exact st_e (by omega) (st_e (by omega) (by assumption))) (And.intro rfl (ab_inv_of hmm (by first | decide | omega) (by omega) (by omega) ?_)))
    intro z2 σ2 hp2
    obtain ⟨hf2, ⟨x2, rfl⟩, t2, hM2⟩ := hp2
    have q572 := hM2.h57
    have hth := m_thrown hM2
    have h92 : σ2.2 319 = some (lgc u1) := (hf2.2 319 (by unfold mA; omega)).trans h91
    refine Exists.intro _ (And.intro (by first | assumption | exact st_s | exact st_e (by decide) (by assumption) | exact st_e (by omega) (by assumption) | exact st_e (by decide) st_s | exact st_e (by omega) st_s | exact st_e (by decide) (st_e (by decide) (by assumption)) | exact st_e (by omega) (st_e (by omega) (by assumption))) (And.intro rfl (ab_inv_ev hth (by first | decide | omega) (by first | exact Nat.le_refl _ | omega) (by first | exact Nat.le_refl _ | omega) ?_)))
    refine And.intro (fun q => ?_) (fun q => ?_)
    · refine hA 33 _ rfl _ _ _ _ _ ?_
      refine And.intro (show ab_R (((j : Nat) : Int) + 1) from rR (by omega) (by omega)) (And.intro (fun q => ?_) (fun q => ?_))
      · refine hA 36 _ rfl _ _ _ _ _ ?_
        exact hx _ _ _ _ _ _ _ _ ⟨cs_mA hC1 hf2, ⟨t2, hM2⟩, u1, h92⟩ (by show _ + 2100 * cc ≤ _ + 2100 * cc; omega) (by show _ + 110000 * cc ≤ _ + 110000 * cc; omega)
      · have q : ((j : Nat) : Int) + 1 = 0 := q
        omega
    · exact absurd rfl q
set_option maxRecDepth 100000 in
set_option maxHeartbeats 1000000 in
theorem c_load (hA : ab_ruleL N0 sc bL_law 30 601024 7293033 lwP At) (hsc : ∀ j, ab_R (sc j)) (hi : i + 6 ≤ N0) (hN : N0 < 100000) (hL : LI σ S r th) (hk : k + 2100 ≤ 601024) (hn : n + 110000 ≤ 7293033) (y5 y6 : Option ab_V) (hx : LNx At i S k n) : At 37 (LLs i y5 y6) [] σ k n := by
  obtain ⟨cc, rows, K, va, R, f, m9, pl, c⟩ := S
  obtain ⟨⟨ad, hC⟩, ⟨t, hM⟩, u9, h9⟩ := hL
  have h0 := hC.1
  have hc := h_load hC (sc (((i : Nat) : Int) + 1).toNat) (sc (((i : Nat) : Int) + 2).toNat) (hsc _) (hsc _) h9
  have hm := fun (σ1 : ab_H) (h1 : ∀ a, 57 ≤ a → a ≤ 318 → σ1.2 a = σ.2 a) => g_load (hM.keep h1) (sc (((i : Nat) : Int) + 1).toNat) (sc (((i : Nat) : Int) + 2).toNat) (hsc _) (hsc _)
  generalize ho : (sg_load cc rows K va R f m9 c (sc (((i : Nat) : Int) + 1).toNat) (sc (((i : Nat) : Int) + 2).toNat)) = o at hc hm
  have hcc : ∀ x S1, o = .inl (x, S1) → S1.1 = cc := fun x S1 h => by subst h; exact cc_load ho
  have hj : ∀ j, o = .inr j → j = 0 ∨ j = 1 := fun j h => by
    subst h
    exact on_load ho
  clear ho
  skip
  refine hA 37 _ rfl _ _ _ _ _ ?_
  refine And.intro rfl (And.intro (And.intro (by omega) (fun N hN => by have hN := ab_Xs_n hN; omega)) (fun z hzR hz => ?_))
  have hz := ab_Xs_z hz
  subst hz
  refine And.intro rfl (And.intro (And.intro (by omega) (fun N hN => by have hN := ab_Xs_n hN; omega)) (fun z hzR hz => ?_))
  have hz := ab_Xs_z hz
  subst hz
  refine And.intro rfl (ab_invH_of hc (by first | decide | omega) (by omega) (by omega) ?_)
  intro z σ1 hp
  obtain ⟨hs1, hm1, u1, h91, hp⟩ := hp
  have q57 := (hM.keep hm1).h57
  have hmm := hm σ1 hm1
  rcases o with ⟨x, S1⟩ | j
  · obtain ⟨cc2, rows2, K2, va2, R2, f2, m2, pl2, c2⟩ := S1
    obtain ⟨rfl, hx1, hC1⟩ := hp
    have hcc : cc2 = cc := hcc _ _ rfl
    have hxR : ab_R (u1 0) := by rw [hx1]; exact ab_wr_R x
    have hxW := ab_wr_R x
    refine And.intro rfl (And.intro (And.intro (by omega) (fun N hN => by have hN := ab_Xs_n hN; omega)) (fun z hzR hz => ?_))
    have hz := ab_Xs_z hz
    subst hz
    refine And.intro rfl (And.intro (And.intro (by omega) (fun N hN => by have hN := ab_Xs_n hN; omega)) (fun z hzR hz => ?_))
    have hz := ab_Xs_z hz
    subst hz
    refine Exists.intro _ (And.intro (by first | assumption | exact st_s | exact st_e (by decide) (by assumption) | exact st_e (by omega) (by assumption) | exact st_e (by decide) st_s | exact st_e (by omega) st_s | exact st_e (by decide) (st_e (by decide) (by assumption)) | exact st_e (by omega) (st_e (by omega) (by assumption))) (And.intro rfl (ab_inv_of hmm (by first | decide | omega) (by omega) (by omega) ?_)))
    intro z2 σ2 hp2
    obtain ⟨hf2, rfl, t2, hM2⟩ := hp2
    have q572 := hM2.h57
    have hth := m_thrown hM2
    have h92 : σ2.2 319 = some (lgc u1) := (hf2.2 319 (by unfold mA; omega)).trans h91
    refine Exists.intro _ (And.intro (by first | assumption | exact st_s | exact st_e (by decide) (by assumption) | exact st_e (by omega) (by assumption) | exact st_e (by decide) st_s | exact st_e (by omega) st_s | exact st_e (by decide) (st_e (by decide) (by assumption)) | exact st_e (by omega) (st_e (by omega) (by assumption))) (And.intro rfl (ab_inv_ev hth (by first | decide | omega) (by first | exact Nat.le_refl _ | omega) (by first | exact Nat.le_refl _ | omega) ?_)))
    refine And.intro (fun q => ?_) (fun q => ?_)
    · refine hA 39 _ rfl _ _ _ _ _ ?_
      refine And.intro (by first | assumption | exact b2i_R _ | exact rR (by omega) (by omega) | exact rR (by simp only [Int.toNat_natCast]; omega) (by simp only [Int.toNat_natCast]; omega)) (And.intro (fun q => ?_) (fun q => ?_))
      · exact absurd rfl q
      · refine hA 40 _ rfl _ _ _ _ _ ?_
        refine Exists.intro _ (Exists.intro _ (And.intro (by first | assumption | exact st_s | exact st_e (by decide) (by assumption) | exact st_e (by omega) (by assumption) | exact st_e (by decide) st_s | exact st_e (by omega) st_s | exact st_e (by decide) (st_e (by decide) (by assumption)) | exact st_e (by omega) (st_e (by omega) (by assumption))) (And.intro (by first | omega | (simp only [Int.toNat_natCast]; omega)) ?_)))
        refine And.intro (And.intro (by first | assumption | exact b2i_R _ | exact rR (by omega) (by omega) | exact rR (by simp only [Int.toNat_natCast]; omega) (by simp only [Int.toNat_natCast]; omega)) (by first | assumption | exact b2i_R _ | exact rR (by omega) (by omega) | exact rR (by simp only [Int.toNat_natCast]; omega) (by simp only [Int.toNat_natCast]; omega))) (fun z hzR hz => ?_)
        refine And.intro (by first | assumption | exact b2i_R _ | exact rR (by omega) (by omega) | exact rR (by simp only [Int.toNat_natCast]; omega) (by simp only [Int.toNat_natCast]; omega)) (And.intro (fun q => ?_) (fun q => ?_))
        · refine hA 42 _ rfl _ _ _ _ _ ?_
          exact hx _ _ _ _ _ _ _ _ ⟨cs_mA hC1 hf2, ⟨t2, hM2⟩, u1, h92⟩ (by show _ + 2100 * cc ≤ _ + 2100 * cc2; omega) (by show _ + 110000 * cc ≤ _ + 110000 * cc2; omega)
        · exact absurd (hz.mpr hx1) q
    · exact absurd rfl q
  · obtain ⟨rfl, hC1⟩ := hp
    have hj := hj j rfl
    refine And.intro rfl (And.intro (And.intro (by omega) (fun N hN => by have hN := ab_Xs_n hN; omega)) (fun z hzR hz => ?_))
    have hz := ab_Xs_z hz
    subst hz
    refine And.intro rfl (And.intro (And.intro (by omega) (fun N hN => by have hN := ab_Xs_n hN; omega)) (fun z hzR hz => ?_))
    have hz := ab_Xs_z hz
    subst hz
    refine Exists.intro _ (And.intro (by first | assumption | exact st_s | exact st_e (by decide) (by assumption) | exact st_e (by omega) (by assumption) | exact st_e (by decide) st_s | exact st_e (by omega) st_s | exact st_e (by decide) (st_e (by decide) (by assumption)) | exact st_e (by omega) (st_e (by omega) (by assumption))) (And.intro rfl (ab_inv_of hmm (by first | decide | omega) (by omega) (by omega) ?_)))
    intro z2 σ2 hp2
    obtain ⟨hf2, ⟨x2, rfl⟩, t2, hM2⟩ := hp2
    have q572 := hM2.h57
    have hth := m_thrown hM2
    have h92 : σ2.2 319 = some (lgc u1) := (hf2.2 319 (by unfold mA; omega)).trans h91
    refine Exists.intro _ (And.intro (by first | assumption | exact st_s | exact st_e (by decide) (by assumption) | exact st_e (by omega) (by assumption) | exact st_e (by decide) st_s | exact st_e (by omega) st_s | exact st_e (by decide) (st_e (by decide) (by assumption)) | exact st_e (by omega) (st_e (by omega) (by assumption))) (And.intro rfl (ab_inv_ev hth (by first | decide | omega) (by first | exact Nat.le_refl _ | omega) (by first | exact Nat.le_refl _ | omega) ?_)))
    refine And.intro (fun q => ?_) (fun q => ?_)
    · refine hA 39 _ rfl _ _ _ _ _ ?_
      refine And.intro (show ab_R (((j : Nat) : Int) + 1) from rR (by omega) (by omega)) (And.intro (fun q => ?_) (fun q => ?_))
      · refine hA 42 _ rfl _ _ _ _ _ ?_
        exact hx _ _ _ _ _ _ _ _ ⟨cs_mA hC1 hf2, ⟨t2, hM2⟩, u1, h92⟩ (by show _ + 2100 * cc ≤ _ + 2100 * cc; omega) (by show _ + 110000 * cc ≤ _ + 110000 * cc; omega)
      · have q : ((j : Nat) : Int) + 1 = 0 := q
        omega
    · exact absurd rfl q
set_option maxRecDepth 100000 in
set_option maxHeartbeats 1000000 in
theorem c_fault (hA : ab_ruleL N0 sc bL_law 30 601024 7293033 lwP At) (hsc : ∀ j, ab_R (sc j)) (hi : i + 6 ≤ N0) (hN : N0 < 100000) (hL : LI σ S r th) (hk : k + 2100 ≤ 601024) (hn : n + 110000 ≤ 7293033) (y5 y6 : Option ab_V) (hx : LNx At i S k n) : At 43 (LLs i y5 y6) [] σ k n := by
  obtain ⟨cc, rows, K, va, R, f, m9, pl, c⟩ := S
  obtain ⟨⟨ad, hC⟩, ⟨t, hM⟩, u9, h9⟩ := hL
  have h0 := hC.1
  have hs := hC.s
  have hc := ab_call_mono (f_fault hC) (fun _ _ h => pure_st h)
  have hm := fun (σ1 : ab_H) (h1 : ∀ a, 57 ≤ a → a ≤ 318 → σ1.2 a = σ.2 a) => g_fault (hM.keep h1)  
  generalize ho : (stq (cc, rows, K, va, R, f, m9, pl, c) (.inl pl)) = o at hc hm
  have hcc : ∀ x S1, o = .inl (x, S1) → S1.1 = cc := fun x S1 h => by subst h; exact congrArg (fun S : St => S.1) (stq_l ho).2
  have hno : ∀ j, o = .inr j → False := fun j h => by
    subst h
    cases ho
  clear ho
  skip
  refine hA 43 _ rfl _ _ _ _ _ ?_
  refine Exists.intro _ (And.intro (by first | assumption | exact st_s | exact st_e (by decide) (by assumption) | exact st_e (by omega) (by assumption) | exact st_e (by decide) st_s | exact st_e (by omega) st_s | exact st_e (by decide) (st_e (by decide) (by assumption)) | exact st_e (by omega) (st_e (by omega) (by assumption))) (And.intro rfl (ab_inv_of hc (by first | decide | omega) (by omega) (by omega) ?_)))
  intro z σ1 hp
  obtain ⟨hg, hp⟩ := hp
  have h91 : σ1.2 319 = some (lgc u9) := (hg.2 319 (by omega) (by unfold fcA; omega)).trans h9
  have hm1 : ∀ a, 57 ≤ a → a ≤ 318 → σ1.2 a = σ.2 a := fun a h1 h2 => hg.2 a (by omega) (by unfold fcA; omega)
  have q57 := (hM.keep hm1).h57
  have hmm := hm σ1 hm1
  rcases o with ⟨x, S1⟩ | j
  · obtain ⟨cc2, rows2, K2, va2, R2, f2, m2, pl2, c2⟩ := S1
    obtain ⟨rfl, hC1⟩ := hp
    have hcc : cc2 = cc := hcc _ _ rfl
    refine Exists.intro _ (And.intro (by first | assumption | exact st_s | exact st_e (by decide) (by assumption) | exact st_e (by omega) (by assumption) | exact st_e (by decide) st_s | exact st_e (by omega) st_s | exact st_e (by decide) (st_e (by decide) (by assumption)) | exact st_e (by omega) (st_e (by omega) (by assumption))) (And.intro rfl (ab_inv_of hmm (by first | decide | omega) (by omega) (by omega) ?_)))
    intro z2 σ2 hp2
    obtain ⟨hf2, rfl, t2, hM2⟩ := hp2
    have h92 : σ2.2 319 = some (lgc u9) := (hf2.2 319 (by unfold mA; omega)).trans h91
    refine And.intro (fun q => ?_) (fun q => ?_)
    · exact hx _ _ _ _ _ _ _ _ ⟨cs_mA hC1 hf2, ⟨t2, hM2⟩, u9, h92⟩ (by show _ + 2100 * cc ≤ _ + 2100 * cc2; omega) (by show _ + 110000 * cc ≤ _ + 110000 * cc2; omega)
    · exact absurd rfl q
  · exact (hno j rfl).elim
set_option maxRecDepth 100000 in
set_option maxHeartbeats 1000000 in
theorem c_logic (hA : ab_ruleL N0 sc bL_law 30 601024 7293033 lwP At) (hsc : ∀ j, ab_R (sc j)) (hi : i + 6 ≤ N0) (hN : N0 < 100000) (hL : LI σ S r th) (hk : k + 2100 ≤ 601024) (hn : n + 110000 ≤ 7293033) (y5 y6 : Option ab_V) (hx : LNx At i S k n) : At 45 (LLs i y5 y6) [] σ k n := by
  obtain ⟨cc, rows, K, va, R, f, m9, pl, c⟩ := S
  obtain ⟨⟨ad, hC⟩, ⟨t, hM⟩, u9, h9⟩ := hL
  have h0 := hC.1
  have hc := h_logic hC (sc (((i : Nat) : Int) + 1).toNat) (sc (((i : Nat) : Int) + 2).toNat) (sc (((i : Nat) : Int) + 3).toNat) (sc (((i : Nat) : Int) + 4).toNat) (hsc _) (hsc _) (hsc _) (hsc _) h9
  have hm := fun (σ1 : ab_H) (h1 : ∀ a, 57 ≤ a → a ≤ 318 → σ1.2 a = σ.2 a) => g_logic (hM.keep h1) (sc (((i : Nat) : Int) + 1).toNat) (sc (((i : Nat) : Int) + 2).toNat) (sc (((i : Nat) : Int) + 3).toNat) (sc (((i : Nat) : Int) + 4).toNat) (hsc _) (hsc _) (hsc _) (hsc _)
  generalize ho : (sg_logic cc rows K va R f m9 pl c (sc (((i : Nat) : Int) + 1).toNat) (sc (((i : Nat) : Int) + 2).toNat) (sc (((i : Nat) : Int) + 3).toNat) (sc (((i : Nat) : Int) + 4).toNat)) = o at hc hm
  have hcc : ∀ x S1, o = .inl (x, S1) → S1.1 = cc := fun x S1 h => by subst h; exact cc_logic ho
  have hj : ∀ j, o = .inr j → j = 0 ∨ j = 1 := fun j h => by
    subst h
    exact on_logic ho
  clear ho
  skip
  refine hA 45 _ rfl _ _ _ _ _ ?_
  refine And.intro rfl (And.intro (And.intro (by omega) (fun N hN => by have hN := ab_Xs_n hN; omega)) (fun z hzR hz => ?_))
  have hz := ab_Xs_z hz
  subst hz
  refine And.intro rfl (And.intro (And.intro (by omega) (fun N hN => by have hN := ab_Xs_n hN; omega)) (fun z hzR hz => ?_))
  have hz := ab_Xs_z hz
  subst hz
  refine And.intro rfl (And.intro (And.intro (by omega) (fun N hN => by have hN := ab_Xs_n hN; omega)) (fun z hzR hz => ?_))
  have hz := ab_Xs_z hz
  subst hz
  refine And.intro rfl (And.intro (And.intro (by omega) (fun N hN => by have hN := ab_Xs_n hN; omega)) (fun z hzR hz => ?_))
  have hz := ab_Xs_z hz
  subst hz
  refine And.intro rfl (ab_invH_of hc (by first | decide | omega) (by omega) (by omega) ?_)
  intro z σ1 hp
  obtain ⟨hs1, hm1, u1, h91, hp⟩ := hp
  have q57 := (hM.keep hm1).h57
  have hmm := hm σ1 hm1
  rcases o with ⟨x, S1⟩ | j
  · obtain ⟨cc2, rows2, K2, va2, R2, f2, m2, pl2, c2⟩ := S1
    obtain ⟨rfl, hx1, hC1⟩ := hp
    have hcc : cc2 = cc := hcc _ _ rfl
    have hxR : ab_R (u1 0) := by rw [hx1]; exact ab_wr_R x
    have hxW := ab_wr_R x
    refine And.intro rfl (And.intro (And.intro (by omega) (fun N hN => by have hN := ab_Xs_n hN; omega)) (fun z hzR hz => ?_))
    have hz := ab_Xs_z hz
    subst hz
    refine And.intro rfl (And.intro (And.intro (by omega) (fun N hN => by have hN := ab_Xs_n hN; omega)) (fun z hzR hz => ?_))
    have hz := ab_Xs_z hz
    subst hz
    refine And.intro rfl (And.intro (And.intro (by omega) (fun N hN => by have hN := ab_Xs_n hN; omega)) (fun z hzR hz => ?_))
    have hz := ab_Xs_z hz
    subst hz
    refine And.intro rfl (And.intro (And.intro (by omega) (fun N hN => by have hN := ab_Xs_n hN; omega)) (fun z hzR hz => ?_))
    have hz := ab_Xs_z hz
    subst hz
    refine Exists.intro _ (And.intro (by first | assumption | exact st_s | exact st_e (by decide) (by assumption) | exact st_e (by omega) (by assumption) | exact st_e (by decide) st_s | exact st_e (by omega) st_s | exact st_e (by decide) (st_e (by decide) (by assumption)) | exact st_e (by omega) (st_e (by omega) (by assumption))) (And.intro rfl (ab_inv_of hmm (by first | decide | omega) (by omega) (by omega) ?_)))
    intro z2 σ2 hp2
    obtain ⟨hf2, rfl, t2, hM2⟩ := hp2
    have q572 := hM2.h57
    have hth := m_thrown hM2
    have h92 : σ2.2 319 = some (lgc u1) := (hf2.2 319 (by unfold mA; omega)).trans h91
    refine Exists.intro _ (And.intro (by first | assumption | exact st_s | exact st_e (by decide) (by assumption) | exact st_e (by omega) (by assumption) | exact st_e (by decide) st_s | exact st_e (by omega) st_s | exact st_e (by decide) (st_e (by decide) (by assumption)) | exact st_e (by omega) (st_e (by omega) (by assumption))) (And.intro rfl (ab_inv_ev hth (by first | decide | omega) (by first | exact Nat.le_refl _ | omega) (by first | exact Nat.le_refl _ | omega) ?_)))
    refine And.intro (fun q => ?_) (fun q => ?_)
    · refine hA 47 _ rfl _ _ _ _ _ ?_
      refine And.intro (by first | assumption | exact b2i_R _ | exact rR (by omega) (by omega) | exact rR (by simp only [Int.toNat_natCast]; omega) (by simp only [Int.toNat_natCast]; omega)) (And.intro (fun q => ?_) (fun q => ?_))
      · exact absurd rfl q
      · refine hA 48 _ rfl _ _ _ _ _ ?_
        refine Exists.intro _ (Exists.intro _ (And.intro (by first | assumption | exact st_s | exact st_e (by decide) (by assumption) | exact st_e (by omega) (by assumption) | exact st_e (by decide) st_s | exact st_e (by omega) st_s | exact st_e (by decide) (st_e (by decide) (by assumption)) | exact st_e (by omega) (st_e (by omega) (by assumption))) (And.intro (by first | omega | (simp only [Int.toNat_natCast]; omega)) ?_)))
        refine And.intro (And.intro (by first | assumption | exact b2i_R _ | exact rR (by omega) (by omega) | exact rR (by simp only [Int.toNat_natCast]; omega) (by simp only [Int.toNat_natCast]; omega)) (by first | assumption | exact b2i_R _ | exact rR (by omega) (by omega) | exact rR (by simp only [Int.toNat_natCast]; omega) (by simp only [Int.toNat_natCast]; omega))) (fun z hzR hz => ?_)
        refine And.intro (by first | assumption | exact b2i_R _ | exact rR (by omega) (by omega) | exact rR (by simp only [Int.toNat_natCast]; omega) (by simp only [Int.toNat_natCast]; omega)) (And.intro (fun q => ?_) (fun q => ?_))
        · refine hA 50 _ rfl _ _ _ _ _ ?_
          exact hx _ _ _ _ _ _ _ _ ⟨cs_mA hC1 hf2, ⟨t2, hM2⟩, u1, h92⟩ (by show _ + 2100 * cc ≤ _ + 2100 * cc2; omega) (by show _ + 110000 * cc ≤ _ + 110000 * cc2; omega)
        · exact absurd (hz.mpr hx1) q
    · exact absurd rfl q
  · obtain ⟨rfl, hC1⟩ := hp
    have hj := hj j rfl
    refine And.intro rfl (And.intro (And.intro (by omega) (fun N hN => by have hN := ab_Xs_n hN; omega)) (fun z hzR hz => ?_))
    have hz := ab_Xs_z hz
    subst hz
    refine And.intro rfl (And.intro (And.intro (by omega) (fun N hN => by have hN := ab_Xs_n hN; omega)) (fun z hzR hz => ?_))
    have hz := ab_Xs_z hz
    subst hz
    refine And.intro rfl (And.intro (And.intro (by omega) (fun N hN => by have hN := ab_Xs_n hN; omega)) (fun z hzR hz => ?_))
    have hz := ab_Xs_z hz
    subst hz
    refine And.intro rfl (And.intro (And.intro (by omega) (fun N hN => by have hN := ab_Xs_n hN; omega)) (fun z hzR hz => ?_))
    have hz := ab_Xs_z hz
    subst hz
    refine Exists.intro _ (And.intro (by first | assumption | exact st_s | exact st_e (by decide) (by assumption) | exact st_e (by omega) (by assumption) | exact st_e (by decide) st_s | exact st_e (by omega) st_s | exact st_e (by decide) (st_e (by decide) (by assumption)) | exact st_e (by omega) (st_e (by omega) (by assumption))) (And.intro rfl (ab_inv_of hmm (by first | decide | omega) (by omega) (by omega) ?_)))
    intro z2 σ2 hp2
    obtain ⟨hf2, ⟨x2, rfl⟩, t2, hM2⟩ := hp2
    have q572 := hM2.h57
    have hth := m_thrown hM2
    have h92 : σ2.2 319 = some (lgc u1) := (hf2.2 319 (by unfold mA; omega)).trans h91
    refine Exists.intro _ (And.intro (by first | assumption | exact st_s | exact st_e (by decide) (by assumption) | exact st_e (by omega) (by assumption) | exact st_e (by decide) st_s | exact st_e (by omega) st_s | exact st_e (by decide) (st_e (by decide) (by assumption)) | exact st_e (by omega) (st_e (by omega) (by assumption))) (And.intro rfl (ab_inv_ev hth (by first | decide | omega) (by first | exact Nat.le_refl _ | omega) (by first | exact Nat.le_refl _ | omega) ?_)))
    refine And.intro (fun q => ?_) (fun q => ?_)
    · refine hA 47 _ rfl _ _ _ _ _ ?_
      refine And.intro (show ab_R (((j : Nat) : Int) + 1) from rR (by omega) (by omega)) (And.intro (fun q => ?_) (fun q => ?_))
      · refine hA 50 _ rfl _ _ _ _ _ ?_
        exact hx _ _ _ _ _ _ _ _ ⟨cs_mA hC1 hf2, ⟨t2, hM2⟩, u1, h92⟩ (by show _ + 2100 * cc ≤ _ + 2100 * cc; omega) (by show _ + 110000 * cc ≤ _ + 110000 * cc; omega)
      · have q : ((j : Nat) : Int) + 1 = 0 := q
        omega
    · exact absurd rfl q
set_option maxRecDepth 100000 in
set_option maxHeartbeats 1000000 in
theorem c_turn (hA : ab_ruleL N0 sc bL_law 30 601024 7293033 lwP At) (hsc : ∀ j, ab_R (sc j)) (hi : i + 6 ≤ N0) (hN : N0 < 100000) (hL : LI σ S r th) (hk : k + 2100 ≤ 601024) (hn : n + 110000 ≤ 7293033) (y5 y6 : Option ab_V) (hx : LNx At i S k n) : At 51 (LLs i y5 y6) [] σ k n := by
  obtain ⟨cc, rows, K, va, R, f, m9, pl, c⟩ := S
  obtain ⟨⟨ad, hC⟩, ⟨t, hM⟩, u9, h9⟩ := hL
  have h0 := hC.1
  have hc := h_turn hC (sc (((i : Nat) : Int) + 1).toNat) (hsc _) h9
  have hm := fun (σ1 : ab_H) (h1 : ∀ a, 57 ≤ a → a ≤ 318 → σ1.2 a = σ.2 a) => g_turn (hM.keep h1) (sc (((i : Nat) : Int) + 1).toNat) (hsc _)
  generalize ho : (sg_turn cc rows K va R f m9 pl c (sc (((i : Nat) : Int) + 1).toNat)) = o at hc hm
  have hcc : ∀ x S1, o = .inl (x, S1) → S1.1 = cc := fun x S1 h => by subst h; exact cc_turn ho
  have hj : ∀ j, o = .inr j → j = 0 := fun j h => by
    subst h
    exact on_turn ho
  clear ho
  skip
  refine hA 51 _ rfl _ _ _ _ _ ?_
  refine And.intro rfl (And.intro (And.intro (by omega) (fun N hN => by have hN := ab_Xs_n hN; omega)) (fun z hzR hz => ?_))
  have hz := ab_Xs_z hz
  subst hz
  refine And.intro rfl (ab_invH_of hc (by first | decide | omega) (by omega) (by omega) ?_)
  intro z σ1 hp
  obtain ⟨hs1, hm1, u1, h91, hp⟩ := hp
  have q57 := (hM.keep hm1).h57
  have hmm := hm σ1 hm1
  rcases o with ⟨x, S1⟩ | j
  · obtain ⟨cc2, rows2, K2, va2, R2, f2, m2, pl2, c2⟩ := S1
    obtain ⟨rfl, hx1, hC1⟩ := hp
    have hcc : cc2 = cc := hcc _ _ rfl
    have hxR : ab_R (u1 0) := by rw [hx1]; exact ab_wr_R x
    have hxW := ab_wr_R x
    refine And.intro rfl (And.intro (And.intro (by omega) (fun N hN => by have hN := ab_Xs_n hN; omega)) (fun z hzR hz => ?_))
    have hz := ab_Xs_z hz
    subst hz
    refine Exists.intro _ (And.intro (by first | assumption | exact st_s | exact st_e (by decide) (by assumption) | exact st_e (by omega) (by assumption) | exact st_e (by decide) st_s | exact st_e (by omega) st_s | exact st_e (by decide) (st_e (by decide) (by assumption)) | exact st_e (by omega) (st_e (by omega) (by assumption))) (And.intro rfl (ab_inv_of hmm (by first | decide | omega) (by omega) (by omega) ?_)))
    intro z2 σ2 hp2
    obtain ⟨hf2, rfl, t2, hM2⟩ := hp2
    have q572 := hM2.h57
    have hth := m_thrown hM2
    have h92 : σ2.2 319 = some (lgc u1) := (hf2.2 319 (by unfold mA; omega)).trans h91
    refine Exists.intro _ (And.intro (by first | assumption | exact st_s | exact st_e (by decide) (by assumption) | exact st_e (by omega) (by assumption) | exact st_e (by decide) st_s | exact st_e (by omega) st_s | exact st_e (by decide) (st_e (by decide) (by assumption)) | exact st_e (by omega) (st_e (by omega) (by assumption))) (And.intro rfl (ab_inv_ev hth (by first | decide | omega) (by first | exact Nat.le_refl _ | omega) (by first | exact Nat.le_refl _ | omega) ?_)))
    refine And.intro (fun q => ?_) (fun q => ?_)
    · refine hA 53 _ rfl _ _ _ _ _ ?_
      refine And.intro (by first | assumption | exact b2i_R _ | exact rR (by omega) (by omega) | exact rR (by simp only [Int.toNat_natCast]; omega) (by simp only [Int.toNat_natCast]; omega)) (And.intro (fun q => ?_) (fun q => ?_))
      · exact absurd rfl q
      · refine hA 54 _ rfl _ _ _ _ _ ?_
        refine Exists.intro _ (Exists.intro _ (And.intro (by first | assumption | exact st_s | exact st_e (by decide) (by assumption) | exact st_e (by omega) (by assumption) | exact st_e (by decide) st_s | exact st_e (by omega) st_s | exact st_e (by decide) (st_e (by decide) (by assumption)) | exact st_e (by omega) (st_e (by omega) (by assumption))) (And.intro (by first | omega | (simp only [Int.toNat_natCast]; omega)) ?_)))
        refine And.intro (And.intro (by first | assumption | exact b2i_R _ | exact rR (by omega) (by omega) | exact rR (by simp only [Int.toNat_natCast]; omega) (by simp only [Int.toNat_natCast]; omega)) (by first | assumption | exact b2i_R _ | exact rR (by omega) (by omega) | exact rR (by simp only [Int.toNat_natCast]; omega) (by simp only [Int.toNat_natCast]; omega))) (fun z hzR hz => ?_)
        refine And.intro (by first | assumption | exact b2i_R _ | exact rR (by omega) (by omega) | exact rR (by simp only [Int.toNat_natCast]; omega) (by simp only [Int.toNat_natCast]; omega)) (And.intro (fun q => ?_) (fun q => ?_))
        · refine hA 56 _ rfl _ _ _ _ _ ?_
          exact hx _ _ _ _ _ _ _ _ ⟨cs_mA hC1 hf2, ⟨t2, hM2⟩, u1, h92⟩ (by show _ + 2100 * cc ≤ _ + 2100 * cc2; omega) (by show _ + 110000 * cc ≤ _ + 110000 * cc2; omega)
        · exact absurd (hz.mpr hx1) q
    · exact absurd rfl q
  · obtain ⟨rfl, hC1⟩ := hp
    have hj := hj j rfl
    refine And.intro rfl (And.intro (And.intro (by omega) (fun N hN => by have hN := ab_Xs_n hN; omega)) (fun z hzR hz => ?_))
    have hz := ab_Xs_z hz
    subst hz
    refine Exists.intro _ (And.intro (by first | assumption | exact st_s | exact st_e (by decide) (by assumption) | exact st_e (by omega) (by assumption) | exact st_e (by decide) st_s | exact st_e (by omega) st_s | exact st_e (by decide) (st_e (by decide) (by assumption)) | exact st_e (by omega) (st_e (by omega) (by assumption))) (And.intro rfl (ab_inv_of hmm (by first | decide | omega) (by omega) (by omega) ?_)))
    intro z2 σ2 hp2
    obtain ⟨hf2, ⟨x2, rfl⟩, t2, hM2⟩ := hp2
    have q572 := hM2.h57
    have hth := m_thrown hM2
    have h92 : σ2.2 319 = some (lgc u1) := (hf2.2 319 (by unfold mA; omega)).trans h91
    refine Exists.intro _ (And.intro (by first | assumption | exact st_s | exact st_e (by decide) (by assumption) | exact st_e (by omega) (by assumption) | exact st_e (by decide) st_s | exact st_e (by omega) st_s | exact st_e (by decide) (st_e (by decide) (by assumption)) | exact st_e (by omega) (st_e (by omega) (by assumption))) (And.intro rfl (ab_inv_ev hth (by first | decide | omega) (by first | exact Nat.le_refl _ | omega) (by first | exact Nat.le_refl _ | omega) ?_)))
    refine And.intro (fun q => ?_) (fun q => ?_)
    · refine hA 53 _ rfl _ _ _ _ _ ?_
      refine And.intro (show ab_R (((j : Nat) : Int) + 1) from rR (by omega) (by omega)) (And.intro (fun q => ?_) (fun q => ?_))
      · refine hA 56 _ rfl _ _ _ _ _ ?_
        exact hx _ _ _ _ _ _ _ _ ⟨cs_mA hC1 hf2, ⟨t2, hM2⟩, u1, h92⟩ (by show _ + 2100 * cc ≤ _ + 2100 * cc; omega) (by show _ + 110000 * cc ≤ _ + 110000 * cc; omega)
      · have q : ((j : Nat) : Int) + 1 = 0 := q
        omega
    · exact absurd rfl q
set_option maxRecDepth 100000 in
set_option maxHeartbeats 1000000 in
theorem c_told (hA : ab_ruleL N0 sc bL_law 30 601024 7293033 lwP At) (hsc : ∀ j, ab_R (sc j)) (hi : i + 6 ≤ N0) (hN : N0 < 100000) (hL : LI σ S r th) (hk : k + 2100 ≤ 601024) (hn : n + 110000 ≤ 7293033) (y5 y6 : Option ab_V) (hx : LNx At i S k n) : At 57 (LLs i y5 y6) [] σ k n := by
  obtain ⟨cc, rows, K, va, R, f, m9, pl, c⟩ := S
  obtain ⟨⟨ad, hC⟩, ⟨t, hM⟩, u9, h9⟩ := hL
  have h0 := hC.1
  have hc := h_told hC (sc (((i : Nat) : Int) + 1).toNat) (hsc _) h9
  have hm := fun (σ1 : ab_H) (h1 : ∀ a, 57 ≤ a → a ≤ 318 → σ1.2 a = σ.2 a) => g_told (hM.keep h1) (sc (((i : Nat) : Int) + 1).toNat) (hsc _)
  generalize ho : (stq (cc, rows, K, va, R, f, m9, pl, c) (sp_told cc rows K va R m9 (sc (((i : Nat) : Int) + 1).toNat))) = o at hc hm
  have hcc : ∀ x S1, o = .inl (x, S1) → S1.1 = cc := fun x S1 h => by subst h; exact congrArg (fun S : St => S.1) (stq_l ho).2
  have hj : ∀ j, o = .inr j → j = 1 := fun j h => by
    subst h
    exact on_told (stq_i ho)
  clear ho
  skip
  refine hA 57 _ rfl _ _ _ _ _ ?_
  refine And.intro rfl (And.intro (And.intro (by omega) (fun N hN => by have hN := ab_Xs_n hN; omega)) (fun z hzR hz => ?_))
  have hz := ab_Xs_z hz
  subst hz
  refine And.intro rfl (ab_invH_of hc (by first | decide | omega) (by omega) (by omega) ?_)
  intro z σ1 hp
  obtain ⟨hs1, hm1, u1, h91, hp⟩ := hp
  have q57 := (hM.keep hm1).h57
  have hmm := hm σ1 hm1
  rcases o with ⟨x, S1⟩ | j
  · obtain ⟨cc2, rows2, K2, va2, R2, f2, m2, pl2, c2⟩ := S1
    obtain ⟨rfl, hx1, hC1⟩ := hp
    have hcc : cc2 = cc := hcc _ _ rfl
    have hxR : ab_R (u1 0) := by rw [hx1]; exact ab_wr_R x
    have hxW := ab_wr_R x
    refine And.intro rfl (And.intro (And.intro (by omega) (fun N hN => by have hN := ab_Xs_n hN; omega)) (fun z hzR hz => ?_))
    have hz := ab_Xs_z hz
    subst hz
    refine Exists.intro _ (And.intro (by first | assumption | exact st_s | exact st_e (by decide) (by assumption) | exact st_e (by omega) (by assumption) | exact st_e (by decide) st_s | exact st_e (by omega) st_s | exact st_e (by decide) (st_e (by decide) (by assumption)) | exact st_e (by omega) (st_e (by omega) (by assumption))) (And.intro rfl (ab_inv_of hmm (by first | decide | omega) (by omega) (by omega) ?_)))
    intro z2 σ2 hp2
    obtain ⟨hf2, rfl, t2, hM2⟩ := hp2
    have q572 := hM2.h57
    have hth := m_thrown hM2
    have h92 : σ2.2 319 = some (lgc u1) := (hf2.2 319 (by unfold mA; omega)).trans h91
    refine Exists.intro _ (And.intro (by first | assumption | exact st_s | exact st_e (by decide) (by assumption) | exact st_e (by omega) (by assumption) | exact st_e (by decide) st_s | exact st_e (by omega) st_s | exact st_e (by decide) (st_e (by decide) (by assumption)) | exact st_e (by omega) (st_e (by omega) (by assumption))) (And.intro rfl (ab_inv_ev hth (by first | decide | omega) (by first | exact Nat.le_refl _ | omega) (by first | exact Nat.le_refl _ | omega) ?_)))
    refine And.intro (fun q => ?_) (fun q => ?_)
    · refine hA 59 _ rfl _ _ _ _ _ ?_
      refine And.intro (by first | assumption | exact b2i_R _ | exact rR (by omega) (by omega) | exact rR (by simp only [Int.toNat_natCast]; omega) (by simp only [Int.toNat_natCast]; omega)) (And.intro (fun q => ?_) (fun q => ?_))
      · exact absurd rfl q
      · refine hA 60 _ rfl _ _ _ _ _ ?_
        refine Exists.intro _ (Exists.intro _ (And.intro (by first | assumption | exact st_s | exact st_e (by decide) (by assumption) | exact st_e (by omega) (by assumption) | exact st_e (by decide) st_s | exact st_e (by omega) st_s | exact st_e (by decide) (st_e (by decide) (by assumption)) | exact st_e (by omega) (st_e (by omega) (by assumption))) (And.intro (by first | omega | (simp only [Int.toNat_natCast]; omega)) ?_)))
        refine And.intro (And.intro (by first | assumption | exact b2i_R _ | exact rR (by omega) (by omega) | exact rR (by simp only [Int.toNat_natCast]; omega) (by simp only [Int.toNat_natCast]; omega)) (by first | assumption | exact b2i_R _ | exact rR (by omega) (by omega) | exact rR (by simp only [Int.toNat_natCast]; omega) (by simp only [Int.toNat_natCast]; omega))) (fun z hzR hz => ?_)
        refine And.intro (by first | assumption | exact b2i_R _ | exact rR (by omega) (by omega) | exact rR (by simp only [Int.toNat_natCast]; omega) (by simp only [Int.toNat_natCast]; omega)) (And.intro (fun q => ?_) (fun q => ?_))
        · refine hA 62 _ rfl _ _ _ _ _ ?_
          exact hx _ _ _ _ _ _ _ _ ⟨cs_mA hC1 hf2, ⟨t2, hM2⟩, u1, h92⟩ (by show _ + 2100 * cc ≤ _ + 2100 * cc2; omega) (by show _ + 110000 * cc ≤ _ + 110000 * cc2; omega)
        · exact absurd (hz.mpr hx1) q
    · exact absurd rfl q
  · obtain ⟨rfl, hC1⟩ := hp
    have hj := hj j rfl
    refine And.intro rfl (And.intro (And.intro (by omega) (fun N hN => by have hN := ab_Xs_n hN; omega)) (fun z hzR hz => ?_))
    have hz := ab_Xs_z hz
    subst hz
    refine Exists.intro _ (And.intro (by first | assumption | exact st_s | exact st_e (by decide) (by assumption) | exact st_e (by omega) (by assumption) | exact st_e (by decide) st_s | exact st_e (by omega) st_s | exact st_e (by decide) (st_e (by decide) (by assumption)) | exact st_e (by omega) (st_e (by omega) (by assumption))) (And.intro rfl (ab_inv_of hmm (by first | decide | omega) (by omega) (by omega) ?_)))
    intro z2 σ2 hp2
    obtain ⟨hf2, ⟨x2, rfl⟩, t2, hM2⟩ := hp2
    have q572 := hM2.h57
    have hth := m_thrown hM2
    have h92 : σ2.2 319 = some (lgc u1) := (hf2.2 319 (by unfold mA; omega)).trans h91
    refine Exists.intro _ (And.intro (by first | assumption | exact st_s | exact st_e (by decide) (by assumption) | exact st_e (by omega) (by assumption) | exact st_e (by decide) st_s | exact st_e (by omega) st_s | exact st_e (by decide) (st_e (by decide) (by assumption)) | exact st_e (by omega) (st_e (by omega) (by assumption))) (And.intro rfl (ab_inv_ev hth (by first | decide | omega) (by first | exact Nat.le_refl _ | omega) (by first | exact Nat.le_refl _ | omega) ?_)))
    refine And.intro (fun q => ?_) (fun q => ?_)
    · refine hA 59 _ rfl _ _ _ _ _ ?_
      refine And.intro (show ab_R (((j : Nat) : Int)) from rR (by omega) (by omega)) (And.intro (fun q => ?_) (fun q => ?_))
      · refine hA 62 _ rfl _ _ _ _ _ ?_
        exact hx _ _ _ _ _ _ _ _ ⟨cs_mA hC1 hf2, ⟨t2, hM2⟩, u1, h92⟩ (by show _ + 2100 * cc ≤ _ + 2100 * cc; omega) (by show _ + 110000 * cc ≤ _ + 110000 * cc; omega)
      · have q : ((j : Nat) : Int) = 0 := q
        omega
    · exact absurd rfl q
set_option maxRecDepth 100000 in
set_option maxHeartbeats 1000000 in
theorem c_columnOf (hA : ab_ruleL N0 sc bL_law 30 601024 7293033 lwP At) (hsc : ∀ j, ab_R (sc j)) (hi : i + 6 ≤ N0) (hN : N0 < 100000) (hL : LI σ S r th) (hk : k + 2100 ≤ 601024) (hn : n + 110000 ≤ 7293033) (y5 y6 : Option ab_V) (hx : LNx At i S k n) : At 63 (LLs i y5 y6) [] σ k n := by
  obtain ⟨cc, rows, K, va, R, f, m9, pl, c⟩ := S
  obtain ⟨⟨ad, hC⟩, ⟨t, hM⟩, u9, h9⟩ := hL
  have h0 := hC.1
  have hc := h_columnOf hC (sc (((i : Nat) : Int) + 1).toNat) (sc (((i : Nat) : Int) + 2).toNat) (hsc _) (hsc _) h9
  have hm := fun (σ1 : ab_H) (h1 : ∀ a, 57 ≤ a → a ≤ 318 → σ1.2 a = σ.2 a) => g_columnOf (hM.keep h1) (sc (((i : Nat) : Int) + 1).toNat) (sc (((i : Nat) : Int) + 2).toNat) (hsc _) (hsc _)
  generalize ho : (stq (cc, rows, K, va, R, f, m9, pl, c) (sp_columnOf cc rows K va (sc (((i : Nat) : Int) + 1).toNat) (sc (((i : Nat) : Int) + 2).toNat))) = o at hc hm
  have hcc : ∀ x S1, o = .inl (x, S1) → S1.1 = cc := fun x S1 h => by subst h; exact congrArg (fun S : St => S.1) (stq_l ho).2
  have hj : ∀ j, o = .inr j → j = 0 ∨ j = 1 := fun j h => by
    subst h
    exact on_columnOf (stq_i ho)
  clear ho
  skip
  refine hA 63 _ rfl _ _ _ _ _ ?_
  refine And.intro rfl (And.intro (And.intro (by omega) (fun N hN => by have hN := ab_Xs_n hN; omega)) (fun z hzR hz => ?_))
  have hz := ab_Xs_z hz
  subst hz
  refine And.intro rfl (And.intro (And.intro (by omega) (fun N hN => by have hN := ab_Xs_n hN; omega)) (fun z hzR hz => ?_))
  have hz := ab_Xs_z hz
  subst hz
  refine And.intro rfl (ab_invH_of hc (by first | decide | omega) (by omega) (by omega) ?_)
  intro z σ1 hp
  obtain ⟨hs1, hm1, u1, h91, hp⟩ := hp
  have q57 := (hM.keep hm1).h57
  have hmm := hm σ1 hm1
  rcases o with ⟨x, S1⟩ | j
  · obtain ⟨cc2, rows2, K2, va2, R2, f2, m2, pl2, c2⟩ := S1
    obtain ⟨rfl, hx1, hC1⟩ := hp
    have hcc : cc2 = cc := hcc _ _ rfl
    have hxR : ab_R (u1 0) := by rw [hx1]; exact ab_wr_R x
    have hxW := ab_wr_R x
    refine And.intro rfl (And.intro (And.intro (by omega) (fun N hN => by have hN := ab_Xs_n hN; omega)) (fun z hzR hz => ?_))
    have hz := ab_Xs_z hz
    subst hz
    refine And.intro rfl (And.intro (And.intro (by omega) (fun N hN => by have hN := ab_Xs_n hN; omega)) (fun z hzR hz => ?_))
    have hz := ab_Xs_z hz
    subst hz
    refine Exists.intro _ (And.intro (by first | assumption | exact st_s | exact st_e (by decide) (by assumption) | exact st_e (by omega) (by assumption) | exact st_e (by decide) st_s | exact st_e (by omega) st_s | exact st_e (by decide) (st_e (by decide) (by assumption)) | exact st_e (by omega) (st_e (by omega) (by assumption))) (And.intro rfl (ab_inv_of hmm (by first | decide | omega) (by omega) (by omega) ?_)))
    intro z2 σ2 hp2
    obtain ⟨hf2, rfl, t2, hM2⟩ := hp2
    have q572 := hM2.h57
    have hth := m_thrown hM2
    have h92 : σ2.2 319 = some (lgc u1) := (hf2.2 319 (by unfold mA; omega)).trans h91
    refine Exists.intro _ (And.intro (by first | assumption | exact st_s | exact st_e (by decide) (by assumption) | exact st_e (by omega) (by assumption) | exact st_e (by decide) st_s | exact st_e (by omega) st_s | exact st_e (by decide) (st_e (by decide) (by assumption)) | exact st_e (by omega) (st_e (by omega) (by assumption))) (And.intro rfl (ab_inv_ev hth (by first | decide | omega) (by first | exact Nat.le_refl _ | omega) (by first | exact Nat.le_refl _ | omega) ?_)))
    refine And.intro (fun q => ?_) (fun q => ?_)
    · refine hA 65 _ rfl _ _ _ _ _ ?_
      refine And.intro (by first | assumption | exact b2i_R _ | exact rR (by omega) (by omega) | exact rR (by simp only [Int.toNat_natCast]; omega) (by simp only [Int.toNat_natCast]; omega)) (And.intro (fun q => ?_) (fun q => ?_))
      · exact absurd rfl q
      · refine hA 66 _ rfl _ _ _ _ _ ?_
        refine Exists.intro _ (Exists.intro _ (And.intro (by first | assumption | exact st_s | exact st_e (by decide) (by assumption) | exact st_e (by omega) (by assumption) | exact st_e (by decide) st_s | exact st_e (by omega) st_s | exact st_e (by decide) (st_e (by decide) (by assumption)) | exact st_e (by omega) (st_e (by omega) (by assumption))) (And.intro (by first | omega | (simp only [Int.toNat_natCast]; omega)) ?_)))
        refine And.intro (And.intro (by first | assumption | exact b2i_R _ | exact rR (by omega) (by omega) | exact rR (by simp only [Int.toNat_natCast]; omega) (by simp only [Int.toNat_natCast]; omega)) (by first | assumption | exact b2i_R _ | exact rR (by omega) (by omega) | exact rR (by simp only [Int.toNat_natCast]; omega) (by simp only [Int.toNat_natCast]; omega))) (fun z hzR hz => ?_)
        refine And.intro (by first | assumption | exact b2i_R _ | exact rR (by omega) (by omega) | exact rR (by simp only [Int.toNat_natCast]; omega) (by simp only [Int.toNat_natCast]; omega)) (And.intro (fun q => ?_) (fun q => ?_))
        · refine hA 68 _ rfl _ _ _ _ _ ?_
          exact hx _ _ _ _ _ _ _ _ ⟨cs_mA hC1 hf2, ⟨t2, hM2⟩, u1, h92⟩ (by show _ + 2100 * cc ≤ _ + 2100 * cc2; omega) (by show _ + 110000 * cc ≤ _ + 110000 * cc2; omega)
        · exact absurd (hz.mpr hx1) q
    · exact absurd rfl q
  · obtain ⟨rfl, hC1⟩ := hp
    have hj := hj j rfl
    refine And.intro rfl (And.intro (And.intro (by omega) (fun N hN => by have hN := ab_Xs_n hN; omega)) (fun z hzR hz => ?_))
    have hz := ab_Xs_z hz
    subst hz
    refine And.intro rfl (And.intro (And.intro (by omega) (fun N hN => by have hN := ab_Xs_n hN; omega)) (fun z hzR hz => ?_))
    have hz := ab_Xs_z hz
    subst hz
    refine Exists.intro _ (And.intro (by first | assumption | exact st_s | exact st_e (by decide) (by assumption) | exact st_e (by omega) (by assumption) | exact st_e (by decide) st_s | exact st_e (by omega) st_s | exact st_e (by decide) (st_e (by decide) (by assumption)) | exact st_e (by omega) (st_e (by omega) (by assumption))) (And.intro rfl (ab_inv_of hmm (by first | decide | omega) (by omega) (by omega) ?_)))
    intro z2 σ2 hp2
    obtain ⟨hf2, ⟨x2, rfl⟩, t2, hM2⟩ := hp2
    have q572 := hM2.h57
    have hth := m_thrown hM2
    have h92 : σ2.2 319 = some (lgc u1) := (hf2.2 319 (by unfold mA; omega)).trans h91
    refine Exists.intro _ (And.intro (by first | assumption | exact st_s | exact st_e (by decide) (by assumption) | exact st_e (by omega) (by assumption) | exact st_e (by decide) st_s | exact st_e (by omega) st_s | exact st_e (by decide) (st_e (by decide) (by assumption)) | exact st_e (by omega) (st_e (by omega) (by assumption))) (And.intro rfl (ab_inv_ev hth (by first | decide | omega) (by first | exact Nat.le_refl _ | omega) (by first | exact Nat.le_refl _ | omega) ?_)))
    refine And.intro (fun q => ?_) (fun q => ?_)
    · refine hA 65 _ rfl _ _ _ _ _ ?_
      refine And.intro (show ab_R (((j : Nat) : Int) + 1) from rR (by omega) (by omega)) (And.intro (fun q => ?_) (fun q => ?_))
      · refine hA 68 _ rfl _ _ _ _ _ ?_
        exact hx _ _ _ _ _ _ _ _ ⟨cs_mA hC1 hf2, ⟨t2, hM2⟩, u1, h92⟩ (by show _ + 2100 * cc ≤ _ + 2100 * cc; omega) (by show _ + 110000 * cc ≤ _ + 110000 * cc; omega)
      · have q : ((j : Nat) : Int) + 1 = 0 := q
        omega
    · exact absurd rfl q
set_option maxRecDepth 100000 in
set_option maxHeartbeats 1000000 in
theorem c_base (hA : ab_ruleL N0 sc bL_law 30 601024 7293033 lwP At) (hsc : ∀ j, ab_R (sc j)) (hi : i + 6 ≤ N0) (hN : N0 < 100000) (hL : LI σ S r th) (hk : k + 2100 ≤ 601024) (hn : n + 110000 ≤ 7293033) (y5 y6 : Option ab_V) (hx : LNx At i S k n) : At 69 (LLs i y5 y6) [] σ k n := by
  obtain ⟨cc, rows, K, va, R, f, m9, pl, c⟩ := S
  obtain ⟨⟨ad, hC⟩, ⟨t, hM⟩, u9, h9⟩ := hL
  have h0 := hC.1
  have hc := h_base hC (sc (((i : Nat) : Int) + 1).toNat) (sc (((i : Nat) : Int) + 2).toNat) (hsc _) (hsc _) h9
  have hm := fun (σ1 : ab_H) (h1 : ∀ a, 57 ≤ a → a ≤ 318 → σ1.2 a = σ.2 a) => g_base (hM.keep h1) (sc (((i : Nat) : Int) + 1).toNat) (sc (((i : Nat) : Int) + 2).toNat) (hsc _) (hsc _)
  generalize ho : (stq (cc, rows, K, va, R, f, m9, pl, c) (sp_base cc K (sc (((i : Nat) : Int) + 1).toNat) (sc (((i : Nat) : Int) + 2).toNat))) = o at hc hm
  have hcc : ∀ x S1, o = .inl (x, S1) → S1.1 = cc := fun x S1 h => by subst h; exact congrArg (fun S : St => S.1) (stq_l ho).2
  have hj : ∀ j, o = .inr j → j = 0 := fun j h => by
    subst h
    exact on_base (stq_i ho)
  clear ho
  skip
  refine hA 69 _ rfl _ _ _ _ _ ?_
  refine And.intro rfl (And.intro (And.intro (by omega) (fun N hN => by have hN := ab_Xs_n hN; omega)) (fun z hzR hz => ?_))
  have hz := ab_Xs_z hz
  subst hz
  refine And.intro rfl (And.intro (And.intro (by omega) (fun N hN => by have hN := ab_Xs_n hN; omega)) (fun z hzR hz => ?_))
  have hz := ab_Xs_z hz
  subst hz
  refine And.intro rfl (ab_invH_of hc (by first | decide | omega) (by omega) (by omega) ?_)
  intro z σ1 hp
  obtain ⟨hs1, hm1, u1, h91, hp⟩ := hp
  have q57 := (hM.keep hm1).h57
  have hmm := hm σ1 hm1
  rcases o with ⟨x, S1⟩ | j
  · obtain ⟨cc2, rows2, K2, va2, R2, f2, m2, pl2, c2⟩ := S1
    obtain ⟨rfl, hx1, hC1⟩ := hp
    have hcc : cc2 = cc := hcc _ _ rfl
    have hxR : ab_R (u1 0) := by rw [hx1]; exact ab_wr_R x
    have hxW := ab_wr_R x
    refine And.intro rfl (And.intro (And.intro (by omega) (fun N hN => by have hN := ab_Xs_n hN; omega)) (fun z hzR hz => ?_))
    have hz := ab_Xs_z hz
    subst hz
    refine And.intro rfl (And.intro (And.intro (by omega) (fun N hN => by have hN := ab_Xs_n hN; omega)) (fun z hzR hz => ?_))
    have hz := ab_Xs_z hz
    subst hz
    refine Exists.intro _ (And.intro (by first | assumption | exact st_s | exact st_e (by decide) (by assumption) | exact st_e (by omega) (by assumption) | exact st_e (by decide) st_s | exact st_e (by omega) st_s | exact st_e (by decide) (st_e (by decide) (by assumption)) | exact st_e (by omega) (st_e (by omega) (by assumption))) (And.intro rfl (ab_inv_of hmm (by first | decide | omega) (by omega) (by omega) ?_)))
    intro z2 σ2 hp2
    obtain ⟨hf2, rfl, t2, hM2⟩ := hp2
    have q572 := hM2.h57
    have hth := m_thrown hM2
    have h92 : σ2.2 319 = some (lgc u1) := (hf2.2 319 (by unfold mA; omega)).trans h91
    refine Exists.intro _ (And.intro (by first | assumption | exact st_s | exact st_e (by decide) (by assumption) | exact st_e (by omega) (by assumption) | exact st_e (by decide) st_s | exact st_e (by omega) st_s | exact st_e (by decide) (st_e (by decide) (by assumption)) | exact st_e (by omega) (st_e (by omega) (by assumption))) (And.intro rfl (ab_inv_ev hth (by first | decide | omega) (by first | exact Nat.le_refl _ | omega) (by first | exact Nat.le_refl _ | omega) ?_)))
    refine And.intro (fun q => ?_) (fun q => ?_)
    · refine hA 71 _ rfl _ _ _ _ _ ?_
      refine And.intro (by first | assumption | exact b2i_R _ | exact rR (by omega) (by omega) | exact rR (by simp only [Int.toNat_natCast]; omega) (by simp only [Int.toNat_natCast]; omega)) (And.intro (fun q => ?_) (fun q => ?_))
      · exact absurd rfl q
      · refine hA 72 _ rfl _ _ _ _ _ ?_
        refine Exists.intro _ (Exists.intro _ (And.intro (by first | assumption | exact st_s | exact st_e (by decide) (by assumption) | exact st_e (by omega) (by assumption) | exact st_e (by decide) st_s | exact st_e (by omega) st_s | exact st_e (by decide) (st_e (by decide) (by assumption)) | exact st_e (by omega) (st_e (by omega) (by assumption))) (And.intro (by first | omega | (simp only [Int.toNat_natCast]; omega)) ?_)))
        refine And.intro (And.intro (by first | assumption | exact b2i_R _ | exact rR (by omega) (by omega) | exact rR (by simp only [Int.toNat_natCast]; omega) (by simp only [Int.toNat_natCast]; omega)) (by first | assumption | exact b2i_R _ | exact rR (by omega) (by omega) | exact rR (by simp only [Int.toNat_natCast]; omega) (by simp only [Int.toNat_natCast]; omega))) (fun z hzR hz => ?_)
        refine And.intro (by first | assumption | exact b2i_R _ | exact rR (by omega) (by omega) | exact rR (by simp only [Int.toNat_natCast]; omega) (by simp only [Int.toNat_natCast]; omega)) (And.intro (fun q => ?_) (fun q => ?_))
        · refine hA 74 _ rfl _ _ _ _ _ ?_
          exact hx _ _ _ _ _ _ _ _ ⟨cs_mA hC1 hf2, ⟨t2, hM2⟩, u1, h92⟩ (by show _ + 2100 * cc ≤ _ + 2100 * cc2; omega) (by show _ + 110000 * cc ≤ _ + 110000 * cc2; omega)
        · exact absurd (hz.mpr hx1) q
    · exact absurd rfl q
  · obtain ⟨rfl, hC1⟩ := hp
    have hj := hj j rfl
    refine And.intro rfl (And.intro (And.intro (by omega) (fun N hN => by have hN := ab_Xs_n hN; omega)) (fun z hzR hz => ?_))
    have hz := ab_Xs_z hz
    subst hz
    refine And.intro rfl (And.intro (And.intro (by omega) (fun N hN => by have hN := ab_Xs_n hN; omega)) (fun z hzR hz => ?_))
    have hz := ab_Xs_z hz
    subst hz
    refine Exists.intro _ (And.intro (by first | assumption | exact st_s | exact st_e (by decide) (by assumption) | exact st_e (by omega) (by assumption) | exact st_e (by decide) st_s | exact st_e (by omega) st_s | exact st_e (by decide) (st_e (by decide) (by assumption)) | exact st_e (by omega) (st_e (by omega) (by assumption))) (And.intro rfl (ab_inv_of hmm (by first | decide | omega) (by omega) (by omega) ?_)))
    intro z2 σ2 hp2
    obtain ⟨hf2, ⟨x2, rfl⟩, t2, hM2⟩ := hp2
    have q572 := hM2.h57
    have hth := m_thrown hM2
    have h92 : σ2.2 319 = some (lgc u1) := (hf2.2 319 (by unfold mA; omega)).trans h91
    refine Exists.intro _ (And.intro (by first | assumption | exact st_s | exact st_e (by decide) (by assumption) | exact st_e (by omega) (by assumption) | exact st_e (by decide) st_s | exact st_e (by omega) st_s | exact st_e (by decide) (st_e (by decide) (by assumption)) | exact st_e (by omega) (st_e (by omega) (by assumption))) (And.intro rfl (ab_inv_ev hth (by first | decide | omega) (by first | exact Nat.le_refl _ | omega) (by first | exact Nat.le_refl _ | omega) ?_)))
    refine And.intro (fun q => ?_) (fun q => ?_)
    · refine hA 71 _ rfl _ _ _ _ _ ?_
      refine And.intro (show ab_R (((j : Nat) : Int) + 1) from rR (by omega) (by omega)) (And.intro (fun q => ?_) (fun q => ?_))
      · refine hA 74 _ rfl _ _ _ _ _ ?_
        exact hx _ _ _ _ _ _ _ _ ⟨cs_mA hC1 hf2, ⟨t2, hM2⟩, u1, h92⟩ (by show _ + 2100 * cc ≤ _ + 2100 * cc; omega) (by show _ + 110000 * cc ≤ _ + 110000 * cc; omega)
      · have q : ((j : Nat) : Int) + 1 = 0 := q
        omega
    · exact absurd rfl q
set_option maxRecDepth 100000 in
set_option maxHeartbeats 1000000 in
theorem c_index (hA : ab_ruleL N0 sc bL_law 30 601024 7293033 lwP At) (hsc : ∀ j, ab_R (sc j)) (hi : i + 6 ≤ N0) (hN : N0 < 100000) (hL : LI σ S r th) (hk : k + 2100 ≤ 601024) (hn : n + 110000 ≤ 7293033) (y5 y6 : Option ab_V) (hx : LNx At i S k n) : At 75 (LLs i y5 y6) [] σ k n := by
  obtain ⟨cc, rows, K, va, R, f, m9, pl, c⟩ := S
  obtain ⟨⟨ad, hC⟩, ⟨t, hM⟩, u9, h9⟩ := hL
  have h0 := hC.1
  have hc := h_index hC (sc (((i : Nat) : Int) + 1).toNat) (sc (((i : Nat) : Int) + 2).toNat) (sc (((i : Nat) : Int) + 3).toNat) (sc (((i : Nat) : Int) + 4).toNat) (hsc _) (hsc _) (hsc _) (hsc _) h9
  have hm := fun (σ1 : ab_H) (h1 : ∀ a, 57 ≤ a → a ≤ 318 → σ1.2 a = σ.2 a) => g_index (hM.keep h1) (sc (((i : Nat) : Int) + 1).toNat) (sc (((i : Nat) : Int) + 2).toNat) (sc (((i : Nat) : Int) + 3).toNat) (sc (((i : Nat) : Int) + 4).toNat) (hsc _) (hsc _) (hsc _) (hsc _)
  generalize ho : (stq (cc, rows, K, va, R, f, m9, pl, c) (sp_index cc rows K va (sc (((i : Nat) : Int) + 1).toNat) (sc (((i : Nat) : Int) + 2).toNat) (sc (((i : Nat) : Int) + 3).toNat) (sc (((i : Nat) : Int) + 4).toNat))) = o at hc hm
  have hcc : ∀ x S1, o = .inl (x, S1) → S1.1 = cc := fun x S1 h => by subst h; exact congrArg (fun S : St => S.1) (stq_l ho).2
  have hj : ∀ j, o = .inr j → j = 0 ∨ j = 1 := fun j h => by
    subst h
    exact on_index (stq_i ho)
  clear ho
  skip
  refine hA 75 _ rfl _ _ _ _ _ ?_
  refine And.intro rfl (And.intro (And.intro (by omega) (fun N hN => by have hN := ab_Xs_n hN; omega)) (fun z hzR hz => ?_))
  have hz := ab_Xs_z hz
  subst hz
  refine And.intro rfl (And.intro (And.intro (by omega) (fun N hN => by have hN := ab_Xs_n hN; omega)) (fun z hzR hz => ?_))
  have hz := ab_Xs_z hz
  subst hz
  refine And.intro rfl (And.intro (And.intro (by omega) (fun N hN => by have hN := ab_Xs_n hN; omega)) (fun z hzR hz => ?_))
  have hz := ab_Xs_z hz
  subst hz
  refine And.intro rfl (And.intro (And.intro (by omega) (fun N hN => by have hN := ab_Xs_n hN; omega)) (fun z hzR hz => ?_))
  have hz := ab_Xs_z hz
  subst hz
  refine And.intro rfl (ab_invH_of hc (by first | decide | omega) (by omega) (by omega) ?_)
  intro z σ1 hp
  obtain ⟨hs1, hm1, u1, h91, hp⟩ := hp
  have q57 := (hM.keep hm1).h57
  have hmm := hm σ1 hm1
  rcases o with ⟨x, S1⟩ | j
  · obtain ⟨cc2, rows2, K2, va2, R2, f2, m2, pl2, c2⟩ := S1
    obtain ⟨rfl, hx1, hC1⟩ := hp
    have hcc : cc2 = cc := hcc _ _ rfl
    have hxR : ab_R (u1 0) := by rw [hx1]; exact ab_wr_R x
    have hxW := ab_wr_R x
    refine And.intro rfl (And.intro (And.intro (by omega) (fun N hN => by have hN := ab_Xs_n hN; omega)) (fun z hzR hz => ?_))
    have hz := ab_Xs_z hz
    subst hz
    refine And.intro rfl (And.intro (And.intro (by omega) (fun N hN => by have hN := ab_Xs_n hN; omega)) (fun z hzR hz => ?_))
    have hz := ab_Xs_z hz
    subst hz
    refine And.intro rfl (And.intro (And.intro (by omega) (fun N hN => by have hN := ab_Xs_n hN; omega)) (fun z hzR hz => ?_))
    have hz := ab_Xs_z hz
    subst hz
    refine And.intro rfl (And.intro (And.intro (by omega) (fun N hN => by have hN := ab_Xs_n hN; omega)) (fun z hzR hz => ?_))
    have hz := ab_Xs_z hz
    subst hz
    refine Exists.intro _ (And.intro (by first | assumption | exact st_s | exact st_e (by decide) (by assumption) | exact st_e (by omega) (by assumption) | exact st_e (by decide) st_s | exact st_e (by omega) st_s | exact st_e (by decide) (st_e (by decide) (by assumption)) | exact st_e (by omega) (st_e (by omega) (by assumption))) (And.intro rfl (ab_inv_of hmm (by first | decide | omega) (by omega) (by omega) ?_)))
    intro z2 σ2 hp2
    obtain ⟨hf2, rfl, t2, hM2⟩ := hp2
    have q572 := hM2.h57
    have hth := m_thrown hM2
    have h92 : σ2.2 319 = some (lgc u1) := (hf2.2 319 (by unfold mA; omega)).trans h91
    refine Exists.intro _ (And.intro (by first | assumption | exact st_s | exact st_e (by decide) (by assumption) | exact st_e (by omega) (by assumption) | exact st_e (by decide) st_s | exact st_e (by omega) st_s | exact st_e (by decide) (st_e (by decide) (by assumption)) | exact st_e (by omega) (st_e (by omega) (by assumption))) (And.intro rfl (ab_inv_ev hth (by first | decide | omega) (by first | exact Nat.le_refl _ | omega) (by first | exact Nat.le_refl _ | omega) ?_)))
    refine And.intro (fun q => ?_) (fun q => ?_)
    · refine hA 77 _ rfl _ _ _ _ _ ?_
      refine And.intro (by first | assumption | exact b2i_R _ | exact rR (by omega) (by omega) | exact rR (by simp only [Int.toNat_natCast]; omega) (by simp only [Int.toNat_natCast]; omega)) (And.intro (fun q => ?_) (fun q => ?_))
      · exact absurd rfl q
      · refine hA 78 _ rfl _ _ _ _ _ ?_
        refine Exists.intro _ (Exists.intro _ (And.intro (by first | assumption | exact st_s | exact st_e (by decide) (by assumption) | exact st_e (by omega) (by assumption) | exact st_e (by decide) st_s | exact st_e (by omega) st_s | exact st_e (by decide) (st_e (by decide) (by assumption)) | exact st_e (by omega) (st_e (by omega) (by assumption))) (And.intro (by first | omega | (simp only [Int.toNat_natCast]; omega)) ?_)))
        refine And.intro (And.intro (by first | assumption | exact b2i_R _ | exact rR (by omega) (by omega) | exact rR (by simp only [Int.toNat_natCast]; omega) (by simp only [Int.toNat_natCast]; omega)) (by first | assumption | exact b2i_R _ | exact rR (by omega) (by omega) | exact rR (by simp only [Int.toNat_natCast]; omega) (by simp only [Int.toNat_natCast]; omega))) (fun z hzR hz => ?_)
        refine And.intro (by first | assumption | exact b2i_R _ | exact rR (by omega) (by omega) | exact rR (by simp only [Int.toNat_natCast]; omega) (by simp only [Int.toNat_natCast]; omega)) (And.intro (fun q => ?_) (fun q => ?_))
        · refine hA 80 _ rfl _ _ _ _ _ ?_
          exact hx _ _ _ _ _ _ _ _ ⟨cs_mA hC1 hf2, ⟨t2, hM2⟩, u1, h92⟩ (by show _ + 2100 * cc ≤ _ + 2100 * cc2; omega) (by show _ + 110000 * cc ≤ _ + 110000 * cc2; omega)
        · exact absurd (hz.mpr hx1) q
    · exact absurd rfl q
  · obtain ⟨rfl, hC1⟩ := hp
    have hj := hj j rfl
    refine And.intro rfl (And.intro (And.intro (by omega) (fun N hN => by have hN := ab_Xs_n hN; omega)) (fun z hzR hz => ?_))
    have hz := ab_Xs_z hz
    subst hz
    refine And.intro rfl (And.intro (And.intro (by omega) (fun N hN => by have hN := ab_Xs_n hN; omega)) (fun z hzR hz => ?_))
    have hz := ab_Xs_z hz
    subst hz
    refine And.intro rfl (And.intro (And.intro (by omega) (fun N hN => by have hN := ab_Xs_n hN; omega)) (fun z hzR hz => ?_))
    have hz := ab_Xs_z hz
    subst hz
    refine And.intro rfl (And.intro (And.intro (by omega) (fun N hN => by have hN := ab_Xs_n hN; omega)) (fun z hzR hz => ?_))
    have hz := ab_Xs_z hz
    subst hz
    refine Exists.intro _ (And.intro (by first | assumption | exact st_s | exact st_e (by decide) (by assumption) | exact st_e (by omega) (by assumption) | exact st_e (by decide) st_s | exact st_e (by omega) st_s | exact st_e (by decide) (st_e (by decide) (by assumption)) | exact st_e (by omega) (st_e (by omega) (by assumption))) (And.intro rfl (ab_inv_of hmm (by first | decide | omega) (by omega) (by omega) ?_)))
    intro z2 σ2 hp2
    obtain ⟨hf2, ⟨x2, rfl⟩, t2, hM2⟩ := hp2
    have q572 := hM2.h57
    have hth := m_thrown hM2
    have h92 : σ2.2 319 = some (lgc u1) := (hf2.2 319 (by unfold mA; omega)).trans h91
    refine Exists.intro _ (And.intro (by first | assumption | exact st_s | exact st_e (by decide) (by assumption) | exact st_e (by omega) (by assumption) | exact st_e (by decide) st_s | exact st_e (by omega) st_s | exact st_e (by decide) (st_e (by decide) (by assumption)) | exact st_e (by omega) (st_e (by omega) (by assumption))) (And.intro rfl (ab_inv_ev hth (by first | decide | omega) (by first | exact Nat.le_refl _ | omega) (by first | exact Nat.le_refl _ | omega) ?_)))
    refine And.intro (fun q => ?_) (fun q => ?_)
    · refine hA 77 _ rfl _ _ _ _ _ ?_
      refine And.intro (show ab_R (((j : Nat) : Int) + 1) from rR (by omega) (by omega)) (And.intro (fun q => ?_) (fun q => ?_))
      · refine hA 80 _ rfl _ _ _ _ _ ?_
        exact hx _ _ _ _ _ _ _ _ ⟨cs_mA hC1 hf2, ⟨t2, hM2⟩, u1, h92⟩ (by show _ + 2100 * cc ≤ _ + 2100 * cc; omega) (by show _ + 110000 * cc ≤ _ + 110000 * cc; omega)
      · have q : ((j : Nat) : Int) + 1 = 0 := q
        omega
    · exact absurd rfl q
set_option maxRecDepth 100000 in
set_option maxHeartbeats 1000000 in
theorem c_indexWord (hA : ab_ruleL N0 sc bL_law 30 601024 7293033 lwP At) (hsc : ∀ j, ab_R (sc j)) (hi : i + 6 ≤ N0) (hN : N0 < 100000) (hL : LI σ S r th) (hk : k + 2100 ≤ 601024) (hn : n + 110000 ≤ 7293033) (y5 y6 : Option ab_V) (hx : LNx At i S k n) : At 81 (LLs i y5 y6) [] σ k n := by
  obtain ⟨cc, rows, K, va, R, f, m9, pl, c⟩ := S
  obtain ⟨⟨ad, hC⟩, ⟨t, hM⟩, u9, h9⟩ := hL
  have h0 := hC.1
  have hc := h_indexWord hC (sc (((i : Nat) : Int) + 1).toNat) (sc (((i : Nat) : Int) + 2).toNat) (sc (((i : Nat) : Int) + 3).toNat) (sc (((i : Nat) : Int) + 4).toNat) (hsc _) (hsc _) (hsc _) (hsc _) h9
  have hm := fun (σ1 : ab_H) (h1 : ∀ a, 57 ≤ a → a ≤ 318 → σ1.2 a = σ.2 a) => g_indexWord (hM.keep h1) (sc (((i : Nat) : Int) + 1).toNat) (sc (((i : Nat) : Int) + 2).toNat) (sc (((i : Nat) : Int) + 3).toNat) (sc (((i : Nat) : Int) + 4).toNat) (hsc _) (hsc _) (hsc _) (hsc _)
  generalize ho : (stq (cc, rows, K, va, R, f, m9, pl, c) (sp_indexWord cc rows K va (sc (((i : Nat) : Int) + 1).toNat) (sc (((i : Nat) : Int) + 2).toNat) (sc (((i : Nat) : Int) + 3).toNat) (sc (((i : Nat) : Int) + 4).toNat))) = o at hc hm
  have hcc : ∀ x S1, o = .inl (x, S1) → S1.1 = cc := fun x S1 h => by subst h; exact congrArg (fun S : St => S.1) (stq_l ho).2
  have hj : ∀ j, o = .inr j → j = 0 := fun j h => by
    subst h
    exact on_indexWord (stq_i ho)
  clear ho
  skip
  refine hA 81 _ rfl _ _ _ _ _ ?_
  refine And.intro rfl (And.intro (And.intro (by omega) (fun N hN => by have hN := ab_Xs_n hN; omega)) (fun z hzR hz => ?_))
  have hz := ab_Xs_z hz
  subst hz
  refine And.intro rfl (And.intro (And.intro (by omega) (fun N hN => by have hN := ab_Xs_n hN; omega)) (fun z hzR hz => ?_))
  have hz := ab_Xs_z hz
  subst hz
  refine And.intro rfl (And.intro (And.intro (by omega) (fun N hN => by have hN := ab_Xs_n hN; omega)) (fun z hzR hz => ?_))
  have hz := ab_Xs_z hz
  subst hz
  refine And.intro rfl (And.intro (And.intro (by omega) (fun N hN => by have hN := ab_Xs_n hN; omega)) (fun z hzR hz => ?_))
  have hz := ab_Xs_z hz
  subst hz
  refine And.intro rfl (ab_invH_of hc (by first | decide | omega) (by omega) (by omega) ?_)
  intro z σ1 hp
  obtain ⟨hs1, hm1, u1, h91, hp⟩ := hp
  have q57 := (hM.keep hm1).h57
  have hmm := hm σ1 hm1
  rcases o with ⟨x, S1⟩ | j
  · obtain ⟨cc2, rows2, K2, va2, R2, f2, m2, pl2, c2⟩ := S1
    obtain ⟨rfl, hx1, hC1⟩ := hp
    have hcc : cc2 = cc := hcc _ _ rfl
    have hxR : ab_R (u1 0) := by rw [hx1]; exact ab_wr_R x
    have hxW := ab_wr_R x
    refine And.intro rfl (And.intro (And.intro (by omega) (fun N hN => by have hN := ab_Xs_n hN; omega)) (fun z hzR hz => ?_))
    have hz := ab_Xs_z hz
    subst hz
    refine And.intro rfl (And.intro (And.intro (by omega) (fun N hN => by have hN := ab_Xs_n hN; omega)) (fun z hzR hz => ?_))
    have hz := ab_Xs_z hz
    subst hz
    refine And.intro rfl (And.intro (And.intro (by omega) (fun N hN => by have hN := ab_Xs_n hN; omega)) (fun z hzR hz => ?_))
    have hz := ab_Xs_z hz
    subst hz
    refine And.intro rfl (And.intro (And.intro (by omega) (fun N hN => by have hN := ab_Xs_n hN; omega)) (fun z hzR hz => ?_))
    have hz := ab_Xs_z hz
    subst hz
    refine Exists.intro _ (And.intro (by first | assumption | exact st_s | exact st_e (by decide) (by assumption) | exact st_e (by omega) (by assumption) | exact st_e (by decide) st_s | exact st_e (by omega) st_s | exact st_e (by decide) (st_e (by decide) (by assumption)) | exact st_e (by omega) (st_e (by omega) (by assumption))) (And.intro rfl (ab_inv_of hmm (by first | decide | omega) (by omega) (by omega) ?_)))
    intro z2 σ2 hp2
    obtain ⟨hf2, rfl, t2, hM2⟩ := hp2
    have q572 := hM2.h57
    have hth := m_thrown hM2
    have h92 : σ2.2 319 = some (lgc u1) := (hf2.2 319 (by unfold mA; omega)).trans h91
    refine Exists.intro _ (And.intro (by first | assumption | exact st_s | exact st_e (by decide) (by assumption) | exact st_e (by omega) (by assumption) | exact st_e (by decide) st_s | exact st_e (by omega) st_s | exact st_e (by decide) (st_e (by decide) (by assumption)) | exact st_e (by omega) (st_e (by omega) (by assumption))) (And.intro rfl (ab_inv_ev hth (by first | decide | omega) (by first | exact Nat.le_refl _ | omega) (by first | exact Nat.le_refl _ | omega) ?_)))
    refine And.intro (fun q => ?_) (fun q => ?_)
    · refine hA 83 _ rfl _ _ _ _ _ ?_
      refine And.intro (by first | assumption | exact b2i_R _ | exact rR (by omega) (by omega) | exact rR (by simp only [Int.toNat_natCast]; omega) (by simp only [Int.toNat_natCast]; omega)) (And.intro (fun q => ?_) (fun q => ?_))
      · exact absurd rfl q
      · refine hA 84 _ rfl _ _ _ _ _ ?_
        refine Exists.intro _ (Exists.intro _ (And.intro (by first | assumption | exact st_s | exact st_e (by decide) (by assumption) | exact st_e (by omega) (by assumption) | exact st_e (by decide) st_s | exact st_e (by omega) st_s | exact st_e (by decide) (st_e (by decide) (by assumption)) | exact st_e (by omega) (st_e (by omega) (by assumption))) (And.intro (by first | omega | (simp only [Int.toNat_natCast]; omega)) ?_)))
        refine And.intro (And.intro (by first | assumption | exact b2i_R _ | exact rR (by omega) (by omega) | exact rR (by simp only [Int.toNat_natCast]; omega) (by simp only [Int.toNat_natCast]; omega)) (by first | assumption | exact b2i_R _ | exact rR (by omega) (by omega) | exact rR (by simp only [Int.toNat_natCast]; omega) (by simp only [Int.toNat_natCast]; omega))) (fun z hzR hz => ?_)
        refine And.intro (by first | assumption | exact b2i_R _ | exact rR (by omega) (by omega) | exact rR (by simp only [Int.toNat_natCast]; omega) (by simp only [Int.toNat_natCast]; omega)) (And.intro (fun q => ?_) (fun q => ?_))
        · refine hA 86 _ rfl _ _ _ _ _ ?_
          exact hx _ _ _ _ _ _ _ _ ⟨cs_mA hC1 hf2, ⟨t2, hM2⟩, u1, h92⟩ (by show _ + 2100 * cc ≤ _ + 2100 * cc2; omega) (by show _ + 110000 * cc ≤ _ + 110000 * cc2; omega)
        · exact absurd (hz.mpr hx1) q
    · exact absurd rfl q
  · obtain ⟨rfl, hC1⟩ := hp
    have hj := hj j rfl
    refine And.intro rfl (And.intro (And.intro (by omega) (fun N hN => by have hN := ab_Xs_n hN; omega)) (fun z hzR hz => ?_))
    have hz := ab_Xs_z hz
    subst hz
    refine And.intro rfl (And.intro (And.intro (by omega) (fun N hN => by have hN := ab_Xs_n hN; omega)) (fun z hzR hz => ?_))
    have hz := ab_Xs_z hz
    subst hz
    refine And.intro rfl (And.intro (And.intro (by omega) (fun N hN => by have hN := ab_Xs_n hN; omega)) (fun z hzR hz => ?_))
    have hz := ab_Xs_z hz
    subst hz
    refine And.intro rfl (And.intro (And.intro (by omega) (fun N hN => by have hN := ab_Xs_n hN; omega)) (fun z hzR hz => ?_))
    have hz := ab_Xs_z hz
    subst hz
    refine Exists.intro _ (And.intro (by first | assumption | exact st_s | exact st_e (by decide) (by assumption) | exact st_e (by omega) (by assumption) | exact st_e (by decide) st_s | exact st_e (by omega) st_s | exact st_e (by decide) (st_e (by decide) (by assumption)) | exact st_e (by omega) (st_e (by omega) (by assumption))) (And.intro rfl (ab_inv_of hmm (by first | decide | omega) (by omega) (by omega) ?_)))
    intro z2 σ2 hp2
    obtain ⟨hf2, ⟨x2, rfl⟩, t2, hM2⟩ := hp2
    have q572 := hM2.h57
    have hth := m_thrown hM2
    have h92 : σ2.2 319 = some (lgc u1) := (hf2.2 319 (by unfold mA; omega)).trans h91
    refine Exists.intro _ (And.intro (by first | assumption | exact st_s | exact st_e (by decide) (by assumption) | exact st_e (by omega) (by assumption) | exact st_e (by decide) st_s | exact st_e (by omega) st_s | exact st_e (by decide) (st_e (by decide) (by assumption)) | exact st_e (by omega) (st_e (by omega) (by assumption))) (And.intro rfl (ab_inv_ev hth (by first | decide | omega) (by first | exact Nat.le_refl _ | omega) (by first | exact Nat.le_refl _ | omega) ?_)))
    refine And.intro (fun q => ?_) (fun q => ?_)
    · refine hA 83 _ rfl _ _ _ _ _ ?_
      refine And.intro (show ab_R (((j : Nat) : Int) + 1) from rR (by omega) (by omega)) (And.intro (fun q => ?_) (fun q => ?_))
      · refine hA 86 _ rfl _ _ _ _ _ ?_
        exact hx _ _ _ _ _ _ _ _ ⟨cs_mA hC1 hf2, ⟨t2, hM2⟩, u1, h92⟩ (by show _ + 2100 * cc ≤ _ + 2100 * cc; omega) (by show _ + 110000 * cc ≤ _ + 110000 * cc; omega)
      · have q : ((j : Nat) : Int) + 1 = 0 := q
        omega
    · exact absurd rfl q
end Law
