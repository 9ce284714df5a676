-- ===== the law: its cases, on =====
section Law
variable {At : Nat → ab_L → List ab_V → ab_H → Nat → Nat → Prop} {N0 : Nat} {sc : Nat → Int} {σ : ab_H} {S : St} {r : Nat → Nat} {th : Int} {k n i : Nat}
set_option maxRecDepth 100000 in
set_option maxHeartbeats 1000000 in
theorem c_result (hA : ab_ruleL N0 sc bL_law 30 601024 7293033 lwP At) (hsc : ∀ j, ab_R (sc j)) (hi : i + 6 ≤ N0) (hN : N0 < 100000) (hL : LI σ S r th) (hk : k + 2100 ≤ 601024) (hn : n + 110000 ≤ 7293033) (y5 y6 : Option ab_V) (hx : LNx At i S k n) : At 87 (LLs i y5 y6) [] σ k n := by
  obtain ⟨cc, rows, K, va, R, f, m9, pl, c⟩ := S
  obtain ⟨⟨ad, hC⟩, ⟨t, hM⟩, u9, h9⟩ := hL
  have h0 := hC.1
  have hc := h_result hC (sc (((i : Nat) : Int) + 1).toNat) (sc (((i : Nat) : Int) + 2).toNat) (hsc _) (hsc _) h9
  have hm := fun (σ1 : ab_H) (h1 : ∀ a, 57 ≤ a → a ≤ 318 → σ1.2 a = σ.2 a) => g_result (hM.keep h1) (sc (((i : Nat) : Int) + 1).toNat) (sc (((i : Nat) : Int) + 2).toNat) (hsc _) (hsc _)
  generalize ho : (stq (cc, rows, K, va, R, f, m9, pl, c) (sp_result rows R (sc (((i : Nat) : Int) + 1).toNat) (sc (((i : Nat) : Int) + 2).toNat))) = o at hc hm
  have hcc : ∀ x S1, o = .inl (x, S1) → S1.1 = cc := fun x S1 h => by subst h; exact congrArg (fun S : St => S.1) (stq_l ho).2
  have hj : ∀ j, o = .inr j → j = 0 ∨ j = 1 := fun j h => by
    subst h
    exact on_result (stq_i ho)
  clear ho
  skip
  refine hA 87 _ rfl _ _ _ _ _ ?_
  refine And.intro rfl (And.intro (And.intro (by omega) (fun N hN => by have hN := ab_Xs_n hN; omega)) (fun z hzR hz => ?_))
  have hz := ab_Xs_z hz
  subst hz
  refine And.intro rfl (And.intro (And.intro (by omega) (fun N hN => by have hN := ab_Xs_n hN; omega)) (fun z hzR hz => ?_))
  have hz := ab_Xs_z hz
  subst hz
  refine And.intro rfl (ab_invH_of hc (by first | decide | omega) (by omega) (by omega) ?_)
  intro z σ1 hp
  obtain ⟨hs1, hm1, u1, h91, hp⟩ := hp
  have q57 := (hM.keep hm1).h57
  have hmm := hm σ1 hm1
  rcases o with ⟨x, S1⟩ | j
  · obtain ⟨cc2, rows2, K2, va2, R2, f2, m2, pl2, c2⟩ := S1
    obtain ⟨rfl, hx1, hC1⟩ := hp
    have hcc : cc2 = cc := hcc _ _ rfl
    have hxR : ab_R (u1 0) := by rw [hx1]; exact ab_wr_R x
    have hxW := ab_wr_R x
    refine And.intro rfl (And.intro (And.intro (by omega) (fun N hN => by have hN := ab_Xs_n hN; omega)) (fun z hzR hz => ?_))
    have hz := ab_Xs_z hz
    subst hz
    refine And.intro rfl (And.intro (And.intro (by omega) (fun N hN => by have hN := ab_Xs_n hN; omega)) (fun z hzR hz => ?_))
    have hz := ab_Xs_z hz
    subst hz
    refine Exists.intro _ (And.intro (by first | assumption | exact st_s | exact st_e (by decide) (by assumption) | exact st_e (by omega) (by assumption) | exact st_e (by decide) st_s | exact st_e (by omega) st_s | exact st_e (by decide) (st_e (by decide) (by assumption)) | exact st_e (by omega) (st_e (by omega) (by assumption))) (And.intro rfl (ab_inv_of hmm (by first | decide | omega) (by omega) (by omega) ?_)))
    intro z2 σ2 hp2
    obtain ⟨hf2, rfl, t2, hM2⟩ := hp2
    have q572 := hM2.h57
    have hth := m_thrown hM2
    have h92 : σ2.2 319 = some (lgc u1) := (hf2.2 319 (by unfold mA; omega)).trans h91
    refine Exists.intro _ (And.intro (by first | assumption | exact st_s | exact st_e (by decide) (by assumption) | exact st_e (by omega) (by assumption) | exact st_e (by decide) st_s | exact st_e (by omega) st_s | exact st_e (by decide) (st_e (by decide) (by assumption)) | exact st_e (by omega) (st_e (by omega) (by assumption))) (And.intro rfl (ab_inv_ev hth (by first | decide | omega) (by first | exact Nat.le_refl _ | omega) (by first | exact Nat.le_refl _ | omega) ?_)))
    refine And.intro (fun q => ?_) (fun q => ?_)
    · refine hA 89 _ rfl _ _ _ _ _ ?_
      refine And.intro (by first | assumption | exact b2i_R _ | exact rR (by omega) (by omega) | exact rR (by simp only [Int.toNat_natCast]; omega) (by simp only [Int.toNat_natCast]; omega)) (And.intro (fun q => ?_) (fun q => ?_))
      · exact absurd rfl q
      · refine hA 90 _ rfl _ _ _ _ _ ?_
        refine Exists.intro _ (Exists.intro _ (And.intro (by first | assumption | exact st_s | exact st_e (by decide) (by assumption) | exact st_e (by omega) (by assumption) | exact st_e (by decide) st_s | exact st_e (by omega) st_s | exact st_e (by decide) (st_e (by decide) (by assumption)) | exact st_e (by omega) (st_e (by omega) (by assumption))) (And.intro (by first | omega | (simp only [Int.toNat_natCast]; omega)) ?_)))
        refine And.intro (And.intro (by first | assumption | exact b2i_R _ | exact rR (by omega) (by omega) | exact rR (by simp only [Int.toNat_natCast]; omega) (by simp only [Int.toNat_natCast]; omega)) (by first | assumption | exact b2i_R _ | exact rR (by omega) (by omega) | exact rR (by simp only [Int.toNat_natCast]; omega) (by simp only [Int.toNat_natCast]; omega))) (fun z hzR hz => ?_)
        refine And.intro (by first | assumption | exact b2i_R _ | exact rR (by omega) (by omega) | exact rR (by simp only [Int.toNat_natCast]; omega) (by simp only [Int.toNat_natCast]; omega)) (And.intro (fun q => ?_) (fun q => ?_))
        · refine hA 92 _ rfl _ _ _ _ _ ?_
          exact hx _ _ _ _ _ _ _ _ ⟨cs_mA hC1 hf2, ⟨t2, hM2⟩, u1, h92⟩ (by show _ + 2100 * cc ≤ _ + 2100 * cc2; omega) (by show _ + 110000 * cc ≤ _ + 110000 * cc2; omega)
        · exact absurd (hz.mpr hx1) q
    · exact absurd rfl q
  · obtain ⟨rfl, hC1⟩ := hp
    have hj := hj j rfl
    refine And.intro rfl (And.intro (And.intro (by omega) (fun N hN => by have hN := ab_Xs_n hN; omega)) (fun z hzR hz => ?_))
    have hz := ab_Xs_z hz
    subst hz
    refine And.intro rfl (And.intro (And.intro (by omega) (fun N hN => by have hN := ab_Xs_n hN; omega)) (fun z hzR hz => ?_))
    have hz := ab_Xs_z hz
    subst hz
    refine Exists.intro _ (And.intro (by first | assumption | exact st_s | exact st_e (by decide) (by assumption) | exact st_e (by omega) (by assumption) | exact st_e (by decide) st_s | exact st_e (by omega) st_s | exact st_e (by decide) (st_e (by decide) (by assumption)) | exact st_e (by omega) (st_e (by omega) (by assumption))) (And.intro rfl (ab_inv_of hmm (by first | decide | omega) (by omega) (by omega) ?_)))
    intro z2 σ2 hp2
    obtain ⟨hf2, ⟨x2, rfl⟩, t2, hM2⟩ := hp2
    have q572 := hM2.h57
    have hth := m_thrown hM2
    have h92 : σ2.2 319 = some (lgc u1) := (hf2.2 319 (by unfold mA; omega)).trans h91
    refine Exists.intro _ (And.intro (by first | assumption | exact st_s | exact st_e (by decide) (by assumption) | exact st_e (by omega) (by assumption) | exact st_e (by decide) st_s | exact st_e (by omega) st_s | exact st_e (by decide) (st_e (by decide) (by assumption)) | exact st_e (by omega) (st_e (by omega) (by assumption))) (And.intro rfl (ab_inv_ev hth (by first | decide | omega) (by first | exact Nat.le_refl _ | omega) (by first | exact Nat.le_refl _ | omega) ?_)))
    refine And.intro (fun q => ?_) (fun q => ?_)
    · refine hA 89 _ rfl _ _ _ _ _ ?_
      refine And.intro (show ab_R (((j : Nat) : Int) + 1) from rR (by omega) (by omega)) (And.intro (fun q => ?_) (fun q => ?_))
      · refine hA 92 _ rfl _ _ _ _ _ ?_
        exact hx _ _ _ _ _ _ _ _ ⟨cs_mA hC1 hf2, ⟨t2, hM2⟩, u1, h92⟩ (by show _ + 2100 * cc ≤ _ + 2100 * cc; omega) (by show _ + 110000 * cc ≤ _ + 110000 * cc; omega)
      · have q : ((j : Nat) : Int) + 1 = 0 := q
        omega
    · exact absurd rfl q
set_option maxRecDepth 100000 in
set_option maxHeartbeats 1000000 in
theorem c_word (hA : ab_ruleL N0 sc bL_law 30 601024 7293033 lwP At) (hsc : ∀ j, ab_R (sc j)) (hi : i + 6 ≤ N0) (hN : N0 < 100000) (hL : LI σ S r th) (hk : k + 2100 ≤ 601024) (hn : n + 110000 ≤ 7293033) (y5 y6 : Option ab_V) (hx : LNx At i S k n) : At 93 (LLs i y5 y6) [] σ k n := by
  obtain ⟨cc, rows, K, va, R, f, m9, pl, c⟩ := S
  obtain ⟨⟨ad, hC⟩, ⟨t, hM⟩, u9, h9⟩ := hL
  have h0 := hC.1
  have hc := h_word hC (sc (((i : Nat) : Int) + 1).toNat) (sc (((i : Nat) : Int) + 2).toNat) (hsc _) (hsc _) h9
  have hm := fun (σ1 : ab_H) (h1 : ∀ a, 57 ≤ a → a ≤ 318 → σ1.2 a = σ.2 a) => g_word (hM.keep h1) (sc (((i : Nat) : Int) + 1).toNat) (sc (((i : Nat) : Int) + 2).toNat) (hsc _) (hsc _)
  generalize ho : (stq (cc, rows, K, va, R, f, m9, pl, c) (sp_word rows R (sc (((i : Nat) : Int) + 1).toNat) (sc (((i : Nat) : Int) + 2).toNat))) = o at hc hm
  have hcc : ∀ x S1, o = .inl (x, S1) → S1.1 = cc := fun x S1 h => by subst h; exact congrArg (fun S : St => S.1) (stq_l ho).2
  have hj : ∀ j, o = .inr j → j = 0 := fun j h => by
    subst h
    exact on_word (stq_i ho)
  clear ho
  skip
  refine hA 93 _ rfl _ _ _ _ _ ?_
  refine And.intro rfl (And.intro (And.intro (by omega) (fun N hN => by have hN := ab_Xs_n hN; omega)) (fun z hzR hz => ?_))
  have hz := ab_Xs_z hz
  subst hz
  refine And.intro rfl (And.intro (And.intro (by omega) (fun N hN => by have hN := ab_Xs_n hN; omega)) (fun z hzR hz => ?_))
  have hz := ab_Xs_z hz
  subst hz
  refine And.intro rfl (ab_invH_of hc (by first | decide | omega) (by omega) (by omega) ?_)
  intro z σ1 hp
  obtain ⟨hs1, hm1, u1, h91, hp⟩ := hp
  have q57 := (hM.keep hm1).h57
  have hmm := hm σ1 hm1
  rcases o with ⟨x, S1⟩ | j
  · obtain ⟨cc2, rows2, K2, va2, R2, f2, m2, pl2, c2⟩ := S1
    obtain ⟨rfl, hx1, hC1⟩ := hp
    have hcc : cc2 = cc := hcc _ _ rfl
    have hxR : ab_R (u1 0) := by rw [hx1]; exact ab_wr_R x
    have hxW := ab_wr_R x
    refine And.intro rfl (And.intro (And.intro (by omega) (fun N hN => by have hN := ab_Xs_n hN; omega)) (fun z hzR hz => ?_))
    have hz := ab_Xs_z hz
    subst hz
    refine And.intro rfl (And.intro (And.intro (by omega) (fun N hN => by have hN := ab_Xs_n hN; omega)) (fun z hzR hz => ?_))
    have hz := ab_Xs_z hz
    subst hz
    refine Exists.intro _ (And.intro (by first | assumption | exact st_s | exact st_e (by decide) (by assumption) | exact st_e (by omega) (by assumption) | exact st_e (by decide) st_s | exact st_e (by omega) st_s | exact st_e (by decide) (st_e (by decide) (by assumption)) | exact st_e (by omega) (st_e (by omega) (by assumption))) (And.intro rfl (ab_inv_of hmm (by first | decide | omega) (by omega) (by omega) ?_)))
    intro z2 σ2 hp2
    obtain ⟨hf2, rfl, t2, hM2⟩ := hp2
    have q572 := hM2.h57
    have hth := m_thrown hM2
    have h92 : σ2.2 319 = some (lgc u1) := (hf2.2 319 (by unfold mA; omega)).trans h91
    refine Exists.intro _ (And.intro (by first | assumption | exact st_s | exact st_e (by decide) (by assumption) | exact st_e (by omega) (by assumption) | exact st_e (by decide) st_s | exact st_e (by omega) st_s | exact st_e (by decide) (st_e (by decide) (by assumption)) | exact st_e (by omega) (st_e (by omega) (by assumption))) (And.intro rfl (ab_inv_ev hth (by first | decide | omega) (by first | exact Nat.le_refl _ | omega) (by first | exact Nat.le_refl _ | omega) ?_)))
    refine And.intro (fun q => ?_) (fun q => ?_)
    · refine hA 95 _ rfl _ _ _ _ _ ?_
      refine And.intro (by first | assumption | exact b2i_R _ | exact rR (by omega) (by omega) | exact rR (by simp only [Int.toNat_natCast]; omega) (by simp only [Int.toNat_natCast]; omega)) (And.intro (fun q => ?_) (fun q => ?_))
      · exact absurd rfl q
      · refine hA 96 _ rfl _ _ _ _ _ ?_
        refine Exists.intro _ (Exists.intro _ (And.intro (by first | assumption | exact st_s | exact st_e (by decide) (by assumption) | exact st_e (by omega) (by assumption) | exact st_e (by decide) st_s | exact st_e (by omega) st_s | exact st_e (by decide) (st_e (by decide) (by assumption)) | exact st_e (by omega) (st_e (by omega) (by assumption))) (And.intro (by first | omega | (simp only [Int.toNat_natCast]; omega)) ?_)))
        refine And.intro (And.intro (by first | assumption | exact b2i_R _ | exact rR (by omega) (by omega) | exact rR (by simp only [Int.toNat_natCast]; omega) (by simp only [Int.toNat_natCast]; omega)) (by first | assumption | exact b2i_R _ | exact rR (by omega) (by omega) | exact rR (by simp only [Int.toNat_natCast]; omega) (by simp only [Int.toNat_natCast]; omega))) (fun z hzR hz => ?_)
        refine And.intro (by first | assumption | exact b2i_R _ | exact rR (by omega) (by omega) | exact rR (by simp only [Int.toNat_natCast]; omega) (by simp only [Int.toNat_natCast]; omega)) (And.intro (fun q => ?_) (fun q => ?_))
        · refine hA 98 _ rfl _ _ _ _ _ ?_
          exact hx _ _ _ _ _ _ _ _ ⟨cs_mA hC1 hf2, ⟨t2, hM2⟩, u1, h92⟩ (by show _ + 2100 * cc ≤ _ + 2100 * cc2; omega) (by show _ + 110000 * cc ≤ _ + 110000 * cc2; omega)
        · exact absurd (hz.mpr hx1) q
    · exact absurd rfl q
  · obtain ⟨rfl, hC1⟩ := hp
    have hj := hj j rfl
    refine And.intro rfl (And.intro (And.intro (by omega) (fun N hN => by have hN := ab_Xs_n hN; omega)) (fun z hzR hz => ?_))
    have hz := ab_Xs_z hz
    subst hz
    refine And.intro rfl (And.intro (And.intro (by omega) (fun N hN => by have hN := ab_Xs_n hN; omega)) (fun z hzR hz => ?_))
    have hz := ab_Xs_z hz
    subst hz
    refine Exists.intro _ (And.intro (by first | assumption | exact st_s | exact st_e (by decide) (by assumption) | exact st_e (by omega) (by assumption) | exact st_e (by decide) st_s | exact st_e (by omega) st_s | exact st_e (by decide) (st_e (by decide) (by assumption)) | exact st_e (by omega) (st_e (by omega) (by assumption))) (And.intro rfl (ab_inv_of hmm (by first | decide | omega) (by omega) (by omega) ?_)))
    intro z2 σ2 hp2
    obtain ⟨hf2, ⟨x2, rfl⟩, t2, hM2⟩ := hp2
    have q572 := hM2.h57
    have hth := m_thrown hM2
    have h92 : σ2.2 319 = some (lgc u1) := (hf2.2 319 (by unfold mA; omega)).trans h91
    refine Exists.intro _ (And.intro (by first | assumption | exact st_s | exact st_e (by decide) (by assumption) | exact st_e (by omega) (by assumption) | exact st_e (by decide) st_s | exact st_e (by omega) st_s | exact st_e (by decide) (st_e (by decide) (by assumption)) | exact st_e (by omega) (st_e (by omega) (by assumption))) (And.intro rfl (ab_inv_ev hth (by first | decide | omega) (by first | exact Nat.le_refl _ | omega) (by first | exact Nat.le_refl _ | omega) ?_)))
    refine And.intro (fun q => ?_) (fun q => ?_)
    · refine hA 95 _ rfl _ _ _ _ _ ?_
      refine And.intro (show ab_R (((j : Nat) : Int) + 1) from rR (by omega) (by omega)) (And.intro (fun q => ?_) (fun q => ?_))
      · refine hA 98 _ rfl _ _ _ _ _ ?_
        exact hx _ _ _ _ _ _ _ _ ⟨cs_mA hC1 hf2, ⟨t2, hM2⟩, u1, h92⟩ (by show _ + 2100 * cc ≤ _ + 2100 * cc; omega) (by show _ + 110000 * cc ≤ _ + 110000 * cc; omega)
      · have q : ((j : Nat) : Int) + 1 = 0 := q
        omega
    · exact absurd rfl q
set_option maxRecDepth 100000 in
set_option maxHeartbeats 1000000 in
theorem c_rank (hA : ab_ruleL N0 sc bL_law 30 601024 7293033 lwP At) (hsc : ∀ j, ab_R (sc j)) (hi : i + 6 ≤ N0) (hN : N0 < 100000) (hL : LI σ S r th) (hk : k + 2100 ≤ 601024) (hn : n + 110000 ≤ 7293033) (y5 y6 : Option ab_V) (hx : LNx At i S k n) : At 108 (LLs i y5 y6) [] σ k n := by
  obtain ⟨cc, rows, K, va, R, f, m9, pl, c⟩ := S
  obtain ⟨⟨ad, hC⟩, ⟨t, hM⟩, u9, h9⟩ := hL
  have h0 := hC.1
  have hc := h_rank hC (sc (((i : Nat) : Int) + 1).toNat) (sc (((i : Nat) : Int) + 2).toNat) (hsc _) (hsc _) h9
  have hm := fun (σ1 : ab_H) (h1 : ∀ a, 57 ≤ a → a ≤ 318 → σ1.2 a = σ.2 a) => g_rank (hM.keep h1) (sc (((i : Nat) : Int) + 1).toNat) (sc (((i : Nat) : Int) + 2).toNat) (hsc _) (hsc _)
  generalize ho : (stq (cc, rows, K, va, R, f, m9, pl, c) (sp_rank rows R (sc (((i : Nat) : Int) + 1).toNat) (sc (((i : Nat) : Int) + 2).toNat))) = o at hc hm
  have hcc : ∀ x S1, o = .inl (x, S1) → S1.1 = cc := fun x S1 h => by subst h; exact congrArg (fun S : St => S.1) (stq_l ho).2
  have hj : ∀ j, o = .inr j → j = 0 ∨ j = 1 := fun j h => by
    subst h
    exact on_rank (stq_i ho)
  clear ho
  skip
  refine hA 108 _ rfl _ _ _ _ _ ?_
  refine And.intro rfl (And.intro (And.intro (by omega) (fun N hN => by have hN := ab_Xs_n hN; omega)) (fun z hzR hz => ?_))
  have hz := ab_Xs_z hz
  subst hz
  refine And.intro rfl (And.intro (And.intro (by omega) (fun N hN => by have hN := ab_Xs_n hN; omega)) (fun z hzR hz => ?_))
  have hz := ab_Xs_z hz
  subst hz
  refine And.intro rfl (ab_invH_of hc (by first | decide | omega) (by omega) (by omega) ?_)
  intro z σ1 hp
  obtain ⟨hs1, hm1, u1, h91, hp⟩ := hp
  have q57 := (hM.keep hm1).h57
  have hmm := hm σ1 hm1
  rcases o with ⟨x, S1⟩ | j
  · obtain ⟨cc2, rows2, K2, va2, R2, f2, m2, pl2, c2⟩ := S1
    obtain ⟨rfl, hx1, hC1⟩ := hp
    have hcc : cc2 = cc := hcc _ _ rfl
    have hxR : ab_R (u1 0) := by rw [hx1]; exact ab_wr_R x
    have hxW := ab_wr_R x
    refine And.intro rfl (And.intro (And.intro (by omega) (fun N hN => by have hN := ab_Xs_n hN; omega)) (fun z hzR hz => ?_))
    have hz := ab_Xs_z hz
    subst hz
    refine And.intro rfl (And.intro (And.intro (by omega) (fun N hN => by have hN := ab_Xs_n hN; omega)) (fun z hzR hz => ?_))
    have hz := ab_Xs_z hz
    subst hz
    refine Exists.intro _ (And.intro (by first | assumption | exact st_s | exact st_e (by decide) (by assumption) | exact st_e (by omega) (by assumption) | exact st_e (by decide) st_s | exact st_e (by omega) st_s | exact st_e (by decide) (st_e (by decide) (by assumption)) | exact st_e (by omega) (st_e (by omega) (by assumption))) (And.intro rfl (ab_inv_of hmm (by first | decide | omega) (by omega) (by omega) ?_)))
    intro z2 σ2 hp2
    obtain ⟨hf2, rfl, t2, hM2⟩ := hp2
    have q572 := hM2.h57
    have hth := m_thrown hM2
    have h92 : σ2.2 319 = some (lgc u1) := (hf2.2 319 (by unfold mA; omega)).trans h91
    refine Exists.intro _ (And.intro (by first | assumption | exact st_s | exact st_e (by decide) (by assumption) | exact st_e (by omega) (by assumption) | exact st_e (by decide) st_s | exact st_e (by omega) st_s | exact st_e (by decide) (st_e (by decide) (by assumption)) | exact st_e (by omega) (st_e (by omega) (by assumption))) (And.intro rfl (ab_inv_ev hth (by first | decide | omega) (by first | exact Nat.le_refl _ | omega) (by first | exact Nat.le_refl _ | omega) ?_)))
    refine And.intro (fun q => ?_) (fun q => ?_)
    · refine hA 110 _ rfl _ _ _ _ _ ?_
      refine And.intro (by first | assumption | exact b2i_R _ | exact rR (by omega) (by omega) | exact rR (by simp only [Int.toNat_natCast]; omega) (by simp only [Int.toNat_natCast]; omega)) (And.intro (fun q => ?_) (fun q => ?_))
      · exact absurd rfl q
      · refine hA 111 _ rfl _ _ _ _ _ ?_
        refine Exists.intro _ (Exists.intro _ (And.intro (by first | assumption | exact st_s | exact st_e (by decide) (by assumption) | exact st_e (by omega) (by assumption) | exact st_e (by decide) st_s | exact st_e (by omega) st_s | exact st_e (by decide) (st_e (by decide) (by assumption)) | exact st_e (by omega) (st_e (by omega) (by assumption))) (And.intro (by first | omega | (simp only [Int.toNat_natCast]; omega)) ?_)))
        refine And.intro (And.intro (by first | assumption | exact b2i_R _ | exact rR (by omega) (by omega) | exact rR (by simp only [Int.toNat_natCast]; omega) (by simp only [Int.toNat_natCast]; omega)) (by first | assumption | exact b2i_R _ | exact rR (by omega) (by omega) | exact rR (by simp only [Int.toNat_natCast]; omega) (by simp only [Int.toNat_natCast]; omega))) (fun z hzR hz => ?_)
        refine And.intro (by first | assumption | exact b2i_R _ | exact rR (by omega) (by omega) | exact rR (by simp only [Int.toNat_natCast]; omega) (by simp only [Int.toNat_natCast]; omega)) (And.intro (fun q => ?_) (fun q => ?_))
        · refine hA 113 _ rfl _ _ _ _ _ ?_
          exact hx _ _ _ _ _ _ _ _ ⟨cs_mA hC1 hf2, ⟨t2, hM2⟩, u1, h92⟩ (by show _ + 2100 * cc ≤ _ + 2100 * cc2; omega) (by show _ + 110000 * cc ≤ _ + 110000 * cc2; omega)
        · exact absurd (hz.mpr hx1) q
    · exact absurd rfl q
  · obtain ⟨rfl, hC1⟩ := hp
    have hj := hj j rfl
    refine And.intro rfl (And.intro (And.intro (by omega) (fun N hN => by have hN := ab_Xs_n hN; omega)) (fun z hzR hz => ?_))
    have hz := ab_Xs_z hz
    subst hz
    refine And.intro rfl (And.intro (And.intro (by omega) (fun N hN => by have hN := ab_Xs_n hN; omega)) (fun z hzR hz => ?_))
    have hz := ab_Xs_z hz
    subst hz
    refine Exists.intro _ (And.intro (by first | assumption | exact st_s | exact st_e (by decide) (by assumption) | exact st_e (by omega) (by assumption) | exact st_e (by decide) st_s | exact st_e (by omega) st_s | exact st_e (by decide) (st_e (by decide) (by assumption)) | exact st_e (by omega) (st_e (by omega) (by assumption))) (And.intro rfl (ab_inv_of hmm (by first | decide | omega) (by omega) (by omega) ?_)))
    intro z2 σ2 hp2
    obtain ⟨hf2, ⟨x2, rfl⟩, t2, hM2⟩ := hp2
    have q572 := hM2.h57
    have hth := m_thrown hM2
    have h92 : σ2.2 319 = some (lgc u1) := (hf2.2 319 (by unfold mA; omega)).trans h91
    refine Exists.intro _ (And.intro (by first | assumption | exact st_s | exact st_e (by decide) (by assumption) | exact st_e (by omega) (by assumption) | exact st_e (by decide) st_s | exact st_e (by omega) st_s | exact st_e (by decide) (st_e (by decide) (by assumption)) | exact st_e (by omega) (st_e (by omega) (by assumption))) (And.intro rfl (ab_inv_ev hth (by first | decide | omega) (by first | exact Nat.le_refl _ | omega) (by first | exact Nat.le_refl _ | omega) ?_)))
    refine And.intro (fun q => ?_) (fun q => ?_)
    · refine hA 110 _ rfl _ _ _ _ _ ?_
      refine And.intro (show ab_R (((j : Nat) : Int) + 1) from rR (by omega) (by omega)) (And.intro (fun q => ?_) (fun q => ?_))
      · refine hA 113 _ rfl _ _ _ _ _ ?_
        exact hx _ _ _ _ _ _ _ _ ⟨cs_mA hC1 hf2, ⟨t2, hM2⟩, u1, h92⟩ (by show _ + 2100 * cc ≤ _ + 2100 * cc; omega) (by show _ + 110000 * cc ≤ _ + 110000 * cc; omega)
      · have q : ((j : Nat) : Int) + 1 = 0 := q
        omega
    · exact absurd rfl q
set_option maxRecDepth 100000 in
set_option maxHeartbeats 1000000 in
theorem c_select (hA : ab_ruleL N0 sc bL_law 30 601024 7293033 lwP At) (hsc : ∀ j, ab_R (sc j)) (hi : i + 6 ≤ N0) (hN : N0 < 100000) (hL : LI σ S r th) (hk : k + 2100 ≤ 601024) (hn : n + 110000 ≤ 7293033) (y5 y6 : Option ab_V) (hx : LNx At i S k n) : At 114 (LLs i y5 y6) [] σ k n := by
  obtain ⟨cc, rows, K, va, R, f, m9, pl, c⟩ := S
  obtain ⟨⟨ad, hC⟩, ⟨t, hM⟩, u9, h9⟩ := hL
  have h0 := hC.1
  have hc := h_select hC (sc (((i : Nat) : Int) + 1).toNat) (sc (((i : Nat) : Int) + 2).toNat) (hsc _) (hsc _) h9
  have hm := fun (σ1 : ab_H) (h1 : ∀ a, 57 ≤ a → a ≤ 318 → σ1.2 a = σ.2 a) => g_select (hM.keep h1) (sc (((i : Nat) : Int) + 1).toNat) (sc (((i : Nat) : Int) + 2).toNat) (hsc _) (hsc _)
  generalize ho : (stq (cc, rows, K, va, R, f, m9, pl, c) (sp_select R (sc (((i : Nat) : Int) + 1).toNat) (sc (((i : Nat) : Int) + 2).toNat))) = o at hc hm
  have hcc : ∀ x S1, o = .inl (x, S1) → S1.1 = cc := fun x S1 h => by subst h; exact congrArg (fun S : St => S.1) (stq_l ho).2
  have hj : ∀ j, o = .inr j → j = 0 := fun j h => by
    subst h
    exact on_select (stq_i ho)
  clear ho
  skip
  refine hA 114 _ rfl _ _ _ _ _ ?_
  refine And.intro rfl (And.intro (And.intro (by omega) (fun N hN => by have hN := ab_Xs_n hN; omega)) (fun z hzR hz => ?_))
  have hz := ab_Xs_z hz
  subst hz
  refine And.intro rfl (And.intro (And.intro (by omega) (fun N hN => by have hN := ab_Xs_n hN; omega)) (fun z hzR hz => ?_))
  have hz := ab_Xs_z hz
  subst hz
  refine And.intro rfl (ab_invH_of hc (by first | decide | omega) (by omega) (by omega) ?_)
  intro z σ1 hp
  obtain ⟨hs1, hm1, u1, h91, hp⟩ := hp
  have q57 := (hM.keep hm1).h57
  have hmm := hm σ1 hm1
  rcases o with ⟨x, S1⟩ | j
  · obtain ⟨cc2, rows2, K2, va2, R2, f2, m2, pl2, c2⟩ := S1
    obtain ⟨rfl, hx1, hC1⟩ := hp
    have hcc : cc2 = cc := hcc _ _ rfl
    have hxR : ab_R (u1 0) := by rw [hx1]; exact ab_wr_R x
    have hxW := ab_wr_R x
    refine And.intro rfl (And.intro (And.intro (by omega) (fun N hN => by have hN := ab_Xs_n hN; omega)) (fun z hzR hz => ?_))
    have hz := ab_Xs_z hz
    subst hz
    refine And.intro rfl (And.intro (And.intro (by omega) (fun N hN => by have hN := ab_Xs_n hN; omega)) (fun z hzR hz => ?_))
    have hz := ab_Xs_z hz
    subst hz
    refine Exists.intro _ (And.intro (by first | assumption | exact st_s | exact st_e (by decide) (by assumption) | exact st_e (by omega) (by assumption) | exact st_e (by decide) st_s | exact st_e (by omega) st_s | exact st_e (by decide) (st_e (by decide) (by assumption)) | exact st_e (by omega) (st_e (by omega) (by assumption))) (And.intro rfl (ab_inv_of hmm (by first | decide | omega) (by omega) (by omega) ?_)))
    intro z2 σ2 hp2
    obtain ⟨hf2, rfl, t2, hM2⟩ := hp2
    have q572 := hM2.h57
    have hth := m_thrown hM2
    have h92 : σ2.2 319 = some (lgc u1) := (hf2.2 319 (by unfold mA; omega)).trans h91
    refine Exists.intro _ (And.intro (by first | assumption | exact st_s | exact st_e (by decide) (by assumption) | exact st_e (by omega) (by assumption) | exact st_e (by decide) st_s | exact st_e (by omega) st_s | exact st_e (by decide) (st_e (by decide) (by assumption)) | exact st_e (by omega) (st_e (by omega) (by assumption))) (And.intro rfl (ab_inv_ev hth (by first | decide | omega) (by first | exact Nat.le_refl _ | omega) (by first | exact Nat.le_refl _ | omega) ?_)))
    refine And.intro (fun q => ?_) (fun q => ?_)
    · refine hA 116 _ rfl _ _ _ _ _ ?_
      refine And.intro (by first | assumption | exact b2i_R _ | exact rR (by omega) (by omega) | exact rR (by simp only [Int.toNat_natCast]; omega) (by simp only [Int.toNat_natCast]; omega)) (And.intro (fun q => ?_) (fun q => ?_))
      · exact absurd rfl q
      · refine hA 117 _ rfl _ _ _ _ _ ?_
        refine Exists.intro _ (Exists.intro _ (And.intro (by first | assumption | exact st_s | exact st_e (by decide) (by assumption) | exact st_e (by omega) (by assumption) | exact st_e (by decide) st_s | exact st_e (by omega) st_s | exact st_e (by decide) (st_e (by decide) (by assumption)) | exact st_e (by omega) (st_e (by omega) (by assumption))) (And.intro (by first | omega | (simp only [Int.toNat_natCast]; omega)) ?_)))
        refine And.intro (And.intro (by first | assumption | exact b2i_R _ | exact rR (by omega) (by omega) | exact rR (by simp only [Int.toNat_natCast]; omega) (by simp only [Int.toNat_natCast]; omega)) (by first | assumption | exact b2i_R _ | exact rR (by omega) (by omega) | exact rR (by simp only [Int.toNat_natCast]; omega) (by simp only [Int.toNat_natCast]; omega))) (fun z hzR hz => ?_)
        refine And.intro (by first | assumption | exact b2i_R _ | exact rR (by omega) (by omega) | exact rR (by simp only [Int.toNat_natCast]; omega) (by simp only [Int.toNat_natCast]; omega)) (And.intro (fun q => ?_) (fun q => ?_))
        · refine hA 119 _ rfl _ _ _ _ _ ?_
          exact hx _ _ _ _ _ _ _ _ ⟨cs_mA hC1 hf2, ⟨t2, hM2⟩, u1, h92⟩ (by show _ + 2100 * cc ≤ _ + 2100 * cc2; omega) (by show _ + 110000 * cc ≤ _ + 110000 * cc2; omega)
        · exact absurd (hz.mpr hx1) q
    · exact absurd rfl q
  · obtain ⟨rfl, hC1⟩ := hp
    have hj := hj j rfl
    refine And.intro rfl (And.intro (And.intro (by omega) (fun N hN => by have hN := ab_Xs_n hN; omega)) (fun z hzR hz => ?_))
    have hz := ab_Xs_z hz
    subst hz
    refine And.intro rfl (And.intro (And.intro (by omega) (fun N hN => by have hN := ab_Xs_n hN; omega)) (fun z hzR hz => ?_))
    have hz := ab_Xs_z hz
    subst hz
    refine Exists.intro _ (And.intro (by first | assumption | exact st_s | exact st_e (by decide) (by assumption) | exact st_e (by omega) (by assumption) | exact st_e (by decide) st_s | exact st_e (by omega) st_s | exact st_e (by decide) (st_e (by decide) (by assumption)) | exact st_e (by omega) (st_e (by omega) (by assumption))) (And.intro rfl (ab_inv_of hmm (by first | decide | omega) (by omega) (by omega) ?_)))
    intro z2 σ2 hp2
    obtain ⟨hf2, ⟨x2, rfl⟩, t2, hM2⟩ := hp2
    have q572 := hM2.h57
    have hth := m_thrown hM2
    have h92 : σ2.2 319 = some (lgc u1) := (hf2.2 319 (by unfold mA; omega)).trans h91
    refine Exists.intro _ (And.intro (by first | assumption | exact st_s | exact st_e (by decide) (by assumption) | exact st_e (by omega) (by assumption) | exact st_e (by decide) st_s | exact st_e (by omega) st_s | exact st_e (by decide) (st_e (by decide) (by assumption)) | exact st_e (by omega) (st_e (by omega) (by assumption))) (And.intro rfl (ab_inv_ev hth (by first | decide | omega) (by first | exact Nat.le_refl _ | omega) (by first | exact Nat.le_refl _ | omega) ?_)))
    refine And.intro (fun q => ?_) (fun q => ?_)
    · refine hA 116 _ rfl _ _ _ _ _ ?_
      refine And.intro (show ab_R (((j : Nat) : Int) + 1) from rR (by omega) (by omega)) (And.intro (fun q => ?_) (fun q => ?_))
      · refine hA 119 _ rfl _ _ _ _ _ ?_
        exact hx _ _ _ _ _ _ _ _ ⟨cs_mA hC1 hf2, ⟨t2, hM2⟩, u1, h92⟩ (by show _ + 2100 * cc ≤ _ + 2100 * cc; omega) (by show _ + 110000 * cc ≤ _ + 110000 * cc; omega)
      · have q : ((j : Nat) : Int) + 1 = 0 := q
        omega
    · exact absurd rfl q
set_option maxRecDepth 100000 in
set_option maxHeartbeats 1000000 in
theorem c_next (hA : ab_ruleL N0 sc bL_law 30 601024 7293033 lwP At) (hsc : ∀ j, ab_R (sc j)) (hi : i + 6 ≤ N0) (hN : N0 < 100000) (hL : LI σ S r th) (hk : k + 2100 ≤ 601024) (hn : n + 110000 ≤ 7293033) (y5 y6 : Option ab_V) (hx : LNx At i S k n) : At 120 (LLs i y5 y6) [] σ k n := by
  obtain ⟨cc, rows, K, va, R, f, m9, pl, c⟩ := S
  obtain ⟨⟨ad, hC⟩, ⟨t, hM⟩, u9, h9⟩ := hL
  have h0 := hC.1
  have hc := h_next hC (sc (((i : Nat) : Int) + 1).toNat) (sc (((i : Nat) : Int) + 2).toNat) (hsc _) (hsc _) h9
  have hm := fun (σ1 : ab_H) (h1 : ∀ a, 57 ≤ a → a ≤ 318 → σ1.2 a = σ.2 a) => g_next (hM.keep h1) (sc (((i : Nat) : Int) + 1).toNat) (sc (((i : Nat) : Int) + 2).toNat) (hsc _) (hsc _)
  generalize ho : (stq (cc, rows, K, va, R, f, m9, pl, c) (sp_next rows R (sc (((i : Nat) : Int) + 1).toNat) (sc (((i : Nat) : Int) + 2).toNat))) = o at hc hm
  have hcc : ∀ x S1, o = .inl (x, S1) → S1.1 = cc := fun x S1 h => by subst h; exact congrArg (fun S : St => S.1) (stq_l ho).2
  have hj : ∀ j, o = .inr j → j = 0 ∨ j = 1 := fun j h => by
    subst h
    exact on_next (stq_i ho)
  clear ho
  skip
  refine hA 120 _ rfl _ _ _ _ _ ?_
  refine And.intro rfl (And.intro (And.intro (by omega) (fun N hN => by have hN := ab_Xs_n hN; omega)) (fun z hzR hz => ?_))
  have hz := ab_Xs_z hz
  subst hz
  refine And.intro rfl (And.intro (And.intro (by omega) (fun N hN => by have hN := ab_Xs_n hN; omega)) (fun z hzR hz => ?_))
  have hz := ab_Xs_z hz
  subst hz
  refine And.intro rfl (ab_invH_of hc (by first | decide | omega) (by omega) (by omega) ?_)
  intro z σ1 hp
  obtain ⟨hs1, hm1, u1, h91, hp⟩ := hp
  have q57 := (hM.keep hm1).h57
  have hmm := hm σ1 hm1
  rcases o with ⟨x, S1⟩ | j
  · obtain ⟨cc2, rows2, K2, va2, R2, f2, m2, pl2, c2⟩ := S1
    obtain ⟨rfl, hx1, hC1⟩ := hp
    have hcc : cc2 = cc := hcc _ _ rfl
    have hxR : ab_R (u1 0) := by rw [hx1]; exact ab_wr_R x
    have hxW := ab_wr_R x
    refine And.intro rfl (And.intro (And.intro (by omega) (fun N hN => by have hN := ab_Xs_n hN; omega)) (fun z hzR hz => ?_))
    have hz := ab_Xs_z hz
    subst hz
    refine And.intro rfl (And.intro (And.intro (by omega) (fun N hN => by have hN := ab_Xs_n hN; omega)) (fun z hzR hz => ?_))
    have hz := ab_Xs_z hz
    subst hz
    refine Exists.intro _ (And.intro (by first | assumption | exact st_s | exact st_e (by decide) (by assumption) | exact st_e (by omega) (by assumption) | exact st_e (by decide) st_s | exact st_e (by omega) st_s | exact st_e (by decide) (st_e (by decide) (by assumption)) | exact st_e (by omega) (st_e (by omega) (by assumption))) (And.intro rfl (ab_inv_of hmm (by first | decide | omega) (by omega) (by omega) ?_)))
    intro z2 σ2 hp2
    obtain ⟨hf2, rfl, t2, hM2⟩ := hp2
    have q572 := hM2.h57
    have hth := m_thrown hM2
    have h92 : σ2.2 319 = some (lgc u1) := (hf2.2 319 (by unfold mA; omega)).trans h91
    refine Exists.intro _ (And.intro (by first | assumption | exact st_s | exact st_e (by decide) (by assumption) | exact st_e (by omega) (by assumption) | exact st_e (by decide) st_s | exact st_e (by omega) st_s | exact st_e (by decide) (st_e (by decide) (by assumption)) | exact st_e (by omega) (st_e (by omega) (by assumption))) (And.intro rfl (ab_inv_ev hth (by first | decide | omega) (by first | exact Nat.le_refl _ | omega) (by first | exact Nat.le_refl _ | omega) ?_)))
    refine And.intro (fun q => ?_) (fun q => ?_)
    · refine hA 122 _ rfl _ _ _ _ _ ?_
      refine And.intro (by first | assumption | exact b2i_R _ | exact rR (by omega) (by omega) | exact rR (by simp only [Int.toNat_natCast]; omega) (by simp only [Int.toNat_natCast]; omega)) (And.intro (fun q => ?_) (fun q => ?_))
      · exact absurd rfl q
      · refine hA 123 _ rfl _ _ _ _ _ ?_
        refine Exists.intro _ (Exists.intro _ (And.intro (by first | assumption | exact st_s | exact st_e (by decide) (by assumption) | exact st_e (by omega) (by assumption) | exact st_e (by decide) st_s | exact st_e (by omega) st_s | exact st_e (by decide) (st_e (by decide) (by assumption)) | exact st_e (by omega) (st_e (by omega) (by assumption))) (And.intro (by first | omega | (simp only [Int.toNat_natCast]; omega)) ?_)))
        refine And.intro (And.intro (by first | assumption | exact b2i_R _ | exact rR (by omega) (by omega) | exact rR (by simp only [Int.toNat_natCast]; omega) (by simp only [Int.toNat_natCast]; omega)) (by first | assumption | exact b2i_R _ | exact rR (by omega) (by omega) | exact rR (by simp only [Int.toNat_natCast]; omega) (by simp only [Int.toNat_natCast]; omega))) (fun z hzR hz => ?_)
        refine And.intro (by first | assumption | exact b2i_R _ | exact rR (by omega) (by omega) | exact rR (by simp only [Int.toNat_natCast]; omega) (by simp only [Int.toNat_natCast]; omega)) (And.intro (fun q => ?_) (fun q => ?_))
        · refine hA 125 _ rfl _ _ _ _ _ ?_
          exact hx _ _ _ _ _ _ _ _ ⟨cs_mA hC1 hf2, ⟨t2, hM2⟩, u1, h92⟩ (by show _ + 2100 * cc ≤ _ + 2100 * cc2; omega) (by show _ + 110000 * cc ≤ _ + 110000 * cc2; omega)
        · exact absurd (hz.mpr hx1) q
    · exact absurd rfl q
  · obtain ⟨rfl, hC1⟩ := hp
    have hj := hj j rfl
    refine And.intro rfl (And.intro (And.intro (by omega) (fun N hN => by have hN := ab_Xs_n hN; omega)) (fun z hzR hz => ?_))
    have hz := ab_Xs_z hz
    subst hz
    refine And.intro rfl (And.intro (And.intro (by omega) (fun N hN => by have hN := ab_Xs_n hN; omega)) (fun z hzR hz => ?_))
    have hz := ab_Xs_z hz
    subst hz
    refine Exists.intro _ (And.intro (by first | assumption | exact st_s | exact st_e (by decide) (by assumption) | exact st_e (by omega) (by assumption) | exact st_e (by decide) st_s | exact st_e (by omega) st_s | exact st_e (by decide) (st_e (by decide) (by assumption)) | exact st_e (by omega) (st_e (by omega) (by assumption))) (And.intro rfl (ab_inv_of hmm (by first | decide | omega) (by omega) (by omega) ?_)))
    intro z2 σ2 hp2
    obtain ⟨hf2, ⟨x2, rfl⟩, t2, hM2⟩ := hp2
    have q572 := hM2.h57
    have hth := m_thrown hM2
    have h92 : σ2.2 319 = some (lgc u1) := (hf2.2 319 (by unfold mA; omega)).trans h91
    refine Exists.intro _ (And.intro (by first | assumption | exact st_s | exact st_e (by decide) (by assumption) | exact st_e (by omega) (by assumption) | exact st_e (by decide) st_s | exact st_e (by omega) st_s | exact st_e (by decide) (st_e (by decide) (by assumption)) | exact st_e (by omega) (st_e (by omega) (by assumption))) (And.intro rfl (ab_inv_ev hth (by first | decide | omega) (by first | exact Nat.le_refl _ | omega) (by first | exact Nat.le_refl _ | omega) ?_)))
    refine And.intro (fun q => ?_) (fun q => ?_)
    · refine hA 122 _ rfl _ _ _ _ _ ?_
      refine And.intro (show ab_R (((j : Nat) : Int) + 1) from rR (by omega) (by omega)) (And.intro (fun q => ?_) (fun q => ?_))
      · refine hA 125 _ rfl _ _ _ _ _ ?_
        exact hx _ _ _ _ _ _ _ _ ⟨cs_mA hC1 hf2, ⟨t2, hM2⟩, u1, h92⟩ (by show _ + 2100 * cc ≤ _ + 2100 * cc; omega) (by show _ + 110000 * cc ≤ _ + 110000 * cc; omega)
      · have q : ((j : Nat) : Int) + 1 = 0 := q
        omega
    · exact absurd rfl q
set_option maxRecDepth 100000 in
set_option maxHeartbeats 1000000 in
theorem c_would (hA : ab_ruleL N0 sc bL_law 30 601024 7293033 lwP At) (hsc : ∀ j, ab_R (sc j)) (hi : i + 6 ≤ N0) (hN : N0 < 100000) (hL : LI σ S r th) (hk : k + 2100 ≤ 601024) (hn : n + 110000 ≤ 7293033) (y5 y6 : Option ab_V) (hx : LNx At i S k n) : At 126 (LLs i y5 y6) [] σ k n := by
  obtain ⟨cc, rows, K, va, R, f, m9, pl, c⟩ := S
  obtain ⟨⟨ad, hC⟩, ⟨t, hM⟩, u9, h9⟩ := hL
  have h0 := hC.1
  have hc := h_would hC (sc (((i : Nat) : Int) + 1).toNat) (sc (((i : Nat) : Int) + 2).toNat) (sc (((i : Nat) : Int) + 3).toNat) (sc (((i : Nat) : Int) + 4).toNat) (hsc _) (hsc _) (hsc _) (hsc _) h9
  have hm := fun (σ1 : ab_H) (h1 : ∀ a, 57 ≤ a → a ≤ 318 → σ1.2 a = σ.2 a) => g_would (hM.keep h1) (sc (((i : Nat) : Int) + 1).toNat) (sc (((i : Nat) : Int) + 2).toNat) (sc (((i : Nat) : Int) + 3).toNat) (sc (((i : Nat) : Int) + 4).toNat) (hsc _) (hsc _) (hsc _) (hsc _)
  generalize ho : (stq (cc, rows, K, va, R, f, m9, pl, c) (sp_would rows R (sc (((i : Nat) : Int) + 1).toNat) (sc (((i : Nat) : Int) + 2).toNat) (sc (((i : Nat) : Int) + 3).toNat) (sc (((i : Nat) : Int) + 4).toNat))) = o at hc hm
  have hcc : ∀ x S1, o = .inl (x, S1) → S1.1 = cc := fun x S1 h => by subst h; exact congrArg (fun S : St => S.1) (stq_l ho).2
  have hj : ∀ j, o = .inr j → j = 0 ∨ j = 1 := fun j h => by
    subst h
    exact on_would (stq_i ho)
  clear ho
  skip
  refine hA 126 _ rfl _ _ _ _ _ ?_
  refine And.intro rfl (And.intro (And.intro (by omega) (fun N hN => by have hN := ab_Xs_n hN; omega)) (fun z hzR hz => ?_))
  have hz := ab_Xs_z hz
  subst hz
  refine And.intro rfl (And.intro (And.intro (by omega) (fun N hN => by have hN := ab_Xs_n hN; omega)) (fun z hzR hz => ?_))
  have hz := ab_Xs_z hz
  subst hz
  refine And.intro rfl (And.intro (And.intro (by omega) (fun N hN => by have hN := ab_Xs_n hN; omega)) (fun z hzR hz => ?_))
  have hz := ab_Xs_z hz
  subst hz
  refine And.intro rfl (And.intro (And.intro (by omega) (fun N hN => by have hN := ab_Xs_n hN; omega)) (fun z hzR hz => ?_))
  have hz := ab_Xs_z hz
  subst hz
  refine And.intro rfl (ab_invH_of hc (by first | decide | omega) (by omega) (by omega) ?_)
  intro z σ1 hp
  obtain ⟨hs1, hm1, u1, h91, hp⟩ := hp
  have q57 := (hM.keep hm1).h57
  have hmm := hm σ1 hm1
  rcases o with ⟨x, S1⟩ | j
  · obtain ⟨cc2, rows2, K2, va2, R2, f2, m2, pl2, c2⟩ := S1
    obtain ⟨rfl, hx1, hC1⟩ := hp
    have hcc : cc2 = cc := hcc _ _ rfl
    have hxR : ab_R (u1 0) := by rw [hx1]; exact ab_wr_R x
    have hxW := ab_wr_R x
    refine And.intro rfl (And.intro (And.intro (by omega) (fun N hN => by have hN := ab_Xs_n hN; omega)) (fun z hzR hz => ?_))
    have hz := ab_Xs_z hz
    subst hz
    refine And.intro rfl (And.intro (And.intro (by omega) (fun N hN => by have hN := ab_Xs_n hN; omega)) (fun z hzR hz => ?_))
    have hz := ab_Xs_z hz
    subst hz
    refine And.intro rfl (And.intro (And.intro (by omega) (fun N hN => by have hN := ab_Xs_n hN; omega)) (fun z hzR hz => ?_))
    have hz := ab_Xs_z hz
    subst hz
    refine And.intro rfl (And.intro (And.intro (by omega) (fun N hN => by have hN := ab_Xs_n hN; omega)) (fun z hzR hz => ?_))
    have hz := ab_Xs_z hz
    subst hz
    refine Exists.intro _ (And.intro (by first | assumption | exact st_s | exact st_e (by decide) (by assumption) | exact st_e (by omega) (by assumption) | exact st_e (by decide) st_s | exact st_e (by omega) st_s | exact st_e (by decide) (st_e (by decide) (by assumption)) | exact st_e (by omega) (st_e (by omega) (by assumption))) (And.intro rfl (ab_inv_of hmm (by first | decide | omega) (by omega) (by omega) ?_)))
    intro z2 σ2 hp2
    obtain ⟨hf2, rfl, t2, hM2⟩ := hp2
    have q572 := hM2.h57
    have hth := m_thrown hM2
    have h92 : σ2.2 319 = some (lgc u1) := (hf2.2 319 (by unfold mA; omega)).trans h91
    refine Exists.intro _ (And.intro (by first | assumption | exact st_s | exact st_e (by decide) (by assumption) | exact st_e (by omega) (by assumption) | exact st_e (by decide) st_s | exact st_e (by omega) st_s | exact st_e (by decide) (st_e (by decide) (by assumption)) | exact st_e (by omega) (st_e (by omega) (by assumption))) (And.intro rfl (ab_inv_ev hth (by first | decide | omega) (by first | exact Nat.le_refl _ | omega) (by first | exact Nat.le_refl _ | omega) ?_)))
    refine And.intro (fun q => ?_) (fun q => ?_)
    · refine hA 128 _ rfl _ _ _ _ _ ?_
      refine And.intro (by first | assumption | exact b2i_R _ | exact rR (by omega) (by omega) | exact rR (by simp only [Int.toNat_natCast]; omega) (by simp only [Int.toNat_natCast]; omega)) (And.intro (fun q => ?_) (fun q => ?_))
      · exact absurd rfl q
      · refine hA 129 _ rfl _ _ _ _ _ ?_
        refine Exists.intro _ (Exists.intro _ (And.intro (by first | assumption | exact st_s | exact st_e (by decide) (by assumption) | exact st_e (by omega) (by assumption) | exact st_e (by decide) st_s | exact st_e (by omega) st_s | exact st_e (by decide) (st_e (by decide) (by assumption)) | exact st_e (by omega) (st_e (by omega) (by assumption))) (And.intro (by first | omega | (simp only [Int.toNat_natCast]; omega)) ?_)))
        refine And.intro (And.intro (by first | assumption | exact b2i_R _ | exact rR (by omega) (by omega) | exact rR (by simp only [Int.toNat_natCast]; omega) (by simp only [Int.toNat_natCast]; omega)) (by first | assumption | exact b2i_R _ | exact rR (by omega) (by omega) | exact rR (by simp only [Int.toNat_natCast]; omega) (by simp only [Int.toNat_natCast]; omega))) (fun z hzR hz => ?_)
        refine And.intro (by first | assumption | exact b2i_R _ | exact rR (by omega) (by omega) | exact rR (by simp only [Int.toNat_natCast]; omega) (by simp only [Int.toNat_natCast]; omega)) (And.intro (fun q => ?_) (fun q => ?_))
        · refine hA 131 _ rfl _ _ _ _ _ ?_
          exact hx _ _ _ _ _ _ _ _ ⟨cs_mA hC1 hf2, ⟨t2, hM2⟩, u1, h92⟩ (by show _ + 2100 * cc ≤ _ + 2100 * cc2; omega) (by show _ + 110000 * cc ≤ _ + 110000 * cc2; omega)
        · exact absurd (hz.mpr hx1) q
    · exact absurd rfl q
  · obtain ⟨rfl, hC1⟩ := hp
    have hj := hj j rfl
    refine And.intro rfl (And.intro (And.intro (by omega) (fun N hN => by have hN := ab_Xs_n hN; omega)) (fun z hzR hz => ?_))
    have hz := ab_Xs_z hz
    subst hz
    refine And.intro rfl (And.intro (And.intro (by omega) (fun N hN => by have hN := ab_Xs_n hN; omega)) (fun z hzR hz => ?_))
    have hz := ab_Xs_z hz
    subst hz
    refine And.intro rfl (And.intro (And.intro (by omega) (fun N hN => by have hN := ab_Xs_n hN; omega)) (fun z hzR hz => ?_))
    have hz := ab_Xs_z hz
    subst hz
    refine And.intro rfl (And.intro (And.intro (by omega) (fun N hN => by have hN := ab_Xs_n hN; omega)) (fun z hzR hz => ?_))
    have hz := ab_Xs_z hz
    subst hz
    refine Exists.intro _ (And.intro (by first | assumption | exact st_s | exact st_e (by decide) (by assumption) | exact st_e (by omega) (by assumption) | exact st_e (by decide) st_s | exact st_e (by omega) st_s | exact st_e (by decide) (st_e (by decide) (by assumption)) | exact st_e (by omega) (st_e (by omega) (by assumption))) (And.intro rfl (ab_inv_of hmm (by first | decide | omega) (by omega) (by omega) ?_)))
    intro z2 σ2 hp2
    obtain ⟨hf2, ⟨x2, rfl⟩, t2, hM2⟩ := hp2
    have q572 := hM2.h57
    have hth := m_thrown hM2
    have h92 : σ2.2 319 = some (lgc u1) := (hf2.2 319 (by unfold mA; omega)).trans h91
    refine Exists.intro _ (And.intro (by first | assumption | exact st_s | exact st_e (by decide) (by assumption) | exact st_e (by omega) (by assumption) | exact st_e (by decide) st_s | exact st_e (by omega) st_s | exact st_e (by decide) (st_e (by decide) (by assumption)) | exact st_e (by omega) (st_e (by omega) (by assumption))) (And.intro rfl (ab_inv_ev hth (by first | decide | omega) (by first | exact Nat.le_refl _ | omega) (by first | exact Nat.le_refl _ | omega) ?_)))
    refine And.intro (fun q => ?_) (fun q => ?_)
    · refine hA 128 _ rfl _ _ _ _ _ ?_
      refine And.intro (show ab_R (((j : Nat) : Int) + 1) from rR (by omega) (by omega)) (And.intro (fun q => ?_) (fun q => ?_))
      · refine hA 131 _ rfl _ _ _ _ _ ?_
        exact hx _ _ _ _ _ _ _ _ ⟨cs_mA hC1 hf2, ⟨t2, hM2⟩, u1, h92⟩ (by show _ + 2100 * cc ≤ _ + 2100 * cc; omega) (by show _ + 110000 * cc ≤ _ + 110000 * cc; omega)
      · have q : ((j : Nat) : Int) + 1 = 0 := q
        omega
    · exact absurd rfl q
set_option maxRecDepth 100000 in
set_option maxHeartbeats 1000000 in
theorem c_within (hA : ab_ruleL N0 sc bL_law 30 601024 7293033 lwP At) (hsc : ∀ j, ab_R (sc j)) (hi : i + 6 ≤ N0) (hN : N0 < 100000) (hL : LI σ S r th) (hk : k + 2100 ≤ 601024) (hn : n + 110000 ≤ 7293033) (y5 y6 : Option ab_V) (hx : LNx At i S k n) : At 132 (LLs i y5 y6) [] σ k n := by
  obtain ⟨cc, rows, K, va, R, f, m9, pl, c⟩ := S
  obtain ⟨⟨ad, hC⟩, ⟨t, hM⟩, u9, h9⟩ := hL
  have h0 := hC.1
  have hc := h_within hC (sc (((i : Nat) : Int) + 1).toNat) (sc (((i : Nat) : Int) + 2).toNat) (hsc _) (hsc _) h9
  have hm := fun (σ1 : ab_H) (h1 : ∀ a, 57 ≤ a → a ≤ 318 → σ1.2 a = σ.2 a) => g_within (hM.keep h1) (sc (((i : Nat) : Int) + 1).toNat) (sc (((i : Nat) : Int) + 2).toNat) (hsc _) (hsc _)
  generalize ho : (stq (cc, rows, K, va, R, f, m9, pl, c) (sp_within R (sc (((i : Nat) : Int) + 1).toNat) (sc (((i : Nat) : Int) + 2).toNat))) = o at hc hm
  have hcc : ∀ x S1, o = .inl (x, S1) → S1.1 = cc := fun x S1 h => by subst h; exact congrArg (fun S : St => S.1) (stq_l ho).2
  have hj : ∀ j, o = .inr j → j = 0 := fun j h => by
    subst h
    exact on_within (stq_i ho)
  have hb : ∀ x S1, o = .inl (x, S1) → x = 0 ∨ x = 1 := fun x S1 h => by
    subst h
    exact bo_within (stq_l ho).1
  clear ho
  skip
  refine hA 132 _ rfl _ _ _ _ _ ?_
  refine And.intro rfl (And.intro (And.intro (by omega) (fun N hN => by have hN := ab_Xs_n hN; omega)) (fun z hzR hz => ?_))
  have hz := ab_Xs_z hz
  subst hz
  refine And.intro rfl (And.intro (And.intro (by omega) (fun N hN => by have hN := ab_Xs_n hN; omega)) (fun z hzR hz => ?_))
  have hz := ab_Xs_z hz
  subst hz
  refine And.intro rfl (ab_invH_of hc (by first | decide | omega) (by omega) (by omega) ?_)
  intro z σ1 hp
  obtain ⟨hs1, hm1, u1, h91, hp⟩ := hp
  have q57 := (hM.keep hm1).h57
  have hmm := hm σ1 hm1
  rcases o with ⟨x, S1⟩ | j
  · obtain ⟨cc2, rows2, K2, va2, R2, f2, m2, pl2, c2⟩ := S1
    obtain ⟨rfl, hx1, hC1⟩ := hp
    have hcc : cc2 = cc := hcc _ _ rfl
    have hxR : ab_R (u1 0) := by rw [hx1]; exact ab_wr_R x
    have hxW := ab_wr_R x
    refine And.intro rfl (And.intro (And.intro (by omega) (fun N hN => by have hN := ab_Xs_n hN; omega)) (fun z hzR hz => ?_))
    have hz := ab_Xs_z hz
    subst hz
    refine And.intro rfl (And.intro (And.intro (by omega) (fun N hN => by have hN := ab_Xs_n hN; omega)) (fun z hzR hz => ?_))
    have hz := ab_Xs_z hz
    subst hz
    refine Exists.intro _ (And.intro (by first | assumption | exact st_s | exact st_e (by decide) (by assumption) | exact st_e (by omega) (by assumption) | exact st_e (by decide) st_s | exact st_e (by omega) st_s | exact st_e (by decide) (st_e (by decide) (by assumption)) | exact st_e (by omega) (st_e (by omega) (by assumption))) (And.intro rfl (ab_inv_of hmm (by first | decide | omega) (by omega) (by omega) ?_)))
    intro z2 σ2 hp2
    obtain ⟨hf2, rfl, t2, hM2⟩ := hp2
    have q572 := hM2.h57
    have hth := m_thrown hM2
    have h92 : σ2.2 319 = some (lgc u1) := (hf2.2 319 (by unfold mA; omega)).trans h91
    refine Exists.intro _ (And.intro (by first | assumption | exact st_s | exact st_e (by decide) (by assumption) | exact st_e (by omega) (by assumption) | exact st_e (by decide) st_s | exact st_e (by omega) st_s | exact st_e (by decide) (st_e (by decide) (by assumption)) | exact st_e (by omega) (st_e (by omega) (by assumption))) (And.intro rfl (ab_inv_ev hth (by first | decide | omega) (by first | exact Nat.le_refl _ | omega) (by first | exact Nat.le_refl _ | omega) ?_)))
    refine And.intro (fun q => ?_) (fun q => ?_)
    · refine hA 134 _ rfl _ _ _ _ _ ?_
      refine And.intro (by first | assumption | exact b2i_R _ | exact rR (by omega) (by omega) | exact rR (by simp only [Int.toNat_natCast]; omega) (by simp only [Int.toNat_natCast]; omega)) (And.intro (fun q => ?_) (fun q => ?_))
      · exact absurd rfl q
      · rcases hb x _ rfl with rfl | rfl
        · refine hA 135 _ rfl _ _ _ _ _ ?_
          refine Exists.intro _ (Exists.intro _ (And.intro (by first | assumption | exact st_s | exact st_e (by decide) (by assumption) | exact st_e (by omega) (by assumption) | exact st_e (by decide) st_s | exact st_e (by omega) st_s | exact st_e (by decide) (st_e (by decide) (by assumption)) | exact st_e (by omega) (st_e (by omega) (by assumption))) (And.intro (by first | omega | (simp only [Int.toNat_natCast]; omega)) ?_)))
          refine And.intro (by first | assumption | exact b2i_R _ | exact rR (by omega) (by omega) | exact rR (by simp only [Int.toNat_natCast]; omega) (by simp only [Int.toNat_natCast]; omega)) (And.intro (fun q => ?_) (fun q => ?_))
          · refine hA 137 _ rfl _ _ _ _ _ ?_
            refine hA 138 _ rfl _ _ _ _ _ ?_
            refine And.intro (And.intro (by first | assumption | exact b2i_R _ | exact rR (by omega) (by omega) | exact rR (by simp only [Int.toNat_natCast]; omega) (by simp only [Int.toNat_natCast]; omega)) (by first | assumption | exact b2i_R _ | exact rR (by omega) (by omega) | exact rR (by simp only [Int.toNat_natCast]; omega) (by simp only [Int.toNat_natCast]; omega))) (fun z hzR hz => ?_)
            refine And.intro (by first | assumption | exact b2i_R _ | exact rR (by omega) (by omega) | exact rR (by simp only [Int.toNat_natCast]; omega) (by simp only [Int.toNat_natCast]; omega)) (And.intro (fun q => ?_) (fun q => ?_))
            · refine hA 140 _ rfl _ _ _ _ _ ?_
              exact hx _ _ _ _ _ _ _ _ ⟨cs_mA hC1 hf2, ⟨t2, hM2⟩, u1, h92⟩ (by show _ + 2100 * cc ≤ _ + 2100 * cc2; omega) (by show _ + 110000 * cc ≤ _ + 110000 * cc2; omega)
            · exact absurd (hz.mpr (hx1.trans ab_wr0)) q
          · exact absurd rfl q
        · refine hA 135 _ rfl _ _ _ _ _ ?_
          refine Exists.intro _ (Exists.intro _ (And.intro (by first | assumption | exact st_s | exact st_e (by decide) (by assumption) | exact st_e (by omega) (by assumption) | exact st_e (by decide) st_s | exact st_e (by omega) st_s | exact st_e (by decide) (st_e (by decide) (by assumption)) | exact st_e (by omega) (st_e (by omega) (by assumption))) (And.intro (by first | omega | (simp only [Int.toNat_natCast]; omega)) ?_)))
          refine And.intro (by first | assumption | exact b2i_R _ | exact rR (by omega) (by omega) | exact rR (by simp only [Int.toNat_natCast]; omega) (by simp only [Int.toNat_natCast]; omega)) (And.intro (fun q => ?_) (fun q => ?_))
          · exact absurd (show (1 : Int) = 0 from q) (by decide)
          · refine hA 136 _ rfl _ _ _ _ _ ?_
            refine hA 138 _ rfl _ _ _ _ _ ?_
            refine And.intro (And.intro (by first | assumption | exact b2i_R _ | exact rR (by omega) (by omega) | exact rR (by simp only [Int.toNat_natCast]; omega) (by simp only [Int.toNat_natCast]; omega)) (by first | assumption | exact b2i_R _ | exact rR (by omega) (by omega) | exact rR (by simp only [Int.toNat_natCast]; omega) (by simp only [Int.toNat_natCast]; omega))) (fun z hzR hz => ?_)
            refine And.intro (by first | assumption | exact b2i_R _ | exact rR (by omega) (by omega) | exact rR (by simp only [Int.toNat_natCast]; omega) (by simp only [Int.toNat_natCast]; omega)) (And.intro (fun q => ?_) (fun q => ?_))
            · refine hA 140 _ rfl _ _ _ _ _ ?_
              exact hx _ _ _ _ _ _ _ _ ⟨cs_mA hC1 hf2, ⟨t2, hM2⟩, u1, h92⟩ (by show _ + 2100 * cc ≤ _ + 2100 * cc2; omega) (by show _ + 110000 * cc ≤ _ + 110000 * cc2; omega)
            · exact absurd (hz.mpr (hx1.trans ab_wr1)) q
    · exact absurd rfl q
  · obtain ⟨rfl, hC1⟩ := hp
    have hj := hj j rfl
    refine And.intro rfl (And.intro (And.intro (by omega) (fun N hN => by have hN := ab_Xs_n hN; omega)) (fun z hzR hz => ?_))
    have hz := ab_Xs_z hz
    subst hz
    refine And.intro rfl (And.intro (And.intro (by omega) (fun N hN => by have hN := ab_Xs_n hN; omega)) (fun z hzR hz => ?_))
    have hz := ab_Xs_z hz
    subst hz
    refine Exists.intro _ (And.intro (by first | assumption | exact st_s | exact st_e (by decide) (by assumption) | exact st_e (by omega) (by assumption) | exact st_e (by decide) st_s | exact st_e (by omega) st_s | exact st_e (by decide) (st_e (by decide) (by assumption)) | exact st_e (by omega) (st_e (by omega) (by assumption))) (And.intro rfl (ab_inv_of hmm (by first | decide | omega) (by omega) (by omega) ?_)))
    intro z2 σ2 hp2
    obtain ⟨hf2, ⟨x2, rfl⟩, t2, hM2⟩ := hp2
    have q572 := hM2.h57
    have hth := m_thrown hM2
    have h92 : σ2.2 319 = some (lgc u1) := (hf2.2 319 (by unfold mA; omega)).trans h91
    refine Exists.intro _ (And.intro (by first | assumption | exact st_s | exact st_e (by decide) (by assumption) | exact st_e (by omega) (by assumption) | exact st_e (by decide) st_s | exact st_e (by omega) st_s | exact st_e (by decide) (st_e (by decide) (by assumption)) | exact st_e (by omega) (st_e (by omega) (by assumption))) (And.intro rfl (ab_inv_ev hth (by first | decide | omega) (by first | exact Nat.le_refl _ | omega) (by first | exact Nat.le_refl _ | omega) ?_)))
    refine And.intro (fun q => ?_) (fun q => ?_)
    · refine hA 134 _ rfl _ _ _ _ _ ?_
      refine And.intro (show ab_R (((j : Nat) : Int) + 1) from rR (by omega) (by omega)) (And.intro (fun q => ?_) (fun q => ?_))
      · refine hA 140 _ rfl _ _ _ _ _ ?_
        exact hx _ _ _ _ _ _ _ _ ⟨cs_mA hC1 hf2, ⟨t2, hM2⟩, u1, h92⟩ (by show _ + 2100 * cc ≤ _ + 2100 * cc; omega) (by show _ + 110000 * cc ≤ _ + 110000 * cc; omega)
      · have q : ((j : Nat) : Int) + 1 = 0 := q
        omega
    · exact absurd rfl q
set_option maxRecDepth 100000 in
set_option maxHeartbeats 1000000 in
theorem c_cost (hA : ab_ruleL N0 sc bL_law 30 601024 7293033 lwP At) (hsc : ∀ j, ab_R (sc j)) (hi : i + 6 ≤ N0) (hN : N0 < 100000) (hL : LI σ S r th) (hk : k + 2100 ≤ 601024) (hn : n + 110000 ≤ 7293033) (y5 y6 : Option ab_V) (hx : LNx At i S k n) : At 141 (LLs i y5 y6) [] σ k n := by
  obtain ⟨cc, rows, K, va, R, f, m9, pl, c⟩ := S
  obtain ⟨⟨ad, hC⟩, ⟨t, hM⟩, u9, h9⟩ := hL
  have h0 := hC.1
  have hc := h_cost hC (sc (((i : Nat) : Int) + 1).toNat) (hsc _) h9
  have hm := fun (σ1 : ab_H) (h1 : ∀ a, 57 ≤ a → a ≤ 318 → σ1.2 a = σ.2 a) => g_cost (hM.keep h1) (sc (((i : Nat) : Int) + 1).toNat) (hsc _)
  generalize ho : (stq (cc, rows, K, va, R, f, m9, pl, c) (sp_cost c (sc (((i : Nat) : Int) + 1).toNat))) = o at hc hm
  have hcc : ∀ x S1, o = .inl (x, S1) → S1.1 = cc := fun x S1 h => by subst h; exact congrArg (fun S : St => S.1) (stq_l ho).2
  have hj : ∀ j, o = .inr j → j = 1 := fun j h => by
    subst h
    exact on_cost (stq_i ho)
  clear ho
  skip
  refine hA 141 _ rfl _ _ _ _ _ ?_
  refine And.intro rfl (And.intro (And.intro (by omega) (fun N hN => by have hN := ab_Xs_n hN; omega)) (fun z hzR hz => ?_))
  have hz := ab_Xs_z hz
  subst hz
  refine And.intro rfl (ab_invH_of hc (by first | decide | omega) (by omega) (by omega) ?_)
  intro z σ1 hp
  obtain ⟨hs1, hm1, u1, h91, hp⟩ := hp
  have q57 := (hM.keep hm1).h57
  have hmm := hm σ1 hm1
  rcases o with ⟨x, S1⟩ | j
  · obtain ⟨cc2, rows2, K2, va2, R2, f2, m2, pl2, c2⟩ := S1
    obtain ⟨rfl, hx1, hC1⟩ := hp
    have hcc : cc2 = cc := hcc _ _ rfl
    have hxR : ab_R (u1 0) := by rw [hx1]; exact ab_wr_R x
    have hxW := ab_wr_R x
    refine And.intro rfl (And.intro (And.intro (by omega) (fun N hN => by have hN := ab_Xs_n hN; omega)) (fun z hzR hz => ?_))
    have hz := ab_Xs_z hz
    subst hz
    refine Exists.intro _ (And.intro (by first | assumption | exact st_s | exact st_e (by decide) (by assumption) | exact st_e (by omega) (by assumption) | exact st_e (by decide) st_s | exact st_e (by omega) st_s | exact st_e (by decide) (st_e (by decide) (by assumption)) | exact st_e (by omega) (st_e (by omega) (by assumption))) (And.intro rfl (ab_inv_of hmm (by first | decide | omega) (by omega) (by omega) ?_)))
    intro z2 σ2 hp2
    obtain ⟨hf2, rfl, t2, hM2⟩ := hp2
    have q572 := hM2.h57
    have hth := m_thrown hM2
    have h92 : σ2.2 319 = some (lgc u1) := (hf2.2 319 (by unfold mA; omega)).trans h91
    refine Exists.intro _ (And.intro (by first | assumption | exact st_s | exact st_e (by decide) (by assumption) | exact st_e (by omega) (by assumption) | exact st_e (by decide) st_s | exact st_e (by omega) st_s | exact st_e (by decide) (st_e (by decide) (by assumption)) | exact st_e (by omega) (st_e (by omega) (by assumption))) (And.intro rfl (ab_inv_ev hth (by first | decide | omega) (by first | exact Nat.le_refl _ | omega) (by first | exact Nat.le_refl _ | omega) ?_)))
    refine And.intro (fun q => ?_) (fun q => ?_)
    · refine hA 143 _ rfl _ _ _ _ _ ?_
      refine And.intro (by first | assumption | exact b2i_R _ | exact rR (by omega) (by omega) | exact rR (by simp only [Int.toNat_natCast]; omega) (by simp only [Int.toNat_natCast]; omega)) (And.intro (fun q => ?_) (fun q => ?_))
      · exact absurd rfl q
      · refine hA 144 _ rfl _ _ _ _ _ ?_
        refine Exists.intro _ (Exists.intro _ (And.intro (by first | assumption | exact st_s | exact st_e (by decide) (by assumption) | exact st_e (by omega) (by assumption) | exact st_e (by decide) st_s | exact st_e (by omega) st_s | exact st_e (by decide) (st_e (by decide) (by assumption)) | exact st_e (by omega) (st_e (by omega) (by assumption))) (And.intro (by first | omega | (simp only [Int.toNat_natCast]; omega)) ?_)))
        refine And.intro (And.intro (by first | assumption | exact b2i_R _ | exact rR (by omega) (by omega) | exact rR (by simp only [Int.toNat_natCast]; omega) (by simp only [Int.toNat_natCast]; omega)) (by first | assumption | exact b2i_R _ | exact rR (by omega) (by omega) | exact rR (by simp only [Int.toNat_natCast]; omega) (by simp only [Int.toNat_natCast]; omega))) (fun z hzR hz => ?_)
        refine And.intro (by first | assumption | exact b2i_R _ | exact rR (by omega) (by omega) | exact rR (by simp only [Int.toNat_natCast]; omega) (by simp only [Int.toNat_natCast]; omega)) (And.intro (fun q => ?_) (fun q => ?_))
        · refine hA 146 _ rfl _ _ _ _ _ ?_
          exact hx _ _ _ _ _ _ _ _ ⟨cs_mA hC1 hf2, ⟨t2, hM2⟩, u1, h92⟩ (by show _ + 2100 * cc ≤ _ + 2100 * cc2; omega) (by show _ + 110000 * cc ≤ _ + 110000 * cc2; omega)
        · exact absurd (hz.mpr hx1) q
    · exact absurd rfl q
  · obtain ⟨rfl, hC1⟩ := hp
    have hj := hj j rfl
    refine And.intro rfl (And.intro (And.intro (by omega) (fun N hN => by have hN := ab_Xs_n hN; omega)) (fun z hzR hz => ?_))
    have hz := ab_Xs_z hz
    subst hz
    refine Exists.intro _ (And.intro (by first | assumption | exact st_s | exact st_e (by decide) (by assumption) | exact st_e (by omega) (by assumption) | exact st_e (by decide) st_s | exact st_e (by omega) st_s | exact st_e (by decide) (st_e (by decide) (by assumption)) | exact st_e (by omega) (st_e (by omega) (by assumption))) (And.intro rfl (ab_inv_of hmm (by first | decide | omega) (by omega) (by omega) ?_)))
    intro z2 σ2 hp2
    obtain ⟨hf2, ⟨x2, rfl⟩, t2, hM2⟩ := hp2
    have q572 := hM2.h57
    have hth := m_thrown hM2
    have h92 : σ2.2 319 = some (lgc u1) := (hf2.2 319 (by unfold mA; omega)).trans h91
    refine Exists.intro _ (And.intro (by first | assumption | exact st_s | exact st_e (by decide) (by assumption) | exact st_e (by omega) (by assumption) | exact st_e (by decide) st_s | exact st_e (by omega) st_s | exact st_e (by decide) (st_e (by decide) (by assumption)) | exact st_e (by omega) (st_e (by omega) (by assumption))) (And.intro rfl (ab_inv_ev hth (by first | decide | omega) (by first | exact Nat.le_refl _ | omega) (by first | exact Nat.le_refl _ | omega) ?_)))
    refine And.intro (fun q => ?_) (fun q => ?_)
    · refine hA 143 _ rfl _ _ _ _ _ ?_
      refine And.intro (show ab_R (((j : Nat) : Int)) from rR (by omega) (by omega)) (And.intro (fun q => ?_) (fun q => ?_))
      · refine hA 146 _ rfl _ _ _ _ _ ?_
        exact hx _ _ _ _ _ _ _ _ ⟨cs_mA hC1 hf2, ⟨t2, hM2⟩, u1, h92⟩ (by show _ + 2100 * cc ≤ _ + 2100 * cc; omega) (by show _ + 110000 * cc ≤ _ + 110000 * cc; omega)
      · have q : ((j : Nat) : Int) = 0 := q
        omega
    · exact absurd rfl q
set_option maxRecDepth 100000 in
set_option maxHeartbeats 1000000 in
theorem c_value (hA : ab_ruleL N0 sc bL_law 30 601024 7293033 lwP At) (hsc : ∀ j, ab_R (sc j)) (hi : i + 6 ≤ N0) (hN : N0 < 100000) (hL : LI σ S r th) (hk : k + 2100 ≤ 601024) (hn : n + 110000 ≤ 7293033) (y5 y6 : Option ab_V) (hx : LNx At i S k n) : At 147 (LLs i y5 y6) [] σ k n := by
  obtain ⟨cc, rows, K, va, R, f, m9, pl, c⟩ := S
  obtain ⟨⟨ad, hC⟩, ⟨t, hM⟩, u9, h9⟩ := hL
  have h0 := hC.1
  have hc := h_value hC (sc (((i : Nat) : Int) + 1).toNat) (sc (((i : Nat) : Int) + 2).toNat) (hsc _) (hsc _) h9
  have hm := fun (σ1 : ab_H) (h1 : ∀ a, 57 ≤ a → a ≤ 318 → σ1.2 a = σ.2 a) => g_value (hM.keep h1) (sc (((i : Nat) : Int) + 1).toNat) (sc (((i : Nat) : Int) + 2).toNat) (hsc _) (hsc _)
  generalize ho : (stq (cc, rows, K, va, R, f, m9, pl, c) (sp_value cc rows va (sc (((i : Nat) : Int) + 1).toNat) (sc (((i : Nat) : Int) + 2).toNat))) = o at hc hm
  have hcc : ∀ x S1, o = .inl (x, S1) → S1.1 = cc := fun x S1 h => by subst h; exact congrArg (fun S : St => S.1) (stq_l ho).2
  have hj : ∀ j, o = .inr j → j = 0 := fun j h => by
    subst h
    exact on_value (stq_i ho)
  clear ho
  skip
  refine hA 147 _ rfl _ _ _ _ _ ?_
  refine And.intro rfl (And.intro (And.intro (by omega) (fun N hN => by have hN := ab_Xs_n hN; omega)) (fun z hzR hz => ?_))
  have hz := ab_Xs_z hz
  subst hz
  refine And.intro rfl (And.intro (And.intro (by omega) (fun N hN => by have hN := ab_Xs_n hN; omega)) (fun z hzR hz => ?_))
  have hz := ab_Xs_z hz
  subst hz
  refine And.intro rfl (ab_invH_of hc (by first | decide | omega) (by omega) (by omega) ?_)
  intro z σ1 hp
  obtain ⟨hs1, hm1, u1, h91, hp⟩ := hp
  have q57 := (hM.keep hm1).h57
  have hmm := hm σ1 hm1
  rcases o with ⟨x, S1⟩ | j
  · obtain ⟨cc2, rows2, K2, va2, R2, f2, m2, pl2, c2⟩ := S1
    obtain ⟨rfl, hx1, hC1⟩ := hp
    have hcc : cc2 = cc := hcc _ _ rfl
    have hxR : ab_R (u1 0) := by rw [hx1]; exact ab_wr_R x
    have hxW := ab_wr_R x
    refine And.intro rfl (And.intro (And.intro (by omega) (fun N hN => by have hN := ab_Xs_n hN; omega)) (fun z hzR hz => ?_))
    have hz := ab_Xs_z hz
    subst hz
    refine And.intro rfl (And.intro (And.intro (by omega) (fun N hN => by have hN := ab_Xs_n hN; omega)) (fun z hzR hz => ?_))
    have hz := ab_Xs_z hz
    subst hz
    refine Exists.intro _ (And.intro (by first | assumption | exact st_s | exact st_e (by decide) (by assumption) | exact st_e (by omega) (by assumption) | exact st_e (by decide) st_s | exact st_e (by omega) st_s | exact st_e (by decide) (st_e (by decide) (by assumption)) | exact st_e (by omega) (st_e (by omega) (by assumption))) (And.intro rfl (ab_inv_of hmm (by first | decide | omega) (by omega) (by omega) ?_)))
    intro z2 σ2 hp2
    obtain ⟨hf2, rfl, t2, hM2⟩ := hp2
    have q572 := hM2.h57
    have hth := m_thrown hM2
    have h92 : σ2.2 319 = some (lgc u1) := (hf2.2 319 (by unfold mA; omega)).trans h91
    refine Exists.intro _ (And.intro (by first | assumption | exact st_s | exact st_e (by decide) (by assumption) | exact st_e (by omega) (by assumption) | exact st_e (by decide) st_s | exact st_e (by omega) st_s | exact st_e (by decide) (st_e (by decide) (by assumption)) | exact st_e (by omega) (st_e (by omega) (by assumption))) (And.intro rfl (ab_inv_ev hth (by first | decide | omega) (by first | exact Nat.le_refl _ | omega) (by first | exact Nat.le_refl _ | omega) ?_)))
    refine And.intro (fun q => ?_) (fun q => ?_)
    · refine hA 149 _ rfl _ _ _ _ _ ?_
      refine And.intro (by first | assumption | exact b2i_R _ | exact rR (by omega) (by omega) | exact rR (by simp only [Int.toNat_natCast]; omega) (by simp only [Int.toNat_natCast]; omega)) (And.intro (fun q => ?_) (fun q => ?_))
      · exact absurd rfl q
      · refine hA 150 _ rfl _ _ _ _ _ ?_
        refine Exists.intro _ (Exists.intro _ (And.intro (by first | assumption | exact st_s | exact st_e (by decide) (by assumption) | exact st_e (by omega) (by assumption) | exact st_e (by decide) st_s | exact st_e (by omega) st_s | exact st_e (by decide) (st_e (by decide) (by assumption)) | exact st_e (by omega) (st_e (by omega) (by assumption))) (And.intro (by first | omega | (simp only [Int.toNat_natCast]; omega)) ?_)))
        refine And.intro (And.intro (by first | assumption | exact b2i_R _ | exact rR (by omega) (by omega) | exact rR (by simp only [Int.toNat_natCast]; omega) (by simp only [Int.toNat_natCast]; omega)) (by first | assumption | exact b2i_R _ | exact rR (by omega) (by omega) | exact rR (by simp only [Int.toNat_natCast]; omega) (by simp only [Int.toNat_natCast]; omega))) (fun z hzR hz => ?_)
        refine And.intro (by first | assumption | exact b2i_R _ | exact rR (by omega) (by omega) | exact rR (by simp only [Int.toNat_natCast]; omega) (by simp only [Int.toNat_natCast]; omega)) (And.intro (fun q => ?_) (fun q => ?_))
        · refine hA 152 _ rfl _ _ _ _ _ ?_
          exact hx _ _ _ _ _ _ _ _ ⟨cs_mA hC1 hf2, ⟨t2, hM2⟩, u1, h92⟩ (by show _ + 2100 * cc ≤ _ + 2100 * cc2; omega) (by show _ + 110000 * cc ≤ _ + 110000 * cc2; omega)
        · exact absurd (hz.mpr hx1) q
    · exact absurd rfl q
  · obtain ⟨rfl, hC1⟩ := hp
    have hj := hj j rfl
    refine And.intro rfl (And.intro (And.intro (by omega) (fun N hN => by have hN := ab_Xs_n hN; omega)) (fun z hzR hz => ?_))
    have hz := ab_Xs_z hz
    subst hz
    refine And.intro rfl (And.intro (And.intro (by omega) (fun N hN => by have hN := ab_Xs_n hN; omega)) (fun z hzR hz => ?_))
    have hz := ab_Xs_z hz
    subst hz
    refine Exists.intro _ (And.intro (by first | assumption | exact st_s | exact st_e (by decide) (by assumption) | exact st_e (by omega) (by assumption) | exact st_e (by decide) st_s | exact st_e (by omega) st_s | exact st_e (by decide) (st_e (by decide) (by assumption)) | exact st_e (by omega) (st_e (by omega) (by assumption))) (And.intro rfl (ab_inv_of hmm (by first | decide | omega) (by omega) (by omega) ?_)))
    intro z2 σ2 hp2
    obtain ⟨hf2, ⟨x2, rfl⟩, t2, hM2⟩ := hp2
    have q572 := hM2.h57
    have hth := m_thrown hM2
    have h92 : σ2.2 319 = some (lgc u1) := (hf2.2 319 (by unfold mA; omega)).trans h91
    refine Exists.intro _ (And.intro (by first | assumption | exact st_s | exact st_e (by decide) (by assumption) | exact st_e (by omega) (by assumption) | exact st_e (by decide) st_s | exact st_e (by omega) st_s | exact st_e (by decide) (st_e (by decide) (by assumption)) | exact st_e (by omega) (st_e (by omega) (by assumption))) (And.intro rfl (ab_inv_ev hth (by first | decide | omega) (by first | exact Nat.le_refl _ | omega) (by first | exact Nat.le_refl _ | omega) ?_)))
    refine And.intro (fun q => ?_) (fun q => ?_)
    · refine hA 149 _ rfl _ _ _ _ _ ?_
      refine And.intro (show ab_R (((j : Nat) : Int) + 1) from rR (by omega) (by omega)) (And.intro (fun q => ?_) (fun q => ?_))
      · refine hA 152 _ rfl _ _ _ _ _ ?_
        exact hx _ _ _ _ _ _ _ _ ⟨cs_mA hC1 hf2, ⟨t2, hM2⟩, u1, h92⟩ (by show _ + 2100 * cc ≤ _ + 2100 * cc; omega) (by show _ + 110000 * cc ≤ _ + 110000 * cc; omega)
      · have q : ((j : Nat) : Int) + 1 = 0 := q
        omega
    · exact absurd rfl q
set_option maxRecDepth 100000 in
set_option maxHeartbeats 1000000 in
theorem c_sum (hA : ab_ruleL N0 sc bL_law 30 601024 7293033 lwP At) (hsc : ∀ j, ab_R (sc j)) (hi : i + 6 ≤ N0) (hN : N0 < 100000) (hL : LI σ S r th) (hk : k + 2100 ≤ 601024) (hn : n + 110000 ≤ 7293033) (y5 y6 : Option ab_V) (hx : LNx At i S k n) : At 153 (LLs i y5 y6) [] σ k n := by
  obtain ⟨cc, rows, K, va, R, f, m9, pl, c⟩ := S
  obtain ⟨⟨ad, hC⟩, ⟨t, hM⟩, u9, h9⟩ := hL
  have h0 := hC.1
  have hc := h_sum hC (sc (((i : Nat) : Int) + 1).toNat) (sc (((i : Nat) : Int) + 2).toNat) (hsc _) (hsc _) h9
  have hm := fun (σ1 : ab_H) (h1 : ∀ a, 57 ≤ a → a ≤ 318 → σ1.2 a = σ.2 a) => g_sum (hM.keep h1) (sc (((i : Nat) : Int) + 1).toNat) (sc (((i : Nat) : Int) + 2).toNat) (hsc _) (hsc _)
  generalize ho : (stq (cc, rows, K, va, R, f, m9, pl, c) (sp_sum cc rows va R (sc (((i : Nat) : Int) + 1).toNat) (sc (((i : Nat) : Int) + 2).toNat))) = o at hc hm
  have hcc : ∀ x S1, o = .inl (x, S1) → S1.1 = cc := fun x S1 h => by subst h; exact congrArg (fun S : St => S.1) (stq_l ho).2
  have hj : ∀ j, o = .inr j → j = 0 := fun j h => by
    subst h
    exact on_sum (stq_i ho)
  clear ho
  skip
  refine hA 153 _ rfl _ _ _ _ _ ?_
  refine And.intro rfl (And.intro (And.intro (by omega) (fun N hN => by have hN := ab_Xs_n hN; omega)) (fun z hzR hz => ?_))
  have hz := ab_Xs_z hz
  subst hz
  refine And.intro rfl (And.intro (And.intro (by omega) (fun N hN => by have hN := ab_Xs_n hN; omega)) (fun z hzR hz => ?_))
  have hz := ab_Xs_z hz
  subst hz
  refine And.intro rfl (ab_invH_of hc (by first | decide | omega) (by omega) (by omega) ?_)
  intro z σ1 hp
  obtain ⟨hs1, hm1, u1, h91, hp⟩ := hp
  have q57 := (hM.keep hm1).h57
  have hmm := hm σ1 hm1
  rcases o with ⟨x, S1⟩ | j
  · obtain ⟨cc2, rows2, K2, va2, R2, f2, m2, pl2, c2⟩ := S1
    obtain ⟨rfl, hx1, hC1⟩ := hp
    have hcc : cc2 = cc := hcc _ _ rfl
    have hxR : ab_R (u1 0) := by rw [hx1]; exact ab_wr_R x
    have hxW := ab_wr_R x
    refine And.intro rfl (And.intro (And.intro (by omega) (fun N hN => by have hN := ab_Xs_n hN; omega)) (fun z hzR hz => ?_))
    have hz := ab_Xs_z hz
    subst hz
    refine And.intro rfl (And.intro (And.intro (by omega) (fun N hN => by have hN := ab_Xs_n hN; omega)) (fun z hzR hz => ?_))
    have hz := ab_Xs_z hz
    subst hz
    refine Exists.intro _ (And.intro (by first | assumption | exact st_s | exact st_e (by decide) (by assumption) | exact st_e (by omega) (by assumption) | exact st_e (by decide) st_s | exact st_e (by omega) st_s | exact st_e (by decide) (st_e (by decide) (by assumption)) | exact st_e (by omega) (st_e (by omega) (by assumption))) (And.intro rfl (ab_inv_of hmm (by first | decide | omega) (by omega) (by omega) ?_)))
    intro z2 σ2 hp2
    obtain ⟨hf2, rfl, t2, hM2⟩ := hp2
    have q572 := hM2.h57
    have hth := m_thrown hM2
    have h92 : σ2.2 319 = some (lgc u1) := (hf2.2 319 (by unfold mA; omega)).trans h91
    refine Exists.intro _ (And.intro (by first | assumption | exact st_s | exact st_e (by decide) (by assumption) | exact st_e (by omega) (by assumption) | exact st_e (by decide) st_s | exact st_e (by omega) st_s | exact st_e (by decide) (st_e (by decide) (by assumption)) | exact st_e (by omega) (st_e (by omega) (by assumption))) (And.intro rfl (ab_inv_ev hth (by first | decide | omega) (by first | exact Nat.le_refl _ | omega) (by first | exact Nat.le_refl _ | omega) ?_)))
    refine And.intro (fun q => ?_) (fun q => ?_)
    · refine hA 155 _ rfl _ _ _ _ _ ?_
      refine And.intro (by first | assumption | exact b2i_R _ | exact rR (by omega) (by omega) | exact rR (by simp only [Int.toNat_natCast]; omega) (by simp only [Int.toNat_natCast]; omega)) (And.intro (fun q => ?_) (fun q => ?_))
      · exact absurd rfl q
      · refine hA 156 _ rfl _ _ _ _ _ ?_
        refine Exists.intro _ (Exists.intro _ (And.intro (by first | assumption | exact st_s | exact st_e (by decide) (by assumption) | exact st_e (by omega) (by assumption) | exact st_e (by decide) st_s | exact st_e (by omega) st_s | exact st_e (by decide) (st_e (by decide) (by assumption)) | exact st_e (by omega) (st_e (by omega) (by assumption))) (And.intro (by first | omega | (simp only [Int.toNat_natCast]; omega)) ?_)))
        refine And.intro (And.intro (by first | assumption | exact b2i_R _ | exact rR (by omega) (by omega) | exact rR (by simp only [Int.toNat_natCast]; omega) (by simp only [Int.toNat_natCast]; omega)) (by first | assumption | exact b2i_R _ | exact rR (by omega) (by omega) | exact rR (by simp only [Int.toNat_natCast]; omega) (by simp only [Int.toNat_natCast]; omega))) (fun z hzR hz => ?_)
        refine And.intro (by first | assumption | exact b2i_R _ | exact rR (by omega) (by omega) | exact rR (by simp only [Int.toNat_natCast]; omega) (by simp only [Int.toNat_natCast]; omega)) (And.intro (fun q => ?_) (fun q => ?_))
        · refine hA 158 _ rfl _ _ _ _ _ ?_
          exact hx _ _ _ _ _ _ _ _ ⟨cs_mA hC1 hf2, ⟨t2, hM2⟩, u1, h92⟩ (by show _ + 2100 * cc ≤ _ + 2100 * cc2; omega) (by show _ + 110000 * cc ≤ _ + 110000 * cc2; omega)
        · exact absurd (hz.mpr hx1) q
    · exact absurd rfl q
  · obtain ⟨rfl, hC1⟩ := hp
    have hj := hj j rfl
    refine And.intro rfl (And.intro (And.intro (by omega) (fun N hN => by have hN := ab_Xs_n hN; omega)) (fun z hzR hz => ?_))
    have hz := ab_Xs_z hz
    subst hz
    refine And.intro rfl (And.intro (And.intro (by omega) (fun N hN => by have hN := ab_Xs_n hN; omega)) (fun z hzR hz => ?_))
    have hz := ab_Xs_z hz
    subst hz
    refine Exists.intro _ (And.intro (by first | assumption | exact st_s | exact st_e (by decide) (by assumption) | exact st_e (by omega) (by assumption) | exact st_e (by decide) st_s | exact st_e (by omega) st_s | exact st_e (by decide) (st_e (by decide) (by assumption)) | exact st_e (by omega) (st_e (by omega) (by assumption))) (And.intro rfl (ab_inv_of hmm (by first | decide | omega) (by omega) (by omega) ?_)))
    intro z2 σ2 hp2
    obtain ⟨hf2, ⟨x2, rfl⟩, t2, hM2⟩ := hp2
    have q572 := hM2.h57
    have hth := m_thrown hM2
    have h92 : σ2.2 319 = some (lgc u1) := (hf2.2 319 (by unfold mA; omega)).trans h91
    refine Exists.intro _ (And.intro (by first | assumption | exact st_s | exact st_e (by decide) (by assumption) | exact st_e (by omega) (by assumption) | exact st_e (by decide) st_s | exact st_e (by omega) st_s | exact st_e (by decide) (st_e (by decide) (by assumption)) | exact st_e (by omega) (st_e (by omega) (by assumption))) (And.intro rfl (ab_inv_ev hth (by first | decide | omega) (by first | exact Nat.le_refl _ | omega) (by first | exact Nat.le_refl _ | omega) ?_)))
    refine And.intro (fun q => ?_) (fun q => ?_)
    · refine hA 155 _ rfl _ _ _ _ _ ?_
      refine And.intro (show ab_R (((j : Nat) : Int) + 1) from rR (by omega) (by omega)) (And.intro (fun q => ?_) (fun q => ?_))
      · refine hA 158 _ rfl _ _ _ _ _ ?_
        exact hx _ _ _ _ _ _ _ _ ⟨cs_mA hC1 hf2, ⟨t2, hM2⟩, u1, h92⟩ (by show _ + 2100 * cc ≤ _ + 2100 * cc; omega) (by show _ + 110000 * cc ≤ _ + 110000 * cc; omega)
      · have q : ((j : Nat) : Int) + 1 = 0 := q
        omega
    · exact absurd rfl q
set_option maxRecDepth 100000 in
set_option maxHeartbeats 1000000 in
theorem c_kth (hA : ab_ruleL N0 sc bL_law 30 601024 7293033 lwP At) (hsc : ∀ j, ab_R (sc j)) (hi : i + 6 ≤ N0) (hN : N0 < 100000) (hL : LI σ S r th) (hk : k + 2100 ≤ 601024) (hn : n + 110000 ≤ 7293033) (y5 y6 : Option ab_V) (hx : LNx At i S k n) : At 159 (LLs i y5 y6) [] σ k n := by
  obtain ⟨cc, rows, K, va, R, f, m9, pl, c⟩ := S
  obtain ⟨⟨ad, hC⟩, ⟨t, hM⟩, u9, h9⟩ := hL
  have h0 := hC.1
  have hc := h_kth hC (sc (((i : Nat) : Int) + 1).toNat) (sc (((i : Nat) : Int) + 2).toNat) (sc (((i : Nat) : Int) + 3).toNat) (hsc _) (hsc _) (hsc _) h9
  have hm := fun (σ1 : ab_H) (h1 : ∀ a, 57 ≤ a → a ≤ 318 → σ1.2 a = σ.2 a) => g_kth (hM.keep h1) (sc (((i : Nat) : Int) + 1).toNat) (sc (((i : Nat) : Int) + 2).toNat) (sc (((i : Nat) : Int) + 3).toNat) (hsc _) (hsc _) (hsc _)
  generalize ho : (stq (cc, rows, K, va, R, f, m9, pl, c) (sp_kth cc rows va R (sc (((i : Nat) : Int) + 1).toNat) (sc (((i : Nat) : Int) + 2).toNat) (sc (((i : Nat) : Int) + 3).toNat))) = o at hc hm
  have hcc : ∀ x S1, o = .inl (x, S1) → S1.1 = cc := fun x S1 h => by subst h; exact congrArg (fun S : St => S.1) (stq_l ho).2
  have hj : ∀ j, o = .inr j → j = 0 := fun j h => by
    subst h
    exact on_kth (stq_i ho)
  clear ho
  skip
  refine hA 159 _ rfl _ _ _ _ _ ?_
  refine And.intro rfl (And.intro (And.intro (by omega) (fun N hN => by have hN := ab_Xs_n hN; omega)) (fun z hzR hz => ?_))
  have hz := ab_Xs_z hz
  subst hz
  refine And.intro rfl (And.intro (And.intro (by omega) (fun N hN => by have hN := ab_Xs_n hN; omega)) (fun z hzR hz => ?_))
  have hz := ab_Xs_z hz
  subst hz
  refine And.intro rfl (And.intro (And.intro (by omega) (fun N hN => by have hN := ab_Xs_n hN; omega)) (fun z hzR hz => ?_))
  have hz := ab_Xs_z hz
  subst hz
  refine And.intro rfl (ab_invH_of hc (by first | decide | omega) (by omega) (by omega) ?_)
  intro z σ1 hp
  obtain ⟨hs1, hm1, u1, h91, hp⟩ := hp
  have q57 := (hM.keep hm1).h57
  have hmm := hm σ1 hm1
  rcases o with ⟨x, S1⟩ | j
  · obtain ⟨cc2, rows2, K2, va2, R2, f2, m2, pl2, c2⟩ := S1
    obtain ⟨rfl, hx1, hC1⟩ := hp
    have hcc : cc2 = cc := hcc _ _ rfl
    have hxR : ab_R (u1 0) := by rw [hx1]; exact ab_wr_R x
    have hxW := ab_wr_R x
    refine And.intro rfl (And.intro (And.intro (by omega) (fun N hN => by have hN := ab_Xs_n hN; omega)) (fun z hzR hz => ?_))
    have hz := ab_Xs_z hz
    subst hz
    refine And.intro rfl (And.intro (And.intro (by omega) (fun N hN => by have hN := ab_Xs_n hN; omega)) (fun z hzR hz => ?_))
    have hz := ab_Xs_z hz
    subst hz
    refine And.intro rfl (And.intro (And.intro (by omega) (fun N hN => by have hN := ab_Xs_n hN; omega)) (fun z hzR hz => ?_))
    have hz := ab_Xs_z hz
    subst hz
    refine Exists.intro _ (And.intro (by first | assumption | exact st_s | exact st_e (by decide) (by assumption) | exact st_e (by omega) (by assumption) | exact st_e (by decide) st_s | exact st_e (by omega) st_s | exact st_e (by decide) (st_e (by decide) (by assumption)) | exact st_e (by omega) (st_e (by omega) (by assumption))) (And.intro rfl (ab_inv_of hmm (by first | decide | omega) (by omega) (by omega) ?_)))
    intro z2 σ2 hp2
    obtain ⟨hf2, rfl, t2, hM2⟩ := hp2
    have q572 := hM2.h57
    have hth := m_thrown hM2
    have h92 : σ2.2 319 = some (lgc u1) := (hf2.2 319 (by unfold mA; omega)).trans h91
    refine Exists.intro _ (And.intro (by first | assumption | exact st_s | exact st_e (by decide) (by assumption) | exact st_e (by omega) (by assumption) | exact st_e (by decide) st_s | exact st_e (by omega) st_s | exact st_e (by decide) (st_e (by decide) (by assumption)) | exact st_e (by omega) (st_e (by omega) (by assumption))) (And.intro rfl (ab_inv_ev hth (by first | decide | omega) (by first | exact Nat.le_refl _ | omega) (by first | exact Nat.le_refl _ | omega) ?_)))
    refine And.intro (fun q => ?_) (fun q => ?_)
    · refine hA 161 _ rfl _ _ _ _ _ ?_
      refine And.intro (by first | assumption | exact b2i_R _ | exact rR (by omega) (by omega) | exact rR (by simp only [Int.toNat_natCast]; omega) (by simp only [Int.toNat_natCast]; omega)) (And.intro (fun q => ?_) (fun q => ?_))
      · exact absurd rfl q
      · refine hA 162 _ rfl _ _ _ _ _ ?_
        refine Exists.intro _ (Exists.intro _ (And.intro (by first | assumption | exact st_s | exact st_e (by decide) (by assumption) | exact st_e (by omega) (by assumption) | exact st_e (by decide) st_s | exact st_e (by omega) st_s | exact st_e (by decide) (st_e (by decide) (by assumption)) | exact st_e (by omega) (st_e (by omega) (by assumption))) (And.intro (by first | omega | (simp only [Int.toNat_natCast]; omega)) ?_)))
        refine And.intro (And.intro (by first | assumption | exact b2i_R _ | exact rR (by omega) (by omega) | exact rR (by simp only [Int.toNat_natCast]; omega) (by simp only [Int.toNat_natCast]; omega)) (by first | assumption | exact b2i_R _ | exact rR (by omega) (by omega) | exact rR (by simp only [Int.toNat_natCast]; omega) (by simp only [Int.toNat_natCast]; omega))) (fun z hzR hz => ?_)
        refine And.intro (by first | assumption | exact b2i_R _ | exact rR (by omega) (by omega) | exact rR (by simp only [Int.toNat_natCast]; omega) (by simp only [Int.toNat_natCast]; omega)) (And.intro (fun q => ?_) (fun q => ?_))
        · refine hA 164 _ rfl _ _ _ _ _ ?_
          exact hx _ _ _ _ _ _ _ _ ⟨cs_mA hC1 hf2, ⟨t2, hM2⟩, u1, h92⟩ (by show _ + 2100 * cc ≤ _ + 2100 * cc2; omega) (by show _ + 110000 * cc ≤ _ + 110000 * cc2; omega)
        · exact absurd (hz.mpr hx1) q
    · exact absurd rfl q
  · obtain ⟨rfl, hC1⟩ := hp
    have hj := hj j rfl
    refine And.intro rfl (And.intro (And.intro (by omega) (fun N hN => by have hN := ab_Xs_n hN; omega)) (fun z hzR hz => ?_))
    have hz := ab_Xs_z hz
    subst hz
    refine And.intro rfl (And.intro (And.intro (by omega) (fun N hN => by have hN := ab_Xs_n hN; omega)) (fun z hzR hz => ?_))
    have hz := ab_Xs_z hz
    subst hz
    refine And.intro rfl (And.intro (And.intro (by omega) (fun N hN => by have hN := ab_Xs_n hN; omega)) (fun z hzR hz => ?_))
    have hz := ab_Xs_z hz
    subst hz
    refine Exists.intro _ (And.intro (by first | assumption | exact st_s | exact st_e (by decide) (by assumption) | exact st_e (by omega) (by assumption) | exact st_e (by decide) st_s | exact st_e (by omega) st_s | exact st_e (by decide) (st_e (by decide) (by assumption)) | exact st_e (by omega) (st_e (by omega) (by assumption))) (And.intro rfl (ab_inv_of hmm (by first | decide | omega) (by omega) (by omega) ?_)))
    intro z2 σ2 hp2
    obtain ⟨hf2, ⟨x2, rfl⟩, t2, hM2⟩ := hp2
    have q572 := hM2.h57
    have hth := m_thrown hM2
    have h92 : σ2.2 319 = some (lgc u1) := (hf2.2 319 (by unfold mA; omega)).trans h91
    refine Exists.intro _ (And.intro (by first | assumption | exact st_s | exact st_e (by decide) (by assumption) | exact st_e (by omega) (by assumption) | exact st_e (by decide) st_s | exact st_e (by omega) st_s | exact st_e (by decide) (st_e (by decide) (by assumption)) | exact st_e (by omega) (st_e (by omega) (by assumption))) (And.intro rfl (ab_inv_ev hth (by first | decide | omega) (by first | exact Nat.le_refl _ | omega) (by first | exact Nat.le_refl _ | omega) ?_)))
    refine And.intro (fun q => ?_) (fun q => ?_)
    · refine hA 161 _ rfl _ _ _ _ _ ?_
      refine And.intro (show ab_R (((j : Nat) : Int) + 1) from rR (by omega) (by omega)) (And.intro (fun q => ?_) (fun q => ?_))
      · refine hA 164 _ rfl _ _ _ _ _ ?_
        exact hx _ _ _ _ _ _ _ _ ⟨cs_mA hC1 hf2, ⟨t2, hM2⟩, u1, h92⟩ (by show _ + 2100 * cc ≤ _ + 2100 * cc; omega) (by show _ + 110000 * cc ≤ _ + 110000 * cc; omega)
      · have q : ((j : Nat) : Int) + 1 = 0 := q
        omega
    · exact absurd rfl q
set_option maxRecDepth 100000 in
set_option maxHeartbeats 1000000 in
theorem c_mode (hA : ab_ruleL N0 sc bL_law 30 601024 7293033 lwP At) (hsc : ∀ j, ab_R (sc j)) (hi : i + 6 ≤ N0) (hN : N0 < 100000) (hL : LI σ S r th) (hk : k + 2100 ≤ 601024) (hn : n + 110000 ≤ 7293033) (y5 y6 : Option ab_V) (hx : LNx At i S k n) : At 165 (LLs i y5 y6) [] σ k n := by
  obtain ⟨cc, rows, K, va, R, f, m9, pl, c⟩ := S
  obtain ⟨⟨ad, hC⟩, ⟨t, hM⟩, u9, h9⟩ := hL
  have h0 := hC.1
  have hc := h_mode hC (sc (((i : Nat) : Int) + 1).toNat) (sc (((i : Nat) : Int) + 2).toNat) (sc (((i : Nat) : Int) + 3).toNat) (hsc _) (hsc _) (hsc _) h9
  have hm := fun (σ1 : ab_H) (h1 : ∀ a, 57 ≤ a → a ≤ 318 → σ1.2 a = σ.2 a) => g_mode (hM.keep h1) (sc (((i : Nat) : Int) + 1).toNat) (sc (((i : Nat) : Int) + 2).toNat) (sc (((i : Nat) : Int) + 3).toNat) (hsc _) (hsc _) (hsc _)
  generalize ho : (stq (cc, rows, K, va, R, f, m9, pl, c) (sp_mode cc rows va R (sc (((i : Nat) : Int) + 1).toNat) (sc (((i : Nat) : Int) + 2).toNat) (sc (((i : Nat) : Int) + 3).toNat))) = o at hc hm
  have hcc : ∀ x S1, o = .inl (x, S1) → S1.1 = cc := fun x S1 h => by subst h; exact congrArg (fun S : St => S.1) (stq_l ho).2
  have hj : ∀ j, o = .inr j → j = 0 ∨ j = 1 := fun j h => by
    subst h
    exact on_mode (stq_i ho)
  clear ho
  skip
  refine hA 165 _ rfl _ _ _ _ _ ?_
  refine And.intro rfl (And.intro (And.intro (by omega) (fun N hN => by have hN := ab_Xs_n hN; omega)) (fun z hzR hz => ?_))
  have hz := ab_Xs_z hz
  subst hz
  refine And.intro rfl (And.intro (And.intro (by omega) (fun N hN => by have hN := ab_Xs_n hN; omega)) (fun z hzR hz => ?_))
  have hz := ab_Xs_z hz
  subst hz
  refine And.intro rfl (And.intro (And.intro (by omega) (fun N hN => by have hN := ab_Xs_n hN; omega)) (fun z hzR hz => ?_))
  have hz := ab_Xs_z hz
  subst hz
  refine And.intro rfl (ab_invH_of hc (by first | decide | omega) (by omega) (by omega) ?_)
  intro z σ1 hp
  obtain ⟨hs1, hm1, u1, h91, hp⟩ := hp
  have q57 := (hM.keep hm1).h57
  have hmm := hm σ1 hm1
  rcases o with ⟨x, S1⟩ | j
  · obtain ⟨cc2, rows2, K2, va2, R2, f2, m2, pl2, c2⟩ := S1
    obtain ⟨rfl, hx1, hC1⟩ := hp
    have hcc : cc2 = cc := hcc _ _ rfl
    have hxR : ab_R (u1 0) := by rw [hx1]; exact ab_wr_R x
    have hxW := ab_wr_R x
    refine And.intro rfl (And.intro (And.intro (by omega) (fun N hN => by have hN := ab_Xs_n hN; omega)) (fun z hzR hz => ?_))
    have hz := ab_Xs_z hz
    subst hz
    refine And.intro rfl (And.intro (And.intro (by omega) (fun N hN => by have hN := ab_Xs_n hN; omega)) (fun z hzR hz => ?_))
    have hz := ab_Xs_z hz
    subst hz
    refine And.intro rfl (And.intro (And.intro (by omega) (fun N hN => by have hN := ab_Xs_n hN; omega)) (fun z hzR hz => ?_))
    have hz := ab_Xs_z hz
    subst hz
    refine Exists.intro _ (And.intro (by first | assumption | exact st_s | exact st_e (by decide) (by assumption) | exact st_e (by omega) (by assumption) | exact st_e (by decide) st_s | exact st_e (by omega) st_s | exact st_e (by decide) (st_e (by decide) (by assumption)) | exact st_e (by omega) (st_e (by omega) (by assumption))) (And.intro rfl (ab_inv_of hmm (by first | decide | omega) (by omega) (by omega) ?_)))
    intro z2 σ2 hp2
    obtain ⟨hf2, rfl, t2, hM2⟩ := hp2
    have q572 := hM2.h57
    have hth := m_thrown hM2
    have h92 : σ2.2 319 = some (lgc u1) := (hf2.2 319 (by unfold mA; omega)).trans h91
    refine Exists.intro _ (And.intro (by first | assumption | exact st_s | exact st_e (by decide) (by assumption) | exact st_e (by omega) (by assumption) | exact st_e (by decide) st_s | exact st_e (by omega) st_s | exact st_e (by decide) (st_e (by decide) (by assumption)) | exact st_e (by omega) (st_e (by omega) (by assumption))) (And.intro rfl (ab_inv_ev hth (by first | decide | omega) (by first | exact Nat.le_refl _ | omega) (by first | exact Nat.le_refl _ | omega) ?_)))
    refine And.intro (fun q => ?_) (fun q => ?_)
    · refine hA 167 _ rfl _ _ _ _ _ ?_
      refine And.intro (by first | assumption | exact b2i_R _ | exact rR (by omega) (by omega) | exact rR (by simp only [Int.toNat_natCast]; omega) (by simp only [Int.toNat_natCast]; omega)) (And.intro (fun q => ?_) (fun q => ?_))
      · exact absurd rfl q
      · refine hA 168 _ rfl _ _ _ _ _ ?_
        refine Exists.intro _ (Exists.intro _ (And.intro (by first | assumption | exact st_s | exact st_e (by decide) (by assumption) | exact st_e (by omega) (by assumption) | exact st_e (by decide) st_s | exact st_e (by omega) st_s | exact st_e (by decide) (st_e (by decide) (by assumption)) | exact st_e (by omega) (st_e (by omega) (by assumption))) (And.intro (by first | omega | (simp only [Int.toNat_natCast]; omega)) ?_)))
        refine And.intro (And.intro (by first | assumption | exact b2i_R _ | exact rR (by omega) (by omega) | exact rR (by simp only [Int.toNat_natCast]; omega) (by simp only [Int.toNat_natCast]; omega)) (by first | assumption | exact b2i_R _ | exact rR (by omega) (by omega) | exact rR (by simp only [Int.toNat_natCast]; omega) (by simp only [Int.toNat_natCast]; omega))) (fun z hzR hz => ?_)
        refine And.intro (by first | assumption | exact b2i_R _ | exact rR (by omega) (by omega) | exact rR (by simp only [Int.toNat_natCast]; omega) (by simp only [Int.toNat_natCast]; omega)) (And.intro (fun q => ?_) (fun q => ?_))
        · refine hA 170 _ rfl _ _ _ _ _ ?_
          exact hx _ _ _ _ _ _ _ _ ⟨cs_mA hC1 hf2, ⟨t2, hM2⟩, u1, h92⟩ (by show _ + 2100 * cc ≤ _ + 2100 * cc2; omega) (by show _ + 110000 * cc ≤ _ + 110000 * cc2; omega)
        · exact absurd (hz.mpr hx1) q
    · exact absurd rfl q
  · obtain ⟨rfl, hC1⟩ := hp
    have hj := hj j rfl
    refine And.intro rfl (And.intro (And.intro (by omega) (fun N hN => by have hN := ab_Xs_n hN; omega)) (fun z hzR hz => ?_))
    have hz := ab_Xs_z hz
    subst hz
    refine And.intro rfl (And.intro (And.intro (by omega) (fun N hN => by have hN := ab_Xs_n hN; omega)) (fun z hzR hz => ?_))
    have hz := ab_Xs_z hz
    subst hz
    refine And.intro rfl (And.intro (And.intro (by omega) (fun N hN => by have hN := ab_Xs_n hN; omega)) (fun z hzR hz => ?_))
    have hz := ab_Xs_z hz
    subst hz
    refine Exists.intro _ (And.intro (by first | assumption | exact st_s | exact st_e (by decide) (by assumption) | exact st_e (by omega) (by assumption) | exact st_e (by decide) st_s | exact st_e (by omega) st_s | exact st_e (by decide) (st_e (by decide) (by assumption)) | exact st_e (by omega) (st_e (by omega) (by assumption))) (And.intro rfl (ab_inv_of hmm (by first | decide | omega) (by omega) (by omega) ?_)))
    intro z2 σ2 hp2
    obtain ⟨hf2, ⟨x2, rfl⟩, t2, hM2⟩ := hp2
    have q572 := hM2.h57
    have hth := m_thrown hM2
    have h92 : σ2.2 319 = some (lgc u1) := (hf2.2 319 (by unfold mA; omega)).trans h91
    refine Exists.intro _ (And.intro (by first | assumption | exact st_s | exact st_e (by decide) (by assumption) | exact st_e (by omega) (by assumption) | exact st_e (by decide) st_s | exact st_e (by omega) st_s | exact st_e (by decide) (st_e (by decide) (by assumption)) | exact st_e (by omega) (st_e (by omega) (by assumption))) (And.intro rfl (ab_inv_ev hth (by first | decide | omega) (by first | exact Nat.le_refl _ | omega) (by first | exact Nat.le_refl _ | omega) ?_)))
    refine And.intro (fun q => ?_) (fun q => ?_)
    · refine hA 167 _ rfl _ _ _ _ _ ?_
      refine And.intro (show ab_R (((j : Nat) : Int) + 1) from rR (by omega) (by omega)) (And.intro (fun q => ?_) (fun q => ?_))
      · refine hA 170 _ rfl _ _ _ _ _ ?_
        exact hx _ _ _ _ _ _ _ _ ⟨cs_mA hC1 hf2, ⟨t2, hM2⟩, u1, h92⟩ (by show _ + 2100 * cc ≤ _ + 2100 * cc; omega) (by show _ + 110000 * cc ≤ _ + 110000 * cc; omega)
      · have q : ((j : Nat) : Int) + 1 = 0 := q
        omega
    · exact absurd rfl q
set_option maxRecDepth 100000 in
set_option maxHeartbeats 1000000 in
theorem c_unlike (hA : ab_ruleL N0 sc bL_law 30 601024 7293033 lwP At) (hsc : ∀ j, ab_R (sc j)) (hi : i + 6 ≤ N0) (hN : N0 < 100000) (hL : LI σ S r th) (hk : k + 2100 ≤ 601024) (hn : n + 110000 ≤ 7293033) (y5 y6 : Option ab_V) (hx : LNx At i S k n) : At 171 (LLs i y5 y6) [] σ k n := by
  obtain ⟨cc, rows, K, va, R, f, m9, pl, c⟩ := S
  obtain ⟨⟨ad, hC⟩, ⟨t, hM⟩, u9, h9⟩ := hL
  have h0 := hC.1
  have hc := h_unlike hC (sc (((i : Nat) : Int) + 1).toNat) (sc (((i : Nat) : Int) + 2).toNat) (hsc _) (hsc _) h9
  have hm := fun (σ1 : ab_H) (h1 : ∀ a, 57 ≤ a → a ≤ 318 → σ1.2 a = σ.2 a) => g_unlike (hM.keep h1) (sc (((i : Nat) : Int) + 1).toNat) (sc (((i : Nat) : Int) + 2).toNat) (hsc _) (hsc _)
  generalize ho : (stq (cc, rows, K, va, R, f, m9, pl, c) (sp_unlike cc rows va R (sc (((i : Nat) : Int) + 1).toNat) (sc (((i : Nat) : Int) + 2).toNat))) = o at hc hm
  have hcc : ∀ x S1, o = .inl (x, S1) → S1.1 = cc := fun x S1 h => by subst h; exact congrArg (fun S : St => S.1) (stq_l ho).2
  have hj : ∀ j, o = .inr j → j = 0 := fun j h => by
    subst h
    exact on_unlike (stq_i ho)
  clear ho
  skip
  refine hA 171 _ rfl _ _ _ _ _ ?_
  refine And.intro rfl (And.intro (And.intro (by omega) (fun N hN => by have hN := ab_Xs_n hN; omega)) (fun z hzR hz => ?_))
  have hz := ab_Xs_z hz
  subst hz
  refine And.intro rfl (And.intro (And.intro (by omega) (fun N hN => by have hN := ab_Xs_n hN; omega)) (fun z hzR hz => ?_))
  have hz := ab_Xs_z hz
  subst hz
  refine And.intro rfl (ab_invH_of hc (by first | decide | omega) (by omega) (by omega) ?_)
  intro z σ1 hp
  obtain ⟨hs1, hm1, u1, h91, hp⟩ := hp
  have q57 := (hM.keep hm1).h57
  have hmm := hm σ1 hm1
  rcases o with ⟨x, S1⟩ | j
  · obtain ⟨cc2, rows2, K2, va2, R2, f2, m2, pl2, c2⟩ := S1
    obtain ⟨rfl, hx1, hC1⟩ := hp
    have hcc : cc2 = cc := hcc _ _ rfl
    have hxR : ab_R (u1 0) := by rw [hx1]; exact ab_wr_R x
    have hxW := ab_wr_R x
    refine And.intro rfl (And.intro (And.intro (by omega) (fun N hN => by have hN := ab_Xs_n hN; omega)) (fun z hzR hz => ?_))
    have hz := ab_Xs_z hz
    subst hz
    refine And.intro rfl (And.intro (And.intro (by omega) (fun N hN => by have hN := ab_Xs_n hN; omega)) (fun z hzR hz => ?_))
    have hz := ab_Xs_z hz
    subst hz
    refine Exists.intro _ (And.intro (by first | assumption | exact st_s | exact st_e (by decide) (by assumption) | exact st_e (by omega) (by assumption) | exact st_e (by decide) st_s | exact st_e (by omega) st_s | exact st_e (by decide) (st_e (by decide) (by assumption)) | exact st_e (by omega) (st_e (by omega) (by assumption))) (And.intro rfl (ab_inv_of hmm (by first | decide | omega) (by omega) (by omega) ?_)))
    intro z2 σ2 hp2
    obtain ⟨hf2, rfl, t2, hM2⟩ := hp2
    have q572 := hM2.h57
    have hth := m_thrown hM2
    have h92 : σ2.2 319 = some (lgc u1) := (hf2.2 319 (by unfold mA; omega)).trans h91
    refine Exists.intro _ (And.intro (by first | assumption | exact st_s | exact st_e (by decide) (by assumption) | exact st_e (by omega) (by assumption) | exact st_e (by decide) st_s | exact st_e (by omega) st_s | exact st_e (by decide) (st_e (by decide) (by assumption)) | exact st_e (by omega) (st_e (by omega) (by assumption))) (And.intro rfl (ab_inv_ev hth (by first | decide | omega) (by first | exact Nat.le_refl _ | omega) (by first | exact Nat.le_refl _ | omega) ?_)))
    refine And.intro (fun q => ?_) (fun q => ?_)
    · refine hA 173 _ rfl _ _ _ _ _ ?_
      refine And.intro (by first | assumption | exact b2i_R _ | exact rR (by omega) (by omega) | exact rR (by simp only [Int.toNat_natCast]; omega) (by simp only [Int.toNat_natCast]; omega)) (And.intro (fun q => ?_) (fun q => ?_))
      · exact absurd rfl q
      · refine hA 174 _ rfl _ _ _ _ _ ?_
        refine Exists.intro _ (Exists.intro _ (And.intro (by first | assumption | exact st_s | exact st_e (by decide) (by assumption) | exact st_e (by omega) (by assumption) | exact st_e (by decide) st_s | exact st_e (by omega) st_s | exact st_e (by decide) (st_e (by decide) (by assumption)) | exact st_e (by omega) (st_e (by omega) (by assumption))) (And.intro (by first | omega | (simp only [Int.toNat_natCast]; omega)) ?_)))
        refine And.intro (And.intro (by first | assumption | exact b2i_R _ | exact rR (by omega) (by omega) | exact rR (by simp only [Int.toNat_natCast]; omega) (by simp only [Int.toNat_natCast]; omega)) (by first | assumption | exact b2i_R _ | exact rR (by omega) (by omega) | exact rR (by simp only [Int.toNat_natCast]; omega) (by simp only [Int.toNat_natCast]; omega))) (fun z hzR hz => ?_)
        refine And.intro (by first | assumption | exact b2i_R _ | exact rR (by omega) (by omega) | exact rR (by simp only [Int.toNat_natCast]; omega) (by simp only [Int.toNat_natCast]; omega)) (And.intro (fun q => ?_) (fun q => ?_))
        · refine hA 176 _ rfl _ _ _ _ _ ?_
          exact hx _ _ _ _ _ _ _ _ ⟨cs_mA hC1 hf2, ⟨t2, hM2⟩, u1, h92⟩ (by show _ + 2100 * cc ≤ _ + 2100 * cc2; omega) (by show _ + 110000 * cc ≤ _ + 110000 * cc2; omega)
        · exact absurd (hz.mpr hx1) q
    · exact absurd rfl q
  · obtain ⟨rfl, hC1⟩ := hp
    have hj := hj j rfl
    refine And.intro rfl (And.intro (And.intro (by omega) (fun N hN => by have hN := ab_Xs_n hN; omega)) (fun z hzR hz => ?_))
    have hz := ab_Xs_z hz
    subst hz
    refine And.intro rfl (And.intro (And.intro (by omega) (fun N hN => by have hN := ab_Xs_n hN; omega)) (fun z hzR hz => ?_))
    have hz := ab_Xs_z hz
    subst hz
    refine Exists.intro _ (And.intro (by first | assumption | exact st_s | exact st_e (by decide) (by assumption) | exact st_e (by omega) (by assumption) | exact st_e (by decide) st_s | exact st_e (by omega) st_s | exact st_e (by decide) (st_e (by decide) (by assumption)) | exact st_e (by omega) (st_e (by omega) (by assumption))) (And.intro rfl (ab_inv_of hmm (by first | decide | omega) (by omega) (by omega) ?_)))
    intro z2 σ2 hp2
    obtain ⟨hf2, ⟨x2, rfl⟩, t2, hM2⟩ := hp2
    have q572 := hM2.h57
    have hth := m_thrown hM2
    have h92 : σ2.2 319 = some (lgc u1) := (hf2.2 319 (by unfold mA; omega)).trans h91
    refine Exists.intro _ (And.intro (by first | assumption | exact st_s | exact st_e (by decide) (by assumption) | exact st_e (by omega) (by assumption) | exact st_e (by decide) st_s | exact st_e (by omega) st_s | exact st_e (by decide) (st_e (by decide) (by assumption)) | exact st_e (by omega) (st_e (by omega) (by assumption))) (And.intro rfl (ab_inv_ev hth (by first | decide | omega) (by first | exact Nat.le_refl _ | omega) (by first | exact Nat.le_refl _ | omega) ?_)))
    refine And.intro (fun q => ?_) (fun q => ?_)
    · refine hA 173 _ rfl _ _ _ _ _ ?_
      refine And.intro (show ab_R (((j : Nat) : Int) + 1) from rR (by omega) (by omega)) (And.intro (fun q => ?_) (fun q => ?_))
      · refine hA 176 _ rfl _ _ _ _ _ ?_
        exact hx _ _ _ _ _ _ _ _ ⟨cs_mA hC1 hf2, ⟨t2, hM2⟩, u1, h92⟩ (by show _ + 2100 * cc ≤ _ + 2100 * cc; omega) (by show _ + 110000 * cc ≤ _ + 110000 * cc; omega)
      · have q : ((j : Nat) : Int) + 1 = 0 := q
        omega
    · exact absurd rfl q
end Law
