-- ===== the law: its cases, on =====
section Law
variable {At : Nat → ab_L → List ab_V → ab_H → Nat → Nat → Prop} {N0 : Nat} {sc : Nat → Int} {σ : ab_H} {S : St} {r : Nat → Nat} {th : Int} {k n i : Nat}
set_option maxRecDepth 100000 in
set_option maxHeartbeats 1000000 in
theorem c_span (hA : ab_ruleL N0 sc bL_law 30 601024 7293033 lwP At) (hsc : ∀ j, ab_R (sc j)) (hi : i + 6 ≤ N0) (hN : N0 < 100000) (hL : LI σ S r th) (hk : k + 2100 ≤ 601024) (hn : n + 110000 ≤ 7293033) (y5 y6 : Option ab_V) (hx : LNx At i S k n) : At 177 (LLs i y5 y6) [] σ k n := by
  obtain ⟨cc, rows, K, va, R, f, m9, pl, c⟩ := S
  obtain ⟨⟨ad, hC⟩, ⟨t, hM⟩, u9, h9⟩ := hL
  have h0 := hC.1
  have hc := h_span hC (sc (((i : Nat) : Int) + 1).toNat) (sc (((i : Nat) : Int) + 2).toNat) (sc (((i : Nat) : Int) + 3).toNat) (sc (((i : Nat) : Int) + 4).toNat) (hsc _) (hsc _) (hsc _) (hsc _) h9
  have hm := fun (σ1 : ab_H) (h1 : ∀ a, 57 ≤ a → a ≤ 318 → σ1.2 a = σ.2 a) => g_span (hM.keep h1) (sc (((i : Nat) : Int) + 1).toNat) (sc (((i : Nat) : Int) + 2).toNat) (sc (((i : Nat) : Int) + 3).toNat) (sc (((i : Nat) : Int) + 4).toNat) (hsc _) (hsc _) (hsc _) (hsc _)
  generalize ho : (stq (cc, rows, K, va, R, f, m9, pl, c) (sp_span cc rows va R (sc (((i : Nat) : Int) + 1).toNat) (sc (((i : Nat) : Int) + 2).toNat) (sc (((i : Nat) : Int) + 3).toNat) (sc (((i : Nat) : Int) + 4).toNat))) = o at hc hm
  have hcc : ∀ x S1, o = .inl (x, S1) → S1.1 = cc := fun x S1 h => by subst h; exact congrArg (fun S : St => S.1) (stq_l ho).2
  have hj : ∀ j, o = .inr j → j = 0 ∨ j = 1 := fun j h => by
    subst h
    exact on_span (stq_i ho)
  clear ho
  skip
  refine hA 177 _ rfl _ _ _ _ _ ?_
  refine And.intro rfl (And.intro (And.intro (by omega) (fun N hN => by have hN := ab_Xs_n hN; omega)) (fun z hzR hz => ?_))
  have hz := ab_Xs_z hz
  subst hz
  refine And.intro rfl (And.intro (And.intro (by omega) (fun N hN => by have hN := ab_Xs_n hN; omega)) (fun z hzR hz => ?_))
  have hz := ab_Xs_z hz
  subst hz
  refine And.intro rfl (And.intro (And.intro (by omega) (fun N hN => by have hN := ab_Xs_n hN; omega)) (fun z hzR hz => ?_))
  have hz := ab_Xs_z hz
  subst hz
  refine And.intro rfl (And.intro (And.intro (by omega) (fun N hN => by have hN := ab_Xs_n hN; omega)) (fun z hzR hz => ?_))
  have hz := ab_Xs_z hz
  subst hz
  refine And.intro rfl (ab_invH_of hc (by first | decide | omega) (by omega) (by omega) ?_)
  intro z σ1 hp
  obtain ⟨hs1, hm1, u1, h91, hp⟩ := hp
  have q57 := (hM.keep hm1).h57
  have hmm := hm σ1 hm1
  rcases o with ⟨x, S1⟩ | j
  · obtain ⟨cc2, rows2, K2, va2, R2, f2, m2, pl2, c2⟩ := S1
    obtain ⟨rfl, hx1, hC1⟩ := hp
    have hcc : cc2 = cc := hcc _ _ rfl
    have hxR : ab_R (u1 0) := by rw [hx1]; exact ab_wr_R x
    have hxW := ab_wr_R x
    refine And.intro rfl (And.intro (And.intro (by omega) (fun N hN => by have hN := ab_Xs_n hN; omega)) (fun z hzR hz => ?_))
    have hz := ab_Xs_z hz
    subst hz
    refine And.intro rfl (And.intro (And.intro (by omega) (fun N hN => by have hN := ab_Xs_n hN; omega)) (fun z hzR hz => ?_))
    have hz := ab_Xs_z hz
    subst hz
    refine And.intro rfl (And.intro (And.intro (by omega) (fun N hN => by have hN := ab_Xs_n hN; omega)) (fun z hzR hz => ?_))
    have hz := ab_Xs_z hz
    subst hz
    refine And.intro rfl (And.intro (And.intro (by omega) (fun N hN => by have hN := ab_Xs_n hN; omega)) (fun z hzR hz => ?_))
    have hz := ab_Xs_z hz
    subst hz
    refine Exists.intro _ (And.intro (by first | assumption | exact st_s | exact st_e (by decide) (by assumption) | exact st_e (by omega) (by assumption) | exact st_e (by decide) st_s | exact st_e (by omega) st_s | exact st_e (by decide) (st_e (by decide) (by assumption)) | exact st_e (by omega) (st_e (by omega) (by assumption))) (And.intro rfl (ab_inv_of hmm (by first | decide | omega) (by omega) (by omega) ?_)))
    intro z2 σ2 hp2
    obtain ⟨hf2, rfl, t2, hM2⟩ := hp2
    have q572 := hM2.h57
    have hth := m_thrown hM2
    have h92 : σ2.2 319 = some (lgc u1) := (hf2.2 319 (by unfold mA; omega)).trans h91
    refine Exists.intro _ (And.intro (by first | assumption | exact st_s | exact st_e (by decide) (by assumption) | exact st_e (by omega) (by assumption) | exact st_e (by decide) st_s | exact st_e (by omega) st_s | exact st_e (by decide) (st_e (by decide) (by assumption)) | exact st_e (by omega) (st_e (by omega) (by assumption))) (And.intro rfl (ab_inv_ev hth (by first | decide | omega) (by first | exact Nat.le_refl _ | omega) (by first | exact Nat.le_refl _ | omega) ?_)))
    refine And.intro (fun q => ?_) (fun q => ?_)
    · refine hA 179 _ rfl _ _ _ _ _ ?_
      refine And.intro (by first | assumption | exact b2i_R _ | exact rR (by omega) (by omega) | exact rR (by simp only [Int.toNat_natCast]; omega) (by simp only [Int.toNat_natCast]; omega)) (And.intro (fun q => ?_) (fun q => ?_))
      · exact absurd rfl q
      · refine hA 180 _ rfl _ _ _ _ _ ?_
        refine Exists.intro _ (Exists.intro _ (And.intro (by first | assumption | exact st_s | exact st_e (by decide) (by assumption) | exact st_e (by omega) (by assumption) | exact st_e (by decide) st_s | exact st_e (by omega) st_s | exact st_e (by decide) (st_e (by decide) (by assumption)) | exact st_e (by omega) (st_e (by omega) (by assumption))) (And.intro (by first | omega | (simp only [Int.toNat_natCast]; omega)) ?_)))
        refine And.intro (And.intro (by first | assumption | exact b2i_R _ | exact rR (by omega) (by omega) | exact rR (by simp only [Int.toNat_natCast]; omega) (by simp only [Int.toNat_natCast]; omega)) (by first | assumption | exact b2i_R _ | exact rR (by omega) (by omega) | exact rR (by simp only [Int.toNat_natCast]; omega) (by simp only [Int.toNat_natCast]; omega))) (fun z hzR hz => ?_)
        refine And.intro (by first | assumption | exact b2i_R _ | exact rR (by omega) (by omega) | exact rR (by simp only [Int.toNat_natCast]; omega) (by simp only [Int.toNat_natCast]; omega)) (And.intro (fun q => ?_) (fun q => ?_))
        · refine hA 182 _ rfl _ _ _ _ _ ?_
          exact hx _ _ _ _ _ _ _ _ ⟨cs_mA hC1 hf2, ⟨t2, hM2⟩, u1, h92⟩ (by show _ + 2100 * cc ≤ _ + 2100 * cc2; omega) (by show _ + 110000 * cc ≤ _ + 110000 * cc2; omega)
        · exact absurd (hz.mpr hx1) q
    · exact absurd rfl q
  · obtain ⟨rfl, hC1⟩ := hp
    have hj := hj j rfl
    refine And.intro rfl (And.intro (And.intro (by omega) (fun N hN => by have hN := ab_Xs_n hN; omega)) (fun z hzR hz => ?_))
    have hz := ab_Xs_z hz
    subst hz
    refine And.intro rfl (And.intro (And.intro (by omega) (fun N hN => by have hN := ab_Xs_n hN; omega)) (fun z hzR hz => ?_))
    have hz := ab_Xs_z hz
    subst hz
    refine And.intro rfl (And.intro (And.intro (by omega) (fun N hN => by have hN := ab_Xs_n hN; omega)) (fun z hzR hz => ?_))
    have hz := ab_Xs_z hz
    subst hz
    refine And.intro rfl (And.intro (And.intro (by omega) (fun N hN => by have hN := ab_Xs_n hN; omega)) (fun z hzR hz => ?_))
    have hz := ab_Xs_z hz
    subst hz
    refine Exists.intro _ (And.intro (by first | assumption | exact st_s | exact st_e (by decide) (by assumption) | exact st_e (by omega) (by assumption) | exact st_e (by decide) st_s | exact st_e (by omega) st_s | exact st_e (by decide) (st_e (by decide) (by assumption)) | exact st_e (by omega) (st_e (by omega) (by assumption))) (And.intro rfl (ab_inv_of hmm (by first | decide | omega) (by omega) (by omega) ?_)))
    intro z2 σ2 hp2
    obtain ⟨hf2, ⟨x2, rfl⟩, t2, hM2⟩ := hp2
    have q572 := hM2.h57
    have hth := m_thrown hM2
    have h92 : σ2.2 319 = some (lgc u1) := (hf2.2 319 (by unfold mA; omega)).trans h91
    refine Exists.intro _ (And.intro (by first | assumption | exact st_s | exact st_e (by decide) (by assumption) | exact st_e (by omega) (by assumption) | exact st_e (by decide) st_s | exact st_e (by omega) st_s | exact st_e (by decide) (st_e (by decide) (by assumption)) | exact st_e (by omega) (st_e (by omega) (by assumption))) (And.intro rfl (ab_inv_ev hth (by first | decide | omega) (by first | exact Nat.le_refl _ | omega) (by first | exact Nat.le_refl _ | omega) ?_)))
    refine And.intro (fun q => ?_) (fun q => ?_)
    · refine hA 179 _ rfl _ _ _ _ _ ?_
      refine And.intro (show ab_R (((j : Nat) : Int) + 1) from rR (by omega) (by omega)) (And.intro (fun q => ?_) (fun q => ?_))
      · refine hA 182 _ rfl _ _ _ _ _ ?_
        exact hx _ _ _ _ _ _ _ _ ⟨cs_mA hC1 hf2, ⟨t2, hM2⟩, u1, h92⟩ (by show _ + 2100 * cc ≤ _ + 2100 * cc; omega) (by show _ + 110000 * cc ≤ _ + 110000 * cc; omega)
      · have q : ((j : Nat) : Int) + 1 = 0 := q
        omega
    · exact absurd rfl q
set_option maxRecDepth 100000 in
set_option maxHeartbeats 1000000 in
theorem c_foretold (hA : ab_ruleL N0 sc bL_law 30 601024 7293033 lwP At) (hsc : ∀ j, ab_R (sc j)) (hi : i + 6 ≤ N0) (hN : N0 < 100000) (hL : LI σ S r th) (hk : k + 2100 ≤ 601024) (hn : n + 110000 ≤ 7293033) (y5 y6 : Option ab_V) (hx : LNx At i S k n) : At 183 (LLs i y5 y6) [] σ k n := by
  obtain ⟨cc, rows, K, va, R, f, m9, pl, c⟩ := S
  obtain ⟨⟨ad, hC⟩, ⟨t, hM⟩, u9, h9⟩ := hL
  have h0 := hC.1
  have hc := h_foretold hC (sc (((i : Nat) : Int) + 1).toNat) (sc (((i : Nat) : Int) + 2).toNat) (sc (((i : Nat) : Int) + 3).toNat) (sc (((i : Nat) : Int) + 4).toNat) (hsc _) (hsc _) (hsc _) (hsc _) h9
  have hm := fun (σ1 : ab_H) (h1 : ∀ a, 57 ≤ a → a ≤ 318 → σ1.2 a = σ.2 a) => g_foretold (hM.keep h1) (sc (((i : Nat) : Int) + 1).toNat) (sc (((i : Nat) : Int) + 2).toNat) (sc (((i : Nat) : Int) + 3).toNat) (sc (((i : Nat) : Int) + 4).toNat) (hsc _) (hsc _) (hsc _) (hsc _)
  generalize ho : (stq (cc, rows, K, va, R, f, m9, pl, c) (sp_foretold cc rows K va R (sc (((i : Nat) : Int) + 1).toNat) (sc (((i : Nat) : Int) + 2).toNat) (sc (((i : Nat) : Int) + 3).toNat) (sc (((i : Nat) : Int) + 4).toNat))) = o at hc hm
  have hcc : ∀ x S1, o = .inl (x, S1) → S1.1 = cc := fun x S1 h => by subst h; exact congrArg (fun S : St => S.1) (stq_l ho).2
  have hj : ∀ j, o = .inr j → j = 0 ∨ j = 1 := fun j h => by
    subst h
    exact on_foretold (stq_i ho)
  clear ho
  skip
  refine hA 183 _ rfl _ _ _ _ _ ?_
  refine And.intro rfl (And.intro (And.intro (by omega) (fun N hN => by have hN := ab_Xs_n hN; omega)) (fun z hzR hz => ?_))
  have hz := ab_Xs_z hz
  subst hz
  refine And.intro rfl (And.intro (And.intro (by omega) (fun N hN => by have hN := ab_Xs_n hN; omega)) (fun z hzR hz => ?_))
  have hz := ab_Xs_z hz
  subst hz
  refine And.intro rfl (And.intro (And.intro (by omega) (fun N hN => by have hN := ab_Xs_n hN; omega)) (fun z hzR hz => ?_))
  have hz := ab_Xs_z hz
  subst hz
  refine And.intro rfl (And.intro (And.intro (by omega) (fun N hN => by have hN := ab_Xs_n hN; omega)) (fun z hzR hz => ?_))
  have hz := ab_Xs_z hz
  subst hz
  refine And.intro rfl (ab_invH_of hc (by first | decide | omega) (by omega) (by omega) ?_)
  intro z σ1 hp
  obtain ⟨hs1, hm1, u1, h91, hp⟩ := hp
  have q57 := (hM.keep hm1).h57
  have hmm := hm σ1 hm1
  rcases o with ⟨x, S1⟩ | j
  · obtain ⟨cc2, rows2, K2, va2, R2, f2, m2, pl2, c2⟩ := S1
    obtain ⟨rfl, hx1, hC1⟩ := hp
    have hcc : cc2 = cc := hcc _ _ rfl
    have hxR : ab_R (u1 0) := by rw [hx1]; exact ab_wr_R x
    have hxW := ab_wr_R x
    refine And.intro rfl (And.intro (And.intro (by omega) (fun N hN => by have hN := ab_Xs_n hN; omega)) (fun z hzR hz => ?_))
    have hz := ab_Xs_z hz
    subst hz
    refine And.intro rfl (And.intro (And.intro (by omega) (fun N hN => by have hN := ab_Xs_n hN; omega)) (fun z hzR hz => ?_))
    have hz := ab_Xs_z hz
    subst hz
    refine And.intro rfl (And.intro (And.intro (by omega) (fun N hN => by have hN := ab_Xs_n hN; omega)) (fun z hzR hz => ?_))
    have hz := ab_Xs_z hz
    subst hz
    refine And.intro rfl (And.intro (And.intro (by omega) (fun N hN => by have hN := ab_Xs_n hN; omega)) (fun z hzR hz => ?_))
    have hz := ab_Xs_z hz
    subst hz
    refine Exists.intro _ (And.intro (by first | assumption | exact st_s | exact st_e (by decide) (by assumption) | exact st_e (by omega) (by assumption) | exact st_e (by decide) st_s | exact st_e (by omega) st_s | exact st_e (by decide) (st_e (by decide) (by assumption)) | exact st_e (by omega) (st_e (by omega) (by assumption))) (And.intro rfl (ab_inv_of hmm (by first | decide | omega) (by omega) (by omega) ?_)))
    intro z2 σ2 hp2
    obtain ⟨hf2, rfl, t2, hM2⟩ := hp2
    have q572 := hM2.h57
    have hth := m_thrown hM2
    have h92 : σ2.2 319 = some (lgc u1) := (hf2.2 319 (by unfold mA; omega)).trans h91
    refine Exists.intro _ (And.intro (by first | assumption | exact st_s | exact st_e (by decide) (by assumption) | exact st_e (by omega) (by assumption) | exact st_e (by decide) st_s | exact st_e (by omega) st_s | exact st_e (by decide) (st_e (by decide) (by assumption)) | exact st_e (by omega) (st_e (by omega) (by assumption))) (And.intro rfl (ab_inv_ev hth (by first | decide | omega) (by first | exact Nat.le_refl _ | omega) (by first | exact Nat.le_refl _ | omega) ?_)))
    refine And.intro (fun q => ?_) (fun q => ?_)
    · refine hA 185 _ rfl _ _ _ _ _ ?_
      refine And.intro (by first | assumption | exact b2i_R _ | exact rR (by omega) (by omega) | exact rR (by simp only [Int.toNat_natCast]; omega) (by simp only [Int.toNat_natCast]; omega)) (And.intro (fun q => ?_) (fun q => ?_))
      · exact absurd rfl q
      · refine hA 186 _ rfl _ _ _ _ _ ?_
        refine Exists.intro _ (Exists.intro _ (And.intro (by first | assumption | exact st_s | exact st_e (by decide) (by assumption) | exact st_e (by omega) (by assumption) | exact st_e (by decide) st_s | exact st_e (by omega) st_s | exact st_e (by decide) (st_e (by decide) (by assumption)) | exact st_e (by omega) (st_e (by omega) (by assumption))) (And.intro (by first | omega | (simp only [Int.toNat_natCast]; omega)) ?_)))
        refine And.intro (And.intro (by first | assumption | exact b2i_R _ | exact rR (by omega) (by omega) | exact rR (by simp only [Int.toNat_natCast]; omega) (by simp only [Int.toNat_natCast]; omega)) (by first | assumption | exact b2i_R _ | exact rR (by omega) (by omega) | exact rR (by simp only [Int.toNat_natCast]; omega) (by simp only [Int.toNat_natCast]; omega))) (fun z hzR hz => ?_)
        refine And.intro (by first | assumption | exact b2i_R _ | exact rR (by omega) (by omega) | exact rR (by simp only [Int.toNat_natCast]; omega) (by simp only [Int.toNat_natCast]; omega)) (And.intro (fun q => ?_) (fun q => ?_))
        · refine hA 188 _ rfl _ _ _ _ _ ?_
          exact hx _ _ _ _ _ _ _ _ ⟨cs_mA hC1 hf2, ⟨t2, hM2⟩, u1, h92⟩ (by show _ + 2100 * cc ≤ _ + 2100 * cc2; omega) (by show _ + 110000 * cc ≤ _ + 110000 * cc2; omega)
        · exact absurd (hz.mpr hx1) q
    · exact absurd rfl q
  · obtain ⟨rfl, hC1⟩ := hp
    have hj := hj j rfl
    refine And.intro rfl (And.intro (And.intro (by omega) (fun N hN => by have hN := ab_Xs_n hN; omega)) (fun z hzR hz => ?_))
    have hz := ab_Xs_z hz
    subst hz
    refine And.intro rfl (And.intro (And.intro (by omega) (fun N hN => by have hN := ab_Xs_n hN; omega)) (fun z hzR hz => ?_))
    have hz := ab_Xs_z hz
    subst hz
    refine And.intro rfl (And.intro (And.intro (by omega) (fun N hN => by have hN := ab_Xs_n hN; omega)) (fun z hzR hz => ?_))
    have hz := ab_Xs_z hz
    subst hz
    refine And.intro rfl (And.intro (And.intro (by omega) (fun N hN => by have hN := ab_Xs_n hN; omega)) (fun z hzR hz => ?_))
    have hz := ab_Xs_z hz
    subst hz
    refine Exists.intro _ (And.intro (by first | assumption | exact st_s | exact st_e (by decide) (by assumption) | exact st_e (by omega) (by assumption) | exact st_e (by decide) st_s | exact st_e (by omega) st_s | exact st_e (by decide) (st_e (by decide) (by assumption)) | exact st_e (by omega) (st_e (by omega) (by assumption))) (And.intro rfl (ab_inv_of hmm (by first | decide | omega) (by omega) (by omega) ?_)))
    intro z2 σ2 hp2
    obtain ⟨hf2, ⟨x2, rfl⟩, t2, hM2⟩ := hp2
    have q572 := hM2.h57
    have hth := m_thrown hM2
    have h92 : σ2.2 319 = some (lgc u1) := (hf2.2 319 (by unfold mA; omega)).trans h91
    refine Exists.intro _ (And.intro (by first | assumption | exact st_s | exact st_e (by decide) (by assumption) | exact st_e (by omega) (by assumption) | exact st_e (by decide) st_s | exact st_e (by omega) st_s | exact st_e (by decide) (st_e (by decide) (by assumption)) | exact st_e (by omega) (st_e (by omega) (by assumption))) (And.intro rfl (ab_inv_ev hth (by first | decide | omega) (by first | exact Nat.le_refl _ | omega) (by first | exact Nat.le_refl _ | omega) ?_)))
    refine And.intro (fun q => ?_) (fun q => ?_)
    · refine hA 185 _ rfl _ _ _ _ _ ?_
      refine And.intro (show ab_R (((j : Nat) : Int) + 1) from rR (by omega) (by omega)) (And.intro (fun q => ?_) (fun q => ?_))
      · refine hA 188 _ rfl _ _ _ _ _ ?_
        exact hx _ _ _ _ _ _ _ _ ⟨cs_mA hC1 hf2, ⟨t2, hM2⟩, u1, h92⟩ (by show _ + 2100 * cc ≤ _ + 2100 * cc; omega) (by show _ + 110000 * cc ≤ _ + 110000 * cc; omega)
      · have q : ((j : Nat) : Int) + 1 = 0 := q
        omega
    · exact absurd rfl q
set_option maxRecDepth 100000 in
set_option maxHeartbeats 1000000 in
theorem c_differ (hA : ab_ruleL N0 sc bL_law 30 601024 7293033 lwP At) (hsc : ∀ j, ab_R (sc j)) (hi : i + 6 ≤ N0) (hN : N0 < 100000) (hL : LI σ S r th) (hk : k + 2100 ≤ 601024) (hn : n + 110000 ≤ 7293033) (y5 y6 : Option ab_V) (hx : LNx At i S k n) : At 189 (LLs i y5 y6) [] σ k n := by
  obtain ⟨cc, rows, K, va, R, f, m9, pl, c⟩ := S
  obtain ⟨⟨ad, hC⟩, ⟨t, hM⟩, u9, h9⟩ := hL
  have h0 := hC.1
  have hc := h_differ hC (sc (((i : Nat) : Int) + 1).toNat) (sc (((i : Nat) : Int) + 2).toNat) (hsc _) (hsc _) h9
  have hm := fun (σ1 : ab_H) (h1 : ∀ a, 57 ≤ a → a ≤ 318 → σ1.2 a = σ.2 a) => g_differ (hM.keep h1) (sc (((i : Nat) : Int) + 1).toNat) (sc (((i : Nat) : Int) + 2).toNat) (hsc _) (hsc _)
  generalize ho : (stq (cc, rows, K, va, R, f, m9, pl, c) (sp_differ R (sc (((i : Nat) : Int) + 1).toNat) (sc (((i : Nat) : Int) + 2).toNat))) = o at hc hm
  have hcc : ∀ x S1, o = .inl (x, S1) → S1.1 = cc := fun x S1 h => by subst h; exact congrArg (fun S : St => S.1) (stq_l ho).2
  have hj : ∀ j, o = .inr j → j = 0 := fun j h => by
    subst h
    exact on_differ (stq_i ho)
  clear ho
  skip
  refine hA 189 _ rfl _ _ _ _ _ ?_
  refine And.intro rfl (And.intro (And.intro (by omega) (fun N hN => by have hN := ab_Xs_n hN; omega)) (fun z hzR hz => ?_))
  have hz := ab_Xs_z hz
  subst hz
  refine And.intro rfl (And.intro (And.intro (by omega) (fun N hN => by have hN := ab_Xs_n hN; omega)) (fun z hzR hz => ?_))
  have hz := ab_Xs_z hz
  subst hz
  refine And.intro rfl (ab_invH_of hc (by first | decide | omega) (by omega) (by omega) ?_)
  intro z σ1 hp
  obtain ⟨hs1, hm1, u1, h91, hp⟩ := hp
  have q57 := (hM.keep hm1).h57
  have hmm := hm σ1 hm1
  rcases o with ⟨x, S1⟩ | j
  · obtain ⟨cc2, rows2, K2, va2, R2, f2, m2, pl2, c2⟩ := S1
    obtain ⟨rfl, hx1, hC1⟩ := hp
    have hcc : cc2 = cc := hcc _ _ rfl
    have hxR : ab_R (u1 0) := by rw [hx1]; exact ab_wr_R x
    have hxW := ab_wr_R x
    refine And.intro rfl (And.intro (And.intro (by omega) (fun N hN => by have hN := ab_Xs_n hN; omega)) (fun z hzR hz => ?_))
    have hz := ab_Xs_z hz
    subst hz
    refine And.intro rfl (And.intro (And.intro (by omega) (fun N hN => by have hN := ab_Xs_n hN; omega)) (fun z hzR hz => ?_))
    have hz := ab_Xs_z hz
    subst hz
    refine Exists.intro _ (And.intro (by first | assumption | exact st_s | exact st_e (by decide) (by assumption) | exact st_e (by omega) (by assumption) | exact st_e (by decide) st_s | exact st_e (by omega) st_s | exact st_e (by decide) (st_e (by decide) (by assumption)) | exact st_e (by omega) (st_e (by omega) (by assumption))) (And.intro rfl (ab_inv_of hmm (by first | decide | omega) (by omega) (by omega) ?_)))
    intro z2 σ2 hp2
    obtain ⟨hf2, rfl, t2, hM2⟩ := hp2
    have q572 := hM2.h57
    have hth := m_thrown hM2
    have h92 : σ2.2 319 = some (lgc u1) := (hf2.2 319 (by unfold mA; omega)).trans h91
    refine Exists.intro _ (And.intro (by first | assumption | exact st_s | exact st_e (by decide) (by assumption) | exact st_e (by omega) (by assumption) | exact st_e (by decide) st_s | exact st_e (by omega) st_s | exact st_e (by decide) (st_e (by decide) (by assumption)) | exact st_e (by omega) (st_e (by omega) (by assumption))) (And.intro rfl (ab_inv_ev hth (by first | decide | omega) (by first | exact Nat.le_refl _ | omega) (by first | exact Nat.le_refl _ | omega) ?_)))
    refine And.intro (fun q => ?_) (fun q => ?_)
    · refine hA 191 _ rfl _ _ _ _ _ ?_
      refine And.intro (by first | assumption | exact b2i_R _ | exact rR (by omega) (by omega) | exact rR (by simp only [Int.toNat_natCast]; omega) (by simp only [Int.toNat_natCast]; omega)) (And.intro (fun q => ?_) (fun q => ?_))
      · exact absurd rfl q
      · refine hA 192 _ rfl _ _ _ _ _ ?_
        refine Exists.intro _ (Exists.intro _ (And.intro (by first | assumption | exact st_s | exact st_e (by decide) (by assumption) | exact st_e (by omega) (by assumption) | exact st_e (by decide) st_s | exact st_e (by omega) st_s | exact st_e (by decide) (st_e (by decide) (by assumption)) | exact st_e (by omega) (st_e (by omega) (by assumption))) (And.intro (by first | omega | (simp only [Int.toNat_natCast]; omega)) ?_)))
        refine And.intro (And.intro (by first | assumption | exact b2i_R _ | exact rR (by omega) (by omega) | exact rR (by simp only [Int.toNat_natCast]; omega) (by simp only [Int.toNat_natCast]; omega)) (by first | assumption | exact b2i_R _ | exact rR (by omega) (by omega) | exact rR (by simp only [Int.toNat_natCast]; omega) (by simp only [Int.toNat_natCast]; omega))) (fun z hzR hz => ?_)
        refine And.intro (by first | assumption | exact b2i_R _ | exact rR (by omega) (by omega) | exact rR (by simp only [Int.toNat_natCast]; omega) (by simp only [Int.toNat_natCast]; omega)) (And.intro (fun q => ?_) (fun q => ?_))
        · refine hA 194 _ rfl _ _ _ _ _ ?_
          exact hx _ _ _ _ _ _ _ _ ⟨cs_mA hC1 hf2, ⟨t2, hM2⟩, u1, h92⟩ (by show _ + 2100 * cc ≤ _ + 2100 * cc2; omega) (by show _ + 110000 * cc ≤ _ + 110000 * cc2; omega)
        · exact absurd (hz.mpr hx1) q
    · exact absurd rfl q
  · obtain ⟨rfl, hC1⟩ := hp
    have hj := hj j rfl
    refine And.intro rfl (And.intro (And.intro (by omega) (fun N hN => by have hN := ab_Xs_n hN; omega)) (fun z hzR hz => ?_))
    have hz := ab_Xs_z hz
    subst hz
    refine And.intro rfl (And.intro (And.intro (by omega) (fun N hN => by have hN := ab_Xs_n hN; omega)) (fun z hzR hz => ?_))
    have hz := ab_Xs_z hz
    subst hz
    refine Exists.intro _ (And.intro (by first | assumption | exact st_s | exact st_e (by decide) (by assumption) | exact st_e (by omega) (by assumption) | exact st_e (by decide) st_s | exact st_e (by omega) st_s | exact st_e (by decide) (st_e (by decide) (by assumption)) | exact st_e (by omega) (st_e (by omega) (by assumption))) (And.intro rfl (ab_inv_of hmm (by first | decide | omega) (by omega) (by omega) ?_)))
    intro z2 σ2 hp2
    obtain ⟨hf2, ⟨x2, rfl⟩, t2, hM2⟩ := hp2
    have q572 := hM2.h57
    have hth := m_thrown hM2
    have h92 : σ2.2 319 = some (lgc u1) := (hf2.2 319 (by unfold mA; omega)).trans h91
    refine Exists.intro _ (And.intro (by first | assumption | exact st_s | exact st_e (by decide) (by assumption) | exact st_e (by omega) (by assumption) | exact st_e (by decide) st_s | exact st_e (by omega) st_s | exact st_e (by decide) (st_e (by decide) (by assumption)) | exact st_e (by omega) (st_e (by omega) (by assumption))) (And.intro rfl (ab_inv_ev hth (by first | decide | omega) (by first | exact Nat.le_refl _ | omega) (by first | exact Nat.le_refl _ | omega) ?_)))
    refine And.intro (fun q => ?_) (fun q => ?_)
    · refine hA 191 _ rfl _ _ _ _ _ ?_
      refine And.intro (show ab_R (((j : Nat) : Int) + 1) from rR (by omega) (by omega)) (And.intro (fun q => ?_) (fun q => ?_))
      · refine hA 194 _ rfl _ _ _ _ _ ?_
        exact hx _ _ _ _ _ _ _ _ ⟨cs_mA hC1 hf2, ⟨t2, hM2⟩, u1, h92⟩ (by show _ + 2100 * cc ≤ _ + 2100 * cc; omega) (by show _ + 110000 * cc ≤ _ + 110000 * cc; omega)
      · have q : ((j : Nat) : Int) + 1 = 0 := q
        omega
    · exact absurd rfl q
set_option maxRecDepth 100000 in
set_option maxHeartbeats 1000000 in
theorem c_group (hA : ab_ruleL N0 sc bL_law 30 601024 7293033 lwP At) (hsc : ∀ j, ab_R (sc j)) (hi : i + 6 ≤ N0) (hN : N0 < 100000) (hL : LI σ S r th) (hk : k + 2100 ≤ 601024) (hn : n + 110000 ≤ 7293033) (y5 y6 : Option ab_V) (hx : LNx At i S k n) : At 195 (LLs i y5 y6) [] σ k n := by
  obtain ⟨cc, rows, K, va, R, f, m9, pl, c⟩ := S
  obtain ⟨⟨ad, hC⟩, ⟨t, hM⟩, u9, h9⟩ := hL
  have h0 := hC.1
  have hc := h_group hC (sc (((i : Nat) : Int) + 1).toNat) (sc (((i : Nat) : Int) + 2).toNat) (sc (((i : Nat) : Int) + 3).toNat) (hsc _) (hsc _) (hsc _) h9
  have hm := fun (σ1 : ab_H) (h1 : ∀ a, 57 ≤ a → a ≤ 318 → σ1.2 a = σ.2 a) => g_group (hM.keep h1) (sc (((i : Nat) : Int) + 1).toNat) (sc (((i : Nat) : Int) + 2).toNat) (sc (((i : Nat) : Int) + 3).toNat) (hsc _) (hsc _) (hsc _)
  generalize ho : (stq (cc, rows, K, va, R, f, m9, pl, c) (sp_group rows R (sc (((i : Nat) : Int) + 1).toNat) (sc (((i : Nat) : Int) + 2).toNat) (sc (((i : Nat) : Int) + 3).toNat))) = o at hc hm
  have hcc : ∀ x S1, o = .inl (x, S1) → S1.1 = cc := fun x S1 h => by subst h; exact congrArg (fun S : St => S.1) (stq_l ho).2
  have hj : ∀ j, o = .inr j → j = 0 ∨ j = 1 := fun j h => by
    subst h
    exact on_group (stq_i ho)
  clear ho
  skip
  refine hA 195 _ rfl _ _ _ _ _ ?_
  refine And.intro rfl (And.intro (And.intro (by omega) (fun N hN => by have hN := ab_Xs_n hN; omega)) (fun z hzR hz => ?_))
  have hz := ab_Xs_z hz
  subst hz
  refine And.intro rfl (And.intro (And.intro (by omega) (fun N hN => by have hN := ab_Xs_n hN; omega)) (fun z hzR hz => ?_))
  have hz := ab_Xs_z hz
  subst hz
  refine And.intro rfl (And.intro (And.intro (by omega) (fun N hN => by have hN := ab_Xs_n hN; omega)) (fun z hzR hz => ?_))
  have hz := ab_Xs_z hz
  subst hz
  refine And.intro rfl (ab_invH_of hc (by first | decide | omega) (by omega) (by omega) ?_)
  intro z σ1 hp
  obtain ⟨hs1, hm1, u1, h91, hp⟩ := hp
  have q57 := (hM.keep hm1).h57
  have hmm := hm σ1 hm1
  rcases o with ⟨x, S1⟩ | j
  · obtain ⟨cc2, rows2, K2, va2, R2, f2, m2, pl2, c2⟩ := S1
    obtain ⟨rfl, hx1, hC1⟩ := hp
    have hcc : cc2 = cc := hcc _ _ rfl
    have hxR : ab_R (u1 0) := by rw [hx1]; exact ab_wr_R x
    have hxW := ab_wr_R x
    refine And.intro rfl (And.intro (And.intro (by omega) (fun N hN => by have hN := ab_Xs_n hN; omega)) (fun z hzR hz => ?_))
    have hz := ab_Xs_z hz
    subst hz
    refine And.intro rfl (And.intro (And.intro (by omega) (fun N hN => by have hN := ab_Xs_n hN; omega)) (fun z hzR hz => ?_))
    have hz := ab_Xs_z hz
    subst hz
    refine And.intro rfl (And.intro (And.intro (by omega) (fun N hN => by have hN := ab_Xs_n hN; omega)) (fun z hzR hz => ?_))
    have hz := ab_Xs_z hz
    subst hz
    refine Exists.intro _ (And.intro (by first | assumption | exact st_s | exact st_e (by decide) (by assumption) | exact st_e (by omega) (by assumption) | exact st_e (by decide) st_s | exact st_e (by omega) st_s | exact st_e (by decide) (st_e (by decide) (by assumption)) | exact st_e (by omega) (st_e (by omega) (by assumption))) (And.intro rfl (ab_inv_of hmm (by first | decide | omega) (by omega) (by omega) ?_)))
    intro z2 σ2 hp2
    obtain ⟨hf2, rfl, t2, hM2⟩ := hp2
    have q572 := hM2.h57
    have hth := m_thrown hM2
    have h92 : σ2.2 319 = some (lgc u1) := (hf2.2 319 (by unfold mA; omega)).trans h91
    refine Exists.intro _ (And.intro (by first | assumption | exact st_s | exact st_e (by decide) (by assumption) | exact st_e (by omega) (by assumption) | exact st_e (by decide) st_s | exact st_e (by omega) st_s | exact st_e (by decide) (st_e (by decide) (by assumption)) | exact st_e (by omega) (st_e (by omega) (by assumption))) (And.intro rfl (ab_inv_ev hth (by first | decide | omega) (by first | exact Nat.le_refl _ | omega) (by first | exact Nat.le_refl _ | omega) ?_)))
    refine And.intro (fun q => ?_) (fun q => ?_)
    · refine hA 197 _ rfl _ _ _ _ _ ?_
      refine And.intro (by first | assumption | exact b2i_R _ | exact rR (by omega) (by omega) | exact rR (by simp only [Int.toNat_natCast]; omega) (by simp only [Int.toNat_natCast]; omega)) (And.intro (fun q => ?_) (fun q => ?_))
      · exact absurd rfl q
      · refine hA 198 _ rfl _ _ _ _ _ ?_
        refine Exists.intro _ (Exists.intro _ (And.intro (by first | assumption | exact st_s | exact st_e (by decide) (by assumption) | exact st_e (by omega) (by assumption) | exact st_e (by decide) st_s | exact st_e (by omega) st_s | exact st_e (by decide) (st_e (by decide) (by assumption)) | exact st_e (by omega) (st_e (by omega) (by assumption))) (And.intro (by first | omega | (simp only [Int.toNat_natCast]; omega)) ?_)))
        refine And.intro (And.intro (by first | assumption | exact b2i_R _ | exact rR (by omega) (by omega) | exact rR (by simp only [Int.toNat_natCast]; omega) (by simp only [Int.toNat_natCast]; omega)) (by first | assumption | exact b2i_R _ | exact rR (by omega) (by omega) | exact rR (by simp only [Int.toNat_natCast]; omega) (by simp only [Int.toNat_natCast]; omega))) (fun z hzR hz => ?_)
        refine And.intro (by first | assumption | exact b2i_R _ | exact rR (by omega) (by omega) | exact rR (by simp only [Int.toNat_natCast]; omega) (by simp only [Int.toNat_natCast]; omega)) (And.intro (fun q => ?_) (fun q => ?_))
        · refine hA 200 _ rfl _ _ _ _ _ ?_
          exact hx _ _ _ _ _ _ _ _ ⟨cs_mA hC1 hf2, ⟨t2, hM2⟩, u1, h92⟩ (by show _ + 2100 * cc ≤ _ + 2100 * cc2; omega) (by show _ + 110000 * cc ≤ _ + 110000 * cc2; omega)
        · exact absurd (hz.mpr hx1) q
    · exact absurd rfl q
  · obtain ⟨rfl, hC1⟩ := hp
    have hj := hj j rfl
    refine And.intro rfl (And.intro (And.intro (by omega) (fun N hN => by have hN := ab_Xs_n hN; omega)) (fun z hzR hz => ?_))
    have hz := ab_Xs_z hz
    subst hz
    refine And.intro rfl (And.intro (And.intro (by omega) (fun N hN => by have hN := ab_Xs_n hN; omega)) (fun z hzR hz => ?_))
    have hz := ab_Xs_z hz
    subst hz
    refine And.intro rfl (And.intro (And.intro (by omega) (fun N hN => by have hN := ab_Xs_n hN; omega)) (fun z hzR hz => ?_))
    have hz := ab_Xs_z hz
    subst hz
    refine Exists.intro _ (And.intro (by first | assumption | exact st_s | exact st_e (by decide) (by assumption) | exact st_e (by omega) (by assumption) | exact st_e (by decide) st_s | exact st_e (by omega) st_s | exact st_e (by decide) (st_e (by decide) (by assumption)) | exact st_e (by omega) (st_e (by omega) (by assumption))) (And.intro rfl (ab_inv_of hmm (by first | decide | omega) (by omega) (by omega) ?_)))
    intro z2 σ2 hp2
    obtain ⟨hf2, ⟨x2, rfl⟩, t2, hM2⟩ := hp2
    have q572 := hM2.h57
    have hth := m_thrown hM2
    have h92 : σ2.2 319 = some (lgc u1) := (hf2.2 319 (by unfold mA; omega)).trans h91
    refine Exists.intro _ (And.intro (by first | assumption | exact st_s | exact st_e (by decide) (by assumption) | exact st_e (by omega) (by assumption) | exact st_e (by decide) st_s | exact st_e (by omega) st_s | exact st_e (by decide) (st_e (by decide) (by assumption)) | exact st_e (by omega) (st_e (by omega) (by assumption))) (And.intro rfl (ab_inv_ev hth (by first | decide | omega) (by first | exact Nat.le_refl _ | omega) (by first | exact Nat.le_refl _ | omega) ?_)))
    refine And.intro (fun q => ?_) (fun q => ?_)
    · refine hA 197 _ rfl _ _ _ _ _ ?_
      refine And.intro (show ab_R (((j : Nat) : Int) + 1) from rR (by omega) (by omega)) (And.intro (fun q => ?_) (fun q => ?_))
      · refine hA 200 _ rfl _ _ _ _ _ ?_
        exact hx _ _ _ _ _ _ _ _ ⟨cs_mA hC1 hf2, ⟨t2, hM2⟩, u1, h92⟩ (by show _ + 2100 * cc ≤ _ + 2100 * cc; omega) (by show _ + 110000 * cc ≤ _ + 110000 * cc; omega)
      · have q : ((j : Nat) : Int) + 1 = 0 := q
        omega
    · exact absurd rfl q
set_option maxRecDepth 100000 in
set_option maxHeartbeats 1000000 in
theorem c_widest (hA : ab_ruleL N0 sc bL_law 30 601024 7293033 lwP At) (hsc : ∀ j, ab_R (sc j)) (hi : i + 6 ≤ N0) (hN : N0 < 100000) (hL : LI σ S r th) (hk : k + 2100 ≤ 601024) (hn : n + 110000 ≤ 7293033) (y5 y6 : Option ab_V) (hx : LNx At i S k n) : At 201 (LLs i y5 y6) [] σ k n := by
  obtain ⟨cc, rows, K, va, R, f, m9, pl, c⟩ := S
  obtain ⟨⟨ad, hC⟩, ⟨t, hM⟩, u9, h9⟩ := hL
  have h0 := hC.1
  have hc := h_widest hC (sc (((i : Nat) : Int) + 1).toNat) (hsc _) h9
  have hm := fun (σ1 : ab_H) (h1 : ∀ a, 57 ≤ a → a ≤ 318 → σ1.2 a = σ.2 a) => g_widest (hM.keep h1) (sc (((i : Nat) : Int) + 1).toNat) (hsc _)
  generalize ho : (stq (cc, rows, K, va, R, f, m9, pl, c) (sp_widest rows R (sc (((i : Nat) : Int) + 1).toNat))) = o at hc hm
  have hcc : ∀ x S1, o = .inl (x, S1) → S1.1 = cc := fun x S1 h => by subst h; exact congrArg (fun S : St => S.1) (stq_l ho).2
  have hj : ∀ j, o = .inr j → j = 0 := fun j h => by
    subst h
    exact on_widest (stq_i ho)
  clear ho
  skip
  refine hA 201 _ rfl _ _ _ _ _ ?_
  refine And.intro rfl (And.intro (And.intro (by omega) (fun N hN => by have hN := ab_Xs_n hN; omega)) (fun z hzR hz => ?_))
  have hz := ab_Xs_z hz
  subst hz
  refine And.intro rfl (ab_invH_of hc (by first | decide | omega) (by omega) (by omega) ?_)
  intro z σ1 hp
  obtain ⟨hs1, hm1, u1, h91, hp⟩ := hp
  have q57 := (hM.keep hm1).h57
  have hmm := hm σ1 hm1
  rcases o with ⟨x, S1⟩ | j
  · obtain ⟨cc2, rows2, K2, va2, R2, f2, m2, pl2, c2⟩ := S1
    obtain ⟨rfl, hx1, hC1⟩ := hp
    have hcc : cc2 = cc := hcc _ _ rfl
    have hxR : ab_R (u1 0) := by rw [hx1]; exact ab_wr_R x
    have hxW := ab_wr_R x
    refine And.intro rfl (And.intro (And.intro (by omega) (fun N hN => by have hN := ab_Xs_n hN; omega)) (fun z hzR hz => ?_))
    have hz := ab_Xs_z hz
    subst hz
    refine Exists.intro _ (And.intro (by first | assumption | exact st_s | exact st_e (by decide) (by assumption) | exact st_e (by omega) (by assumption) | exact st_e (by decide) st_s | exact st_e (by omega) st_s | exact st_e (by decide) (st_e (by decide) (by assumption)) | exact st_e (by omega) (st_e (by omega) (by assumption))) (And.intro rfl (ab_inv_of hmm (by first | decide | omega) (by omega) (by omega) ?_)))
    intro z2 σ2 hp2
    obtain ⟨hf2, rfl, t2, hM2⟩ := hp2
    have q572 := hM2.h57
    have hth := m_thrown hM2
    have h92 : σ2.2 319 = some (lgc u1) := (hf2.2 319 (by unfold mA; omega)).trans h91
    refine Exists.intro _ (And.intro (by first | assumption | exact st_s | exact st_e (by decide) (by assumption) | exact st_e (by omega) (by assumption) | exact st_e (by decide) st_s | exact st_e (by omega) st_s | exact st_e (by decide) (st_e (by decide) (by assumption)) | exact st_e (by omega) (st_e (by omega) (by assumption))) (And.intro rfl (ab_inv_ev hth (by first | decide | omega) (by first | exact Nat.le_refl _ | omega) (by first | exact Nat.le_refl _ | omega) ?_)))
    refine And.intro (fun q => ?_) (fun q => ?_)
    · refine hA 203 _ rfl _ _ _ _ _ ?_
      refine And.intro (by first | assumption | exact b2i_R _ | exact rR (by omega) (by omega) | exact rR (by simp only [Int.toNat_natCast]; omega) (by simp only [Int.toNat_natCast]; omega)) (And.intro (fun q => ?_) (fun q => ?_))
      · exact absurd rfl q
      · refine hA 204 _ rfl _ _ _ _ _ ?_
        refine Exists.intro _ (Exists.intro _ (And.intro (by first | assumption | exact st_s | exact st_e (by decide) (by assumption) | exact st_e (by omega) (by assumption) | exact st_e (by decide) st_s | exact st_e (by omega) st_s | exact st_e (by decide) (st_e (by decide) (by assumption)) | exact st_e (by omega) (st_e (by omega) (by assumption))) (And.intro (by first | omega | (simp only [Int.toNat_natCast]; omega)) ?_)))
        refine And.intro (And.intro (by first | assumption | exact b2i_R _ | exact rR (by omega) (by omega) | exact rR (by simp only [Int.toNat_natCast]; omega) (by simp only [Int.toNat_natCast]; omega)) (by first | assumption | exact b2i_R _ | exact rR (by omega) (by omega) | exact rR (by simp only [Int.toNat_natCast]; omega) (by simp only [Int.toNat_natCast]; omega))) (fun z hzR hz => ?_)
        refine And.intro (by first | assumption | exact b2i_R _ | exact rR (by omega) (by omega) | exact rR (by simp only [Int.toNat_natCast]; omega) (by simp only [Int.toNat_natCast]; omega)) (And.intro (fun q => ?_) (fun q => ?_))
        · refine hA 206 _ rfl _ _ _ _ _ ?_
          exact hx _ _ _ _ _ _ _ _ ⟨cs_mA hC1 hf2, ⟨t2, hM2⟩, u1, h92⟩ (by show _ + 2100 * cc ≤ _ + 2100 * cc2; omega) (by show _ + 110000 * cc ≤ _ + 110000 * cc2; omega)
        · exact absurd (hz.mpr hx1) q
    · exact absurd rfl q
  · obtain ⟨rfl, hC1⟩ := hp
    have hj := hj j rfl
    refine And.intro rfl (And.intro (And.intro (by omega) (fun N hN => by have hN := ab_Xs_n hN; omega)) (fun z hzR hz => ?_))
    have hz := ab_Xs_z hz
    subst hz
    refine Exists.intro _ (And.intro (by first | assumption | exact st_s | exact st_e (by decide) (by assumption) | exact st_e (by omega) (by assumption) | exact st_e (by decide) st_s | exact st_e (by omega) st_s | exact st_e (by decide) (st_e (by decide) (by assumption)) | exact st_e (by omega) (st_e (by omega) (by assumption))) (And.intro rfl (ab_inv_of hmm (by first | decide | omega) (by omega) (by omega) ?_)))
    intro z2 σ2 hp2
    obtain ⟨hf2, ⟨x2, rfl⟩, t2, hM2⟩ := hp2
    have q572 := hM2.h57
    have hth := m_thrown hM2
    have h92 : σ2.2 319 = some (lgc u1) := (hf2.2 319 (by unfold mA; omega)).trans h91
    refine Exists.intro _ (And.intro (by first | assumption | exact st_s | exact st_e (by decide) (by assumption) | exact st_e (by omega) (by assumption) | exact st_e (by decide) st_s | exact st_e (by omega) st_s | exact st_e (by decide) (st_e (by decide) (by assumption)) | exact st_e (by omega) (st_e (by omega) (by assumption))) (And.intro rfl (ab_inv_ev hth (by first | decide | omega) (by first | exact Nat.le_refl _ | omega) (by first | exact Nat.le_refl _ | omega) ?_)))
    refine And.intro (fun q => ?_) (fun q => ?_)
    · refine hA 203 _ rfl _ _ _ _ _ ?_
      refine And.intro (show ab_R (((j : Nat) : Int) + 1) from rR (by omega) (by omega)) (And.intro (fun q => ?_) (fun q => ?_))
      · refine hA 206 _ rfl _ _ _ _ _ ?_
        exact hx _ _ _ _ _ _ _ _ ⟨cs_mA hC1 hf2, ⟨t2, hM2⟩, u1, h92⟩ (by show _ + 2100 * cc ≤ _ + 2100 * cc; omega) (by show _ + 110000 * cc ≤ _ + 110000 * cc; omega)
      · have q : ((j : Nat) : Int) + 1 = 0 := q
        omega
    · exact absurd rfl q
set_option maxRecDepth 100000 in
set_option maxHeartbeats 1000000 in
theorem c_heaviest (hA : ab_ruleL N0 sc bL_law 30 601024 7293033 lwP At) (hsc : ∀ j, ab_R (sc j)) (hi : i + 6 ≤ N0) (hN : N0 < 100000) (hL : LI σ S r th) (hk : k + 2100 ≤ 601024) (hn : n + 110000 ≤ 7293033) (y5 y6 : Option ab_V) (hx : LNx At i S k n) : At 207 (LLs i y5 y6) [] σ k n := by
  obtain ⟨cc, rows, K, va, R, f, m9, pl, c⟩ := S
  obtain ⟨⟨ad, hC⟩, ⟨t, hM⟩, u9, h9⟩ := hL
  have h0 := hC.1
  have hc := h_heaviest hC (sc (((i : Nat) : Int) + 1).toNat) (sc (((i : Nat) : Int) + 2).toNat) (hsc _) (hsc _) h9
  have hm := fun (σ1 : ab_H) (h1 : ∀ a, 57 ≤ a → a ≤ 318 → σ1.2 a = σ.2 a) => g_heaviest (hM.keep h1) (sc (((i : Nat) : Int) + 1).toNat) (sc (((i : Nat) : Int) + 2).toNat) (hsc _) (hsc _)
  generalize ho : (stq (cc, rows, K, va, R, f, m9, pl, c) (sp_heaviest cc rows K va (sc (((i : Nat) : Int) + 1).toNat) (sc (((i : Nat) : Int) + 2).toNat))) = o at hc hm
  have hcc : ∀ x S1, o = .inl (x, S1) → S1.1 = cc := fun x S1 h => by subst h; exact congrArg (fun S : St => S.1) (stq_l ho).2
  have hj : ∀ j, o = .inr j → j = 0 ∨ j = 1 := fun j h => by
    subst h
    exact on_heaviest (stq_i ho)
  clear ho
  skip
  refine hA 207 _ rfl _ _ _ _ _ ?_
  refine And.intro rfl (And.intro (And.intro (by omega) (fun N hN => by have hN := ab_Xs_n hN; omega)) (fun z hzR hz => ?_))
  have hz := ab_Xs_z hz
  subst hz
  refine And.intro rfl (And.intro (And.intro (by omega) (fun N hN => by have hN := ab_Xs_n hN; omega)) (fun z hzR hz => ?_))
  have hz := ab_Xs_z hz
  subst hz
  refine And.intro rfl (ab_invH_of hc (by first | decide | omega) (by omega) (by omega) ?_)
  intro z σ1 hp
  obtain ⟨hs1, hm1, u1, h91, hp⟩ := hp
  have q57 := (hM.keep hm1).h57
  have hmm := hm σ1 hm1
  rcases o with ⟨x, S1⟩ | j
  · obtain ⟨cc2, rows2, K2, va2, R2, f2, m2, pl2, c2⟩ := S1
    obtain ⟨rfl, hx1, hC1⟩ := hp
    have hcc : cc2 = cc := hcc _ _ rfl
    have hxR : ab_R (u1 0) := by rw [hx1]; exact ab_wr_R x
    have hxW := ab_wr_R x
    refine And.intro rfl (And.intro (And.intro (by omega) (fun N hN => by have hN := ab_Xs_n hN; omega)) (fun z hzR hz => ?_))
    have hz := ab_Xs_z hz
    subst hz
    refine And.intro rfl (And.intro (And.intro (by omega) (fun N hN => by have hN := ab_Xs_n hN; omega)) (fun z hzR hz => ?_))
    have hz := ab_Xs_z hz
    subst hz
    refine Exists.intro _ (And.intro (by first | assumption | exact st_s | exact st_e (by decide) (by assumption) | exact st_e (by omega) (by assumption) | exact st_e (by decide) st_s | exact st_e (by omega) st_s | exact st_e (by decide) (st_e (by decide) (by assumption)) | exact st_e (by omega) (st_e (by omega) (by assumption))) (And.intro rfl (ab_inv_of hmm (by first | decide | omega) (by omega) (by omega) ?_)))
    intro z2 σ2 hp2
    obtain ⟨hf2, rfl, t2, hM2⟩ := hp2
    have q572 := hM2.h57
    have hth := m_thrown hM2
    have h92 : σ2.2 319 = some (lgc u1) := (hf2.2 319 (by unfold mA; omega)).trans h91
    refine Exists.intro _ (And.intro (by first | assumption | exact st_s | exact st_e (by decide) (by assumption) | exact st_e (by omega) (by assumption) | exact st_e (by decide) st_s | exact st_e (by omega) st_s | exact st_e (by decide) (st_e (by decide) (by assumption)) | exact st_e (by omega) (st_e (by omega) (by assumption))) (And.intro rfl (ab_inv_ev hth (by first | decide | omega) (by first | exact Nat.le_refl _ | omega) (by first | exact Nat.le_refl _ | omega) ?_)))
    refine And.intro (fun q => ?_) (fun q => ?_)
    · refine hA 209 _ rfl _ _ _ _ _ ?_
      refine And.intro (by first | assumption | exact b2i_R _ | exact rR (by omega) (by omega) | exact rR (by simp only [Int.toNat_natCast]; omega) (by simp only [Int.toNat_natCast]; omega)) (And.intro (fun q => ?_) (fun q => ?_))
      · exact absurd rfl q
      · refine hA 210 _ rfl _ _ _ _ _ ?_
        refine Exists.intro _ (Exists.intro _ (And.intro (by first | assumption | exact st_s | exact st_e (by decide) (by assumption) | exact st_e (by omega) (by assumption) | exact st_e (by decide) st_s | exact st_e (by omega) st_s | exact st_e (by decide) (st_e (by decide) (by assumption)) | exact st_e (by omega) (st_e (by omega) (by assumption))) (And.intro (by first | omega | (simp only [Int.toNat_natCast]; omega)) ?_)))
        refine And.intro (And.intro (by first | assumption | exact b2i_R _ | exact rR (by omega) (by omega) | exact rR (by simp only [Int.toNat_natCast]; omega) (by simp only [Int.toNat_natCast]; omega)) (by first | assumption | exact b2i_R _ | exact rR (by omega) (by omega) | exact rR (by simp only [Int.toNat_natCast]; omega) (by simp only [Int.toNat_natCast]; omega))) (fun z hzR hz => ?_)
        refine And.intro (by first | assumption | exact b2i_R _ | exact rR (by omega) (by omega) | exact rR (by simp only [Int.toNat_natCast]; omega) (by simp only [Int.toNat_natCast]; omega)) (And.intro (fun q => ?_) (fun q => ?_))
        · refine hA 212 _ rfl _ _ _ _ _ ?_
          exact hx _ _ _ _ _ _ _ _ ⟨cs_mA hC1 hf2, ⟨t2, hM2⟩, u1, h92⟩ (by show _ + 2100 * cc ≤ _ + 2100 * cc2; omega) (by show _ + 110000 * cc ≤ _ + 110000 * cc2; omega)
        · exact absurd (hz.mpr hx1) q
    · exact absurd rfl q
  · obtain ⟨rfl, hC1⟩ := hp
    have hj := hj j rfl
    refine And.intro rfl (And.intro (And.intro (by omega) (fun N hN => by have hN := ab_Xs_n hN; omega)) (fun z hzR hz => ?_))
    have hz := ab_Xs_z hz
    subst hz
    refine And.intro rfl (And.intro (And.intro (by omega) (fun N hN => by have hN := ab_Xs_n hN; omega)) (fun z hzR hz => ?_))
    have hz := ab_Xs_z hz
    subst hz
    refine Exists.intro _ (And.intro (by first | assumption | exact st_s | exact st_e (by decide) (by assumption) | exact st_e (by omega) (by assumption) | exact st_e (by decide) st_s | exact st_e (by omega) st_s | exact st_e (by decide) (st_e (by decide) (by assumption)) | exact st_e (by omega) (st_e (by omega) (by assumption))) (And.intro rfl (ab_inv_of hmm (by first | decide | omega) (by omega) (by omega) ?_)))
    intro z2 σ2 hp2
    obtain ⟨hf2, ⟨x2, rfl⟩, t2, hM2⟩ := hp2
    have q572 := hM2.h57
    have hth := m_thrown hM2
    have h92 : σ2.2 319 = some (lgc u1) := (hf2.2 319 (by unfold mA; omega)).trans h91
    refine Exists.intro _ (And.intro (by first | assumption | exact st_s | exact st_e (by decide) (by assumption) | exact st_e (by omega) (by assumption) | exact st_e (by decide) st_s | exact st_e (by omega) st_s | exact st_e (by decide) (st_e (by decide) (by assumption)) | exact st_e (by omega) (st_e (by omega) (by assumption))) (And.intro rfl (ab_inv_ev hth (by first | decide | omega) (by first | exact Nat.le_refl _ | omega) (by first | exact Nat.le_refl _ | omega) ?_)))
    refine And.intro (fun q => ?_) (fun q => ?_)
    · refine hA 209 _ rfl _ _ _ _ _ ?_
      refine And.intro (show ab_R (((j : Nat) : Int) + 1) from rR (by omega) (by omega)) (And.intro (fun q => ?_) (fun q => ?_))
      · refine hA 212 _ rfl _ _ _ _ _ ?_
        exact hx _ _ _ _ _ _ _ _ ⟨cs_mA hC1 hf2, ⟨t2, hM2⟩, u1, h92⟩ (by show _ + 2100 * cc ≤ _ + 2100 * cc; omega) (by show _ + 110000 * cc ≤ _ + 110000 * cc; omega)
      · have q : ((j : Nat) : Int) + 1 = 0 := q
        omega
    · exact absurd rfl q
set_option maxRecDepth 100000 in
set_option maxHeartbeats 1000000 in
theorem c_ordered (hA : ab_ruleL N0 sc bL_law 30 601024 7293033 lwP At) (hsc : ∀ j, ab_R (sc j)) (hi : i + 6 ≤ N0) (hN : N0 < 100000) (hL : LI σ S r th) (hk : k + 2100 ≤ 601024) (hn : n + 110000 ≤ 7293033) (y5 y6 : Option ab_V) (hx : LNx At i S k n) : At 213 (LLs i y5 y6) [] σ k n := by
  obtain ⟨cc, rows, K, va, R, f, m9, pl, c⟩ := S
  obtain ⟨⟨ad, hC⟩, ⟨t, hM⟩, u9, h9⟩ := hL
  have h0 := hC.1
  have hc := h_ordered hC (sc (((i : Nat) : Int) + 1).toNat) (sc (((i : Nat) : Int) + 2).toNat) (hsc _) (hsc _) h9
  have hm := fun (σ1 : ab_H) (h1 : ∀ a, 57 ≤ a → a ≤ 318 → σ1.2 a = σ.2 a) => g_ordered (hM.keep h1) (sc (((i : Nat) : Int) + 1).toNat) (sc (((i : Nat) : Int) + 2).toNat) (hsc _) (hsc _)
  generalize ho : (stq (cc, rows, K, va, R, f, m9, pl, c) (sp_ordered cc rows K va (sc (((i : Nat) : Int) + 1).toNat) (sc (((i : Nat) : Int) + 2).toNat))) = o at hc hm
  have hcc : ∀ x S1, o = .inl (x, S1) → S1.1 = cc := fun x S1 h => by subst h; exact congrArg (fun S : St => S.1) (stq_l ho).2
  have hj : ∀ j, o = .inr j → j = 0 := fun j h => by
    subst h
    exact on_ordered (stq_i ho)
  clear ho
  skip
  refine hA 213 _ rfl _ _ _ _ _ ?_
  refine And.intro rfl (And.intro (And.intro (by omega) (fun N hN => by have hN := ab_Xs_n hN; omega)) (fun z hzR hz => ?_))
  have hz := ab_Xs_z hz
  subst hz
  refine And.intro rfl (And.intro (And.intro (by omega) (fun N hN => by have hN := ab_Xs_n hN; omega)) (fun z hzR hz => ?_))
  have hz := ab_Xs_z hz
  subst hz
  refine And.intro rfl (ab_invH_of hc (by first | decide | omega) (by omega) (by omega) ?_)
  intro z σ1 hp
  obtain ⟨hs1, hm1, u1, h91, hp⟩ := hp
  have q57 := (hM.keep hm1).h57
  have hmm := hm σ1 hm1
  rcases o with ⟨x, S1⟩ | j
  · obtain ⟨cc2, rows2, K2, va2, R2, f2, m2, pl2, c2⟩ := S1
    obtain ⟨rfl, hx1, hC1⟩ := hp
    have hcc : cc2 = cc := hcc _ _ rfl
    have hxR : ab_R (u1 0) := by rw [hx1]; exact ab_wr_R x
    have hxW := ab_wr_R x
    refine And.intro rfl (And.intro (And.intro (by omega) (fun N hN => by have hN := ab_Xs_n hN; omega)) (fun z hzR hz => ?_))
    have hz := ab_Xs_z hz
    subst hz
    refine And.intro rfl (And.intro (And.intro (by omega) (fun N hN => by have hN := ab_Xs_n hN; omega)) (fun z hzR hz => ?_))
    have hz := ab_Xs_z hz
    subst hz
    refine Exists.intro _ (And.intro (by first | assumption | exact st_s | exact st_e (by decide) (by assumption) | exact st_e (by omega) (by assumption) | exact st_e (by decide) st_s | exact st_e (by omega) st_s | exact st_e (by decide) (st_e (by decide) (by assumption)) | exact st_e (by omega) (st_e (by omega) (by assumption))) (And.intro rfl (ab_inv_of hmm (by first | decide | omega) (by omega) (by omega) ?_)))
    intro z2 σ2 hp2
    obtain ⟨hf2, rfl, t2, hM2⟩ := hp2
    have q572 := hM2.h57
    have hth := m_thrown hM2
    have h92 : σ2.2 319 = some (lgc u1) := (hf2.2 319 (by unfold mA; omega)).trans h91
    refine Exists.intro _ (And.intro (by first | assumption | exact st_s | exact st_e (by decide) (by assumption) | exact st_e (by omega) (by assumption) | exact st_e (by decide) st_s | exact st_e (by omega) st_s | exact st_e (by decide) (st_e (by decide) (by assumption)) | exact st_e (by omega) (st_e (by omega) (by assumption))) (And.intro rfl (ab_inv_ev hth (by first | decide | omega) (by first | exact Nat.le_refl _ | omega) (by first | exact Nat.le_refl _ | omega) ?_)))
    refine And.intro (fun q => ?_) (fun q => ?_)
    · refine hA 215 _ rfl _ _ _ _ _ ?_
      refine And.intro (by first | assumption | exact b2i_R _ | exact rR (by omega) (by omega) | exact rR (by simp only [Int.toNat_natCast]; omega) (by simp only [Int.toNat_natCast]; omega)) (And.intro (fun q => ?_) (fun q => ?_))
      · exact absurd rfl q
      · refine hA 216 _ rfl _ _ _ _ _ ?_
        refine Exists.intro _ (Exists.intro _ (And.intro (by first | assumption | exact st_s | exact st_e (by decide) (by assumption) | exact st_e (by omega) (by assumption) | exact st_e (by decide) st_s | exact st_e (by omega) st_s | exact st_e (by decide) (st_e (by decide) (by assumption)) | exact st_e (by omega) (st_e (by omega) (by assumption))) (And.intro (by first | omega | (simp only [Int.toNat_natCast]; omega)) ?_)))
        refine And.intro (And.intro (by first | assumption | exact b2i_R _ | exact rR (by omega) (by omega) | exact rR (by simp only [Int.toNat_natCast]; omega) (by simp only [Int.toNat_natCast]; omega)) (by first | assumption | exact b2i_R _ | exact rR (by omega) (by omega) | exact rR (by simp only [Int.toNat_natCast]; omega) (by simp only [Int.toNat_natCast]; omega))) (fun z hzR hz => ?_)
        refine And.intro (by first | assumption | exact b2i_R _ | exact rR (by omega) (by omega) | exact rR (by simp only [Int.toNat_natCast]; omega) (by simp only [Int.toNat_natCast]; omega)) (And.intro (fun q => ?_) (fun q => ?_))
        · refine hA 218 _ rfl _ _ _ _ _ ?_
          exact hx _ _ _ _ _ _ _ _ ⟨cs_mA hC1 hf2, ⟨t2, hM2⟩, u1, h92⟩ (by show _ + 2100 * cc ≤ _ + 2100 * cc2; omega) (by show _ + 110000 * cc ≤ _ + 110000 * cc2; omega)
        · exact absurd (hz.mpr hx1) q
    · exact absurd rfl q
  · obtain ⟨rfl, hC1⟩ := hp
    have hj := hj j rfl
    refine And.intro rfl (And.intro (And.intro (by omega) (fun N hN => by have hN := ab_Xs_n hN; omega)) (fun z hzR hz => ?_))
    have hz := ab_Xs_z hz
    subst hz
    refine And.intro rfl (And.intro (And.intro (by omega) (fun N hN => by have hN := ab_Xs_n hN; omega)) (fun z hzR hz => ?_))
    have hz := ab_Xs_z hz
    subst hz
    refine Exists.intro _ (And.intro (by first | assumption | exact st_s | exact st_e (by decide) (by assumption) | exact st_e (by omega) (by assumption) | exact st_e (by decide) st_s | exact st_e (by omega) st_s | exact st_e (by decide) (st_e (by decide) (by assumption)) | exact st_e (by omega) (st_e (by omega) (by assumption))) (And.intro rfl (ab_inv_of hmm (by first | decide | omega) (by omega) (by omega) ?_)))
    intro z2 σ2 hp2
    obtain ⟨hf2, ⟨x2, rfl⟩, t2, hM2⟩ := hp2
    have q572 := hM2.h57
    have hth := m_thrown hM2
    have h92 : σ2.2 319 = some (lgc u1) := (hf2.2 319 (by unfold mA; omega)).trans h91
    refine Exists.intro _ (And.intro (by first | assumption | exact st_s | exact st_e (by decide) (by assumption) | exact st_e (by omega) (by assumption) | exact st_e (by decide) st_s | exact st_e (by omega) st_s | exact st_e (by decide) (st_e (by decide) (by assumption)) | exact st_e (by omega) (st_e (by omega) (by assumption))) (And.intro rfl (ab_inv_ev hth (by first | decide | omega) (by first | exact Nat.le_refl _ | omega) (by first | exact Nat.le_refl _ | omega) ?_)))
    refine And.intro (fun q => ?_) (fun q => ?_)
    · refine hA 215 _ rfl _ _ _ _ _ ?_
      refine And.intro (show ab_R (((j : Nat) : Int) + 1) from rR (by omega) (by omega)) (And.intro (fun q => ?_) (fun q => ?_))
      · refine hA 218 _ rfl _ _ _ _ _ ?_
        exact hx _ _ _ _ _ _ _ _ ⟨cs_mA hC1 hf2, ⟨t2, hM2⟩, u1, h92⟩ (by show _ + 2100 * cc ≤ _ + 2100 * cc; omega) (by show _ + 110000 * cc ≤ _ + 110000 * cc; omega)
      · have q : ((j : Nat) : Int) + 1 = 0 := q
        omega
    · exact absurd rfl q
set_option maxRecDepth 100000 in
set_option maxHeartbeats 1000000 in
theorem c_readings (hA : ab_ruleL N0 sc bL_law 30 601024 7293033 lwP At) (hsc : ∀ j, ab_R (sc j)) (hi : i + 6 ≤ N0) (hN : N0 < 100000) (hL : LI σ S r th) (hk : k + 2100 ≤ 601024) (hn : n + 110000 ≤ 7293033) (y5 y6 : Option ab_V) (hx : LNx At i S k n) : At 219 (LLs i y5 y6) [] σ k n := by
  obtain ⟨cc, rows, K, va, R, f, m9, pl, c⟩ := S
  obtain ⟨⟨ad, hC⟩, ⟨t, hM⟩, u9, h9⟩ := hL
  have h0 := hC.1
  have hc := h_readings hC (sc (((i : Nat) : Int) + 1).toNat) (sc (((i : Nat) : Int) + 2).toNat) (hsc _) (hsc _) h9
  have hm := fun (σ1 : ab_H) (h1 : ∀ a, 57 ≤ a → a ≤ 318 → σ1.2 a = σ.2 a) => g_readings (hM.keep h1) (sc (((i : Nat) : Int) + 1).toNat) (sc (((i : Nat) : Int) + 2).toNat) (hsc _) (hsc _)
  generalize ho : (stq (cc, rows, K, va, R, f, m9, pl, c) (sp_readings cc K (sc (((i : Nat) : Int) + 1).toNat) (sc (((i : Nat) : Int) + 2).toNat))) = o at hc hm
  have hcc : ∀ x S1, o = .inl (x, S1) → S1.1 = cc := fun x S1 h => by subst h; exact congrArg (fun S : St => S.1) (stq_l ho).2
  have hj : ∀ j, o = .inr j → j = 0 ∨ j = 1 := fun j h => by
    subst h
    exact on_readings (stq_i ho)
  clear ho
  skip
  refine hA 219 _ rfl _ _ _ _ _ ?_
  refine And.intro rfl (And.intro (And.intro (by omega) (fun N hN => by have hN := ab_Xs_n hN; omega)) (fun z hzR hz => ?_))
  have hz := ab_Xs_z hz
  subst hz
  refine And.intro rfl (And.intro (And.intro (by omega) (fun N hN => by have hN := ab_Xs_n hN; omega)) (fun z hzR hz => ?_))
  have hz := ab_Xs_z hz
  subst hz
  refine And.intro rfl (ab_invH_of hc (by first | decide | omega) (by omega) (by omega) ?_)
  intro z σ1 hp
  obtain ⟨hs1, hm1, u1, h91, hp⟩ := hp
  have q57 := (hM.keep hm1).h57
  have hmm := hm σ1 hm1
  rcases o with ⟨x, S1⟩ | j
  · obtain ⟨cc2, rows2, K2, va2, R2, f2, m2, pl2, c2⟩ := S1
    obtain ⟨rfl, hx1, hC1⟩ := hp
    have hcc : cc2 = cc := hcc _ _ rfl
    have hxR : ab_R (u1 0) := by rw [hx1]; exact ab_wr_R x
    have hxW := ab_wr_R x
    refine And.intro rfl (And.intro (And.intro (by omega) (fun N hN => by have hN := ab_Xs_n hN; omega)) (fun z hzR hz => ?_))
    have hz := ab_Xs_z hz
    subst hz
    refine And.intro rfl (And.intro (And.intro (by omega) (fun N hN => by have hN := ab_Xs_n hN; omega)) (fun z hzR hz => ?_))
    have hz := ab_Xs_z hz
    subst hz
    refine Exists.intro _ (And.intro (by first | assumption | exact st_s | exact st_e (by decide) (by assumption) | exact st_e (by omega) (by assumption) | exact st_e (by decide) st_s | exact st_e (by omega) st_s | exact st_e (by decide) (st_e (by decide) (by assumption)) | exact st_e (by omega) (st_e (by omega) (by assumption))) (And.intro rfl (ab_inv_of hmm (by first | decide | omega) (by omega) (by omega) ?_)))
    intro z2 σ2 hp2
    obtain ⟨hf2, rfl, t2, hM2⟩ := hp2
    have q572 := hM2.h57
    have hth := m_thrown hM2
    have h92 : σ2.2 319 = some (lgc u1) := (hf2.2 319 (by unfold mA; omega)).trans h91
    refine Exists.intro _ (And.intro (by first | assumption | exact st_s | exact st_e (by decide) (by assumption) | exact st_e (by omega) (by assumption) | exact st_e (by decide) st_s | exact st_e (by omega) st_s | exact st_e (by decide) (st_e (by decide) (by assumption)) | exact st_e (by omega) (st_e (by omega) (by assumption))) (And.intro rfl (ab_inv_ev hth (by first | decide | omega) (by first | exact Nat.le_refl _ | omega) (by first | exact Nat.le_refl _ | omega) ?_)))
    refine And.intro (fun q => ?_) (fun q => ?_)
    · refine hA 221 _ rfl _ _ _ _ _ ?_
      refine And.intro (by first | assumption | exact b2i_R _ | exact rR (by omega) (by omega) | exact rR (by simp only [Int.toNat_natCast]; omega) (by simp only [Int.toNat_natCast]; omega)) (And.intro (fun q => ?_) (fun q => ?_))
      · exact absurd rfl q
      · refine hA 222 _ rfl _ _ _ _ _ ?_
        refine Exists.intro _ (Exists.intro _ (And.intro (by first | assumption | exact st_s | exact st_e (by decide) (by assumption) | exact st_e (by omega) (by assumption) | exact st_e (by decide) st_s | exact st_e (by omega) st_s | exact st_e (by decide) (st_e (by decide) (by assumption)) | exact st_e (by omega) (st_e (by omega) (by assumption))) (And.intro (by first | omega | (simp only [Int.toNat_natCast]; omega)) ?_)))
        refine And.intro (And.intro (by first | assumption | exact b2i_R _ | exact rR (by omega) (by omega) | exact rR (by simp only [Int.toNat_natCast]; omega) (by simp only [Int.toNat_natCast]; omega)) (by first | assumption | exact b2i_R _ | exact rR (by omega) (by omega) | exact rR (by simp only [Int.toNat_natCast]; omega) (by simp only [Int.toNat_natCast]; omega))) (fun z hzR hz => ?_)
        refine And.intro (by first | assumption | exact b2i_R _ | exact rR (by omega) (by omega) | exact rR (by simp only [Int.toNat_natCast]; omega) (by simp only [Int.toNat_natCast]; omega)) (And.intro (fun q => ?_) (fun q => ?_))
        · refine hA 224 _ rfl _ _ _ _ _ ?_
          exact hx _ _ _ _ _ _ _ _ ⟨cs_mA hC1 hf2, ⟨t2, hM2⟩, u1, h92⟩ (by show _ + 2100 * cc ≤ _ + 2100 * cc2; omega) (by show _ + 110000 * cc ≤ _ + 110000 * cc2; omega)
        · exact absurd (hz.mpr hx1) q
    · exact absurd rfl q
  · obtain ⟨rfl, hC1⟩ := hp
    have hj := hj j rfl
    refine And.intro rfl (And.intro (And.intro (by omega) (fun N hN => by have hN := ab_Xs_n hN; omega)) (fun z hzR hz => ?_))
    have hz := ab_Xs_z hz
    subst hz
    refine And.intro rfl (And.intro (And.intro (by omega) (fun N hN => by have hN := ab_Xs_n hN; omega)) (fun z hzR hz => ?_))
    have hz := ab_Xs_z hz
    subst hz
    refine Exists.intro _ (And.intro (by first | assumption | exact st_s | exact st_e (by decide) (by assumption) | exact st_e (by omega) (by assumption) | exact st_e (by decide) st_s | exact st_e (by omega) st_s | exact st_e (by decide) (st_e (by decide) (by assumption)) | exact st_e (by omega) (st_e (by omega) (by assumption))) (And.intro rfl (ab_inv_of hmm (by first | decide | omega) (by omega) (by omega) ?_)))
    intro z2 σ2 hp2
    obtain ⟨hf2, ⟨x2, rfl⟩, t2, hM2⟩ := hp2
    have q572 := hM2.h57
    have hth := m_thrown hM2
    have h92 : σ2.2 319 = some (lgc u1) := (hf2.2 319 (by unfold mA; omega)).trans h91
    refine Exists.intro _ (And.intro (by first | assumption | exact st_s | exact st_e (by decide) (by assumption) | exact st_e (by omega) (by assumption) | exact st_e (by decide) st_s | exact st_e (by omega) st_s | exact st_e (by decide) (st_e (by decide) (by assumption)) | exact st_e (by omega) (st_e (by omega) (by assumption))) (And.intro rfl (ab_inv_ev hth (by first | decide | omega) (by first | exact Nat.le_refl _ | omega) (by first | exact Nat.le_refl _ | omega) ?_)))
    refine And.intro (fun q => ?_) (fun q => ?_)
    · refine hA 221 _ rfl _ _ _ _ _ ?_
      refine And.intro (show ab_R (((j : Nat) : Int) + 1) from rR (by omega) (by omega)) (And.intro (fun q => ?_) (fun q => ?_))
      · refine hA 224 _ rfl _ _ _ _ _ ?_
        exact hx _ _ _ _ _ _ _ _ ⟨cs_mA hC1 hf2, ⟨t2, hM2⟩, u1, h92⟩ (by show _ + 2100 * cc ≤ _ + 2100 * cc; omega) (by show _ + 110000 * cc ≤ _ + 110000 * cc; omega)
      · have q : ((j : Nat) : Int) + 1 = 0 := q
        omega
    · exact absurd rfl q
set_option maxRecDepth 100000 in
set_option maxHeartbeats 1000000 in
theorem c_thrift (hA : ab_ruleL N0 sc bL_law 30 601024 7293033 lwP At) (hsc : ∀ j, ab_R (sc j)) (hi : i + 6 ≤ N0) (hN : N0 < 100000) (hL : LI σ S r th) (hk : k + 2100 ≤ 601024) (hn : n + 110000 ≤ 7293033) (y5 y6 : Option ab_V) (hx : LNx At i S k n) : At 225 (LLs i y5 y6) [] σ k n := by
  obtain ⟨cc, rows, K, va, R, f, m9, pl, c⟩ := S
  obtain ⟨⟨ad, hC⟩, ⟨t, hM⟩, u9, h9⟩ := hL
  have h0 := hC.1
  have hc := h_thrift hC (sc (((i : Nat) : Int) + 1).toNat) (sc (((i : Nat) : Int) + 2).toNat) (sc (((i : Nat) : Int) + 3).toNat) (hsc _) (hsc _) (hsc _) h9
  have hm := fun (σ1 : ab_H) (h1 : ∀ a, 57 ≤ a → a ≤ 318 → σ1.2 a = σ.2 a) => g_thrift (hM.keep h1) (sc (((i : Nat) : Int) + 1).toNat) (sc (((i : Nat) : Int) + 2).toNat) (sc (((i : Nat) : Int) + 3).toNat) (hsc _) (hsc _) (hsc _)
  generalize ho : (stq (cc, rows, K, va, R, f, m9, pl, c) (sp_thrift (sc (((i : Nat) : Int) + 1).toNat) (sc (((i : Nat) : Int) + 2).toNat) (sc (((i : Nat) : Int) + 3).toNat))) = o at hc hm
  have hcc : ∀ x S1, o = .inl (x, S1) → S1.1 = cc := fun x S1 h => by subst h; exact congrArg (fun S : St => S.1) (stq_l ho).2
  have hj : ∀ j, o = .inr j → j = 1 := fun j h => by
    subst h
    exact on_thrift (stq_i ho)
  clear ho
  skip
  refine hA 225 _ rfl _ _ _ _ _ ?_
  refine And.intro rfl (And.intro (And.intro (by omega) (fun N hN => by have hN := ab_Xs_n hN; omega)) (fun z hzR hz => ?_))
  have hz := ab_Xs_z hz
  subst hz
  refine And.intro rfl (And.intro (And.intro (by omega) (fun N hN => by have hN := ab_Xs_n hN; omega)) (fun z hzR hz => ?_))
  have hz := ab_Xs_z hz
  subst hz
  refine And.intro rfl (And.intro (And.intro (by omega) (fun N hN => by have hN := ab_Xs_n hN; omega)) (fun z hzR hz => ?_))
  have hz := ab_Xs_z hz
  subst hz
  refine And.intro rfl (ab_invH_of hc (by first | decide | omega) (by omega) (by omega) ?_)
  intro z σ1 hp
  obtain ⟨hs1, hm1, u1, h91, hp⟩ := hp
  have q57 := (hM.keep hm1).h57
  have hmm := hm σ1 hm1
  rcases o with ⟨x, S1⟩ | j
  · obtain ⟨cc2, rows2, K2, va2, R2, f2, m2, pl2, c2⟩ := S1
    obtain ⟨rfl, hx1, hC1⟩ := hp
    have hcc : cc2 = cc := hcc _ _ rfl
    have hxR : ab_R (u1 0) := by rw [hx1]; exact ab_wr_R x
    have hxW := ab_wr_R x
    refine And.intro rfl (And.intro (And.intro (by omega) (fun N hN => by have hN := ab_Xs_n hN; omega)) (fun z hzR hz => ?_))
    have hz := ab_Xs_z hz
    subst hz
    refine And.intro rfl (And.intro (And.intro (by omega) (fun N hN => by have hN := ab_Xs_n hN; omega)) (fun z hzR hz => ?_))
    have hz := ab_Xs_z hz
    subst hz
    refine And.intro rfl (And.intro (And.intro (by omega) (fun N hN => by have hN := ab_Xs_n hN; omega)) (fun z hzR hz => ?_))
    have hz := ab_Xs_z hz
    subst hz
    refine Exists.intro _ (And.intro (by first | assumption | exact st_s | exact st_e (by decide) (by assumption) | exact st_e (by omega) (by assumption) | exact st_e (by decide) st_s | exact st_e (by omega) st_s | exact st_e (by decide) (st_e (by decide) (by assumption)) | exact st_e (by omega) (st_e (by omega) (by assumption))) (And.intro rfl (ab_inv_of hmm (by first | decide | omega) (by omega) (by omega) ?_)))
    intro z2 σ2 hp2
    obtain ⟨hf2, rfl, t2, hM2⟩ := hp2
    have q572 := hM2.h57
    have hth := m_thrown hM2
    have h92 : σ2.2 319 = some (lgc u1) := (hf2.2 319 (by unfold mA; omega)).trans h91
    refine Exists.intro _ (And.intro (by first | assumption | exact st_s | exact st_e (by decide) (by assumption) | exact st_e (by omega) (by assumption) | exact st_e (by decide) st_s | exact st_e (by omega) st_s | exact st_e (by decide) (st_e (by decide) (by assumption)) | exact st_e (by omega) (st_e (by omega) (by assumption))) (And.intro rfl (ab_inv_ev hth (by first | decide | omega) (by first | exact Nat.le_refl _ | omega) (by first | exact Nat.le_refl _ | omega) ?_)))
    refine And.intro (fun q => ?_) (fun q => ?_)
    · refine hA 227 _ rfl _ _ _ _ _ ?_
      refine And.intro (by first | assumption | exact b2i_R _ | exact rR (by omega) (by omega) | exact rR (by simp only [Int.toNat_natCast]; omega) (by simp only [Int.toNat_natCast]; omega)) (And.intro (fun q => ?_) (fun q => ?_))
      · exact absurd rfl q
      · refine hA 228 _ rfl _ _ _ _ _ ?_
        refine Exists.intro _ (Exists.intro _ (And.intro (by first | assumption | exact st_s | exact st_e (by decide) (by assumption) | exact st_e (by omega) (by assumption) | exact st_e (by decide) st_s | exact st_e (by omega) st_s | exact st_e (by decide) (st_e (by decide) (by assumption)) | exact st_e (by omega) (st_e (by omega) (by assumption))) (And.intro (by first | omega | (simp only [Int.toNat_natCast]; omega)) ?_)))
        refine And.intro (And.intro (by first | assumption | exact b2i_R _ | exact rR (by omega) (by omega) | exact rR (by simp only [Int.toNat_natCast]; omega) (by simp only [Int.toNat_natCast]; omega)) (by first | assumption | exact b2i_R _ | exact rR (by omega) (by omega) | exact rR (by simp only [Int.toNat_natCast]; omega) (by simp only [Int.toNat_natCast]; omega))) (fun z hzR hz => ?_)
        refine And.intro (by first | assumption | exact b2i_R _ | exact rR (by omega) (by omega) | exact rR (by simp only [Int.toNat_natCast]; omega) (by simp only [Int.toNat_natCast]; omega)) (And.intro (fun q => ?_) (fun q => ?_))
        · refine hA 230 _ rfl _ _ _ _ _ ?_
          exact hx _ _ _ _ _ _ _ _ ⟨cs_mA hC1 hf2, ⟨t2, hM2⟩, u1, h92⟩ (by show _ + 2100 * cc ≤ _ + 2100 * cc2; omega) (by show _ + 110000 * cc ≤ _ + 110000 * cc2; omega)
        · exact absurd (hz.mpr hx1) q
    · exact absurd rfl q
  · obtain ⟨rfl, hC1⟩ := hp
    have hj := hj j rfl
    refine And.intro rfl (And.intro (And.intro (by omega) (fun N hN => by have hN := ab_Xs_n hN; omega)) (fun z hzR hz => ?_))
    have hz := ab_Xs_z hz
    subst hz
    refine And.intro rfl (And.intro (And.intro (by omega) (fun N hN => by have hN := ab_Xs_n hN; omega)) (fun z hzR hz => ?_))
    have hz := ab_Xs_z hz
    subst hz
    refine And.intro rfl (And.intro (And.intro (by omega) (fun N hN => by have hN := ab_Xs_n hN; omega)) (fun z hzR hz => ?_))
    have hz := ab_Xs_z hz
    subst hz
    refine Exists.intro _ (And.intro (by first | assumption | exact st_s | exact st_e (by decide) (by assumption) | exact st_e (by omega) (by assumption) | exact st_e (by decide) st_s | exact st_e (by omega) st_s | exact st_e (by decide) (st_e (by decide) (by assumption)) | exact st_e (by omega) (st_e (by omega) (by assumption))) (And.intro rfl (ab_inv_of hmm (by first | decide | omega) (by omega) (by omega) ?_)))
    intro z2 σ2 hp2
    obtain ⟨hf2, ⟨x2, rfl⟩, t2, hM2⟩ := hp2
    have q572 := hM2.h57
    have hth := m_thrown hM2
    have h92 : σ2.2 319 = some (lgc u1) := (hf2.2 319 (by unfold mA; omega)).trans h91
    refine Exists.intro _ (And.intro (by first | assumption | exact st_s | exact st_e (by decide) (by assumption) | exact st_e (by omega) (by assumption) | exact st_e (by decide) st_s | exact st_e (by omega) st_s | exact st_e (by decide) (st_e (by decide) (by assumption)) | exact st_e (by omega) (st_e (by omega) (by assumption))) (And.intro rfl (ab_inv_ev hth (by first | decide | omega) (by first | exact Nat.le_refl _ | omega) (by first | exact Nat.le_refl _ | omega) ?_)))
    refine And.intro (fun q => ?_) (fun q => ?_)
    · refine hA 227 _ rfl _ _ _ _ _ ?_
      refine And.intro (show ab_R (((j : Nat) : Int)) from rR (by omega) (by omega)) (And.intro (fun q => ?_) (fun q => ?_))
      · refine hA 230 _ rfl _ _ _ _ _ ?_
        exact hx _ _ _ _ _ _ _ _ ⟨cs_mA hC1 hf2, ⟨t2, hM2⟩, u1, h92⟩ (by show _ + 2100 * cc ≤ _ + 2100 * cc; omega) (by show _ + 110000 * cc ≤ _ + 110000 * cc; omega)
      · have q : ((j : Nat) : Int) = 0 := q
        omega
    · exact absurd rfl q
set_option maxRecDepth 100000 in
set_option maxHeartbeats 1000000 in
theorem c_swift (hA : ab_ruleL N0 sc bL_law 30 601024 7293033 lwP At) (hsc : ∀ j, ab_R (sc j)) (hi : i + 6 ≤ N0) (hN : N0 < 100000) (hL : LI σ S r th) (hk : k + 2100 ≤ 601024) (hn : n + 110000 ≤ 7293033) (y5 y6 : Option ab_V) (hx : LNx At i S k n) : At 231 (LLs i y5 y6) [] σ k n := by
  obtain ⟨cc, rows, K, va, R, f, m9, pl, c⟩ := S
  obtain ⟨⟨ad, hC⟩, ⟨t, hM⟩, u9, h9⟩ := hL
  have h0 := hC.1
  have hc := h_swift hC (sc (((i : Nat) : Int) + 1).toNat) (sc (((i : Nat) : Int) + 2).toNat) (sc (((i : Nat) : Int) + 3).toNat) (hsc _) (hsc _) (hsc _) h9
  have hm := fun (σ1 : ab_H) (h1 : ∀ a, 57 ≤ a → a ≤ 318 → σ1.2 a = σ.2 a) => g_swift (hM.keep h1) (sc (((i : Nat) : Int) + 1).toNat) (sc (((i : Nat) : Int) + 2).toNat) (sc (((i : Nat) : Int) + 3).toNat) (hsc _) (hsc _) (hsc _)
  generalize ho : (stq (cc, rows, K, va, R, f, m9, pl, c) (sp_swift (sc (((i : Nat) : Int) + 1).toNat) (sc (((i : Nat) : Int) + 2).toNat) (sc (((i : Nat) : Int) + 3).toNat))) = o at hc hm
  have hcc : ∀ x S1, o = .inl (x, S1) → S1.1 = cc := fun x S1 h => by subst h; exact congrArg (fun S : St => S.1) (stq_l ho).2
  have hj : ∀ j, o = .inr j → j = 1 := fun j h => by
    subst h
    exact on_swift (stq_i ho)
  clear ho
  skip
  refine hA 231 _ rfl _ _ _ _ _ ?_
  refine And.intro rfl (And.intro (And.intro (by omega) (fun N hN => by have hN := ab_Xs_n hN; omega)) (fun z hzR hz => ?_))
  have hz := ab_Xs_z hz
  subst hz
  refine And.intro rfl (And.intro (And.intro (by omega) (fun N hN => by have hN := ab_Xs_n hN; omega)) (fun z hzR hz => ?_))
  have hz := ab_Xs_z hz
  subst hz
  refine And.intro rfl (And.intro (And.intro (by omega) (fun N hN => by have hN := ab_Xs_n hN; omega)) (fun z hzR hz => ?_))
  have hz := ab_Xs_z hz
  subst hz
  refine And.intro rfl (ab_invH_of hc (by first | decide | omega) (by omega) (by omega) ?_)
  intro z σ1 hp
  obtain ⟨hs1, hm1, u1, h91, hp⟩ := hp
  have q57 := (hM.keep hm1).h57
  have hmm := hm σ1 hm1
  rcases o with ⟨x, S1⟩ | j
  · obtain ⟨cc2, rows2, K2, va2, R2, f2, m2, pl2, c2⟩ := S1
    obtain ⟨rfl, hx1, hC1⟩ := hp
    have hcc : cc2 = cc := hcc _ _ rfl
    have hxR : ab_R (u1 0) := by rw [hx1]; exact ab_wr_R x
    have hxW := ab_wr_R x
    refine And.intro rfl (And.intro (And.intro (by omega) (fun N hN => by have hN := ab_Xs_n hN; omega)) (fun z hzR hz => ?_))
    have hz := ab_Xs_z hz
    subst hz
    refine And.intro rfl (And.intro (And.intro (by omega) (fun N hN => by have hN := ab_Xs_n hN; omega)) (fun z hzR hz => ?_))
    have hz := ab_Xs_z hz
    subst hz
    refine And.intro rfl (And.intro (And.intro (by omega) (fun N hN => by have hN := ab_Xs_n hN; omega)) (fun z hzR hz => ?_))
    have hz := ab_Xs_z hz
    subst hz
    refine Exists.intro _ (And.intro (by first | assumption | exact st_s | exact st_e (by decide) (by assumption) | exact st_e (by omega) (by assumption) | exact st_e (by decide) st_s | exact st_e (by omega) st_s | exact st_e (by decide) (st_e (by decide) (by assumption)) | exact st_e (by omega) (st_e (by omega) (by assumption))) (And.intro rfl (ab_inv_of hmm (by first | decide | omega) (by omega) (by omega) ?_)))
    intro z2 σ2 hp2
    obtain ⟨hf2, rfl, t2, hM2⟩ := hp2
    have q572 := hM2.h57
    have hth := m_thrown hM2
    have h92 : σ2.2 319 = some (lgc u1) := (hf2.2 319 (by unfold mA; omega)).trans h91
    refine Exists.intro _ (And.intro (by first | assumption | exact st_s | exact st_e (by decide) (by assumption) | exact st_e (by omega) (by assumption) | exact st_e (by decide) st_s | exact st_e (by omega) st_s | exact st_e (by decide) (st_e (by decide) (by assumption)) | exact st_e (by omega) (st_e (by omega) (by assumption))) (And.intro rfl (ab_inv_ev hth (by first | decide | omega) (by first | exact Nat.le_refl _ | omega) (by first | exact Nat.le_refl _ | omega) ?_)))
    refine And.intro (fun q => ?_) (fun q => ?_)
    · refine hA 233 _ rfl _ _ _ _ _ ?_
      refine And.intro (by first | assumption | exact b2i_R _ | exact rR (by omega) (by omega) | exact rR (by simp only [Int.toNat_natCast]; omega) (by simp only [Int.toNat_natCast]; omega)) (And.intro (fun q => ?_) (fun q => ?_))
      · exact absurd rfl q
      · refine hA 234 _ rfl _ _ _ _ _ ?_
        refine Exists.intro _ (Exists.intro _ (And.intro (by first | assumption | exact st_s | exact st_e (by decide) (by assumption) | exact st_e (by omega) (by assumption) | exact st_e (by decide) st_s | exact st_e (by omega) st_s | exact st_e (by decide) (st_e (by decide) (by assumption)) | exact st_e (by omega) (st_e (by omega) (by assumption))) (And.intro (by first | omega | (simp only [Int.toNat_natCast]; omega)) ?_)))
        refine And.intro (And.intro (by first | assumption | exact b2i_R _ | exact rR (by omega) (by omega) | exact rR (by simp only [Int.toNat_natCast]; omega) (by simp only [Int.toNat_natCast]; omega)) (by first | assumption | exact b2i_R _ | exact rR (by omega) (by omega) | exact rR (by simp only [Int.toNat_natCast]; omega) (by simp only [Int.toNat_natCast]; omega))) (fun z hzR hz => ?_)
        refine And.intro (by first | assumption | exact b2i_R _ | exact rR (by omega) (by omega) | exact rR (by simp only [Int.toNat_natCast]; omega) (by simp only [Int.toNat_natCast]; omega)) (And.intro (fun q => ?_) (fun q => ?_))
        · refine hA 236 _ rfl _ _ _ _ _ ?_
          exact hx _ _ _ _ _ _ _ _ ⟨cs_mA hC1 hf2, ⟨t2, hM2⟩, u1, h92⟩ (by show _ + 2100 * cc ≤ _ + 2100 * cc2; omega) (by show _ + 110000 * cc ≤ _ + 110000 * cc2; omega)
        · exact absurd (hz.mpr hx1) q
    · exact absurd rfl q
  · obtain ⟨rfl, hC1⟩ := hp
    have hj := hj j rfl
    refine And.intro rfl (And.intro (And.intro (by omega) (fun N hN => by have hN := ab_Xs_n hN; omega)) (fun z hzR hz => ?_))
    have hz := ab_Xs_z hz
    subst hz
    refine And.intro rfl (And.intro (And.intro (by omega) (fun N hN => by have hN := ab_Xs_n hN; omega)) (fun z hzR hz => ?_))
    have hz := ab_Xs_z hz
    subst hz
    refine And.intro rfl (And.intro (And.intro (by omega) (fun N hN => by have hN := ab_Xs_n hN; omega)) (fun z hzR hz => ?_))
    have hz := ab_Xs_z hz
    subst hz
    refine Exists.intro _ (And.intro (by first | assumption | exact st_s | exact st_e (by decide) (by assumption) | exact st_e (by omega) (by assumption) | exact st_e (by decide) st_s | exact st_e (by omega) st_s | exact st_e (by decide) (st_e (by decide) (by assumption)) | exact st_e (by omega) (st_e (by omega) (by assumption))) (And.intro rfl (ab_inv_of hmm (by first | decide | omega) (by omega) (by omega) ?_)))
    intro z2 σ2 hp2
    obtain ⟨hf2, ⟨x2, rfl⟩, t2, hM2⟩ := hp2
    have q572 := hM2.h57
    have hth := m_thrown hM2
    have h92 : σ2.2 319 = some (lgc u1) := (hf2.2 319 (by unfold mA; omega)).trans h91
    refine Exists.intro _ (And.intro (by first | assumption | exact st_s | exact st_e (by decide) (by assumption) | exact st_e (by omega) (by assumption) | exact st_e (by decide) st_s | exact st_e (by omega) st_s | exact st_e (by decide) (st_e (by decide) (by assumption)) | exact st_e (by omega) (st_e (by omega) (by assumption))) (And.intro rfl (ab_inv_ev hth (by first | decide | omega) (by first | exact Nat.le_refl _ | omega) (by first | exact Nat.le_refl _ | omega) ?_)))
    refine And.intro (fun q => ?_) (fun q => ?_)
    · refine hA 233 _ rfl _ _ _ _ _ ?_
      refine And.intro (show ab_R (((j : Nat) : Int)) from rR (by omega) (by omega)) (And.intro (fun q => ?_) (fun q => ?_))
      · refine hA 236 _ rfl _ _ _ _ _ ?_
        exact hx _ _ _ _ _ _ _ _ ⟨cs_mA hC1 hf2, ⟨t2, hM2⟩, u1, h92⟩ (by show _ + 2100 * cc ≤ _ + 2100 * cc; omega) (by show _ + 110000 * cc ≤ _ + 110000 * cc; omega)
      · have q : ((j : Nat) : Int) = 0 := q
        omega
    · exact absurd rfl q
set_option maxRecDepth 100000 in
set_option maxHeartbeats 1000000 in
theorem c_status (hA : ab_ruleL N0 sc bL_law 30 601024 7293033 lwP At) (hsc : ∀ j, ab_R (sc j)) (hi : i + 6 ≤ N0) (hN : N0 < 100000) (hL : LI σ S r th) (hk : k + 2100 ≤ 601024) (hn : n + 110000 ≤ 7293033) (y5 y6 : Option ab_V) (hx : LNx At i S k n) : At 237 (LLs i y5 y6) [] σ k n := by
  obtain ⟨cc, rows, K, va, R, f, m9, pl, c⟩ := S
  obtain ⟨⟨ad, hC⟩, ⟨t, hM⟩, u9, h9⟩ := hL
  have h0 := hC.1
  have hs := hC.s
  have hc := ab_call_mono (f_status hC (sc (((i : Nat) : Int) + 1).toNat) (hsc _)) (fun _ _ h => pure_st h)
  have hm := fun (σ1 : ab_H) (h1 : ∀ a, 57 ≤ a → a ≤ 318 → σ1.2 a = σ.2 a) => g_status (hM.keep h1) (sc (((i : Nat) : Int) + 1).toNat) (hsc _)
  generalize ho : (stq (cc, rows, K, va, R, f, m9, pl, c) (sp_status r (sc (((i : Nat) : Int) + 1).toNat))) = o at hc hm
  have hcc : ∀ x S1, o = .inl (x, S1) → S1.1 = cc := fun x S1 h => by subst h; exact congrArg (fun S : St => S.1) (stq_l ho).2
  have hno : ∀ j, o = .inr j → False := fun j h => by
    subst h
    have h := stq_i ho
    unfold sp_status at h
    repeat' split at h
    all_goals cases h
  clear ho
  skip
  refine hA 237 _ rfl _ _ _ _ _ ?_
  refine And.intro rfl (And.intro (And.intro (by omega) (fun N hN => by have hN := ab_Xs_n hN; omega)) (fun z hzR hz => ?_))
  have hz := ab_Xs_z hz
  subst hz
  refine Exists.intro _ (And.intro (by first | assumption | exact st_s | exact st_e (by decide) (by assumption) | exact st_e (by omega) (by assumption) | exact st_e (by decide) st_s | exact st_e (by omega) st_s | exact st_e (by decide) (st_e (by decide) (by assumption)) | exact st_e (by omega) (st_e (by omega) (by assumption))) (And.intro rfl (ab_inv_of hc (by first | decide | omega) (by omega) (by omega) ?_)))
  intro z σ1 hp
  obtain ⟨hg, hp⟩ := hp
  have h91 : σ1.2 319 = some (lgc u9) := (hg.2 319 (by omega) (by unfold fcA; omega)).trans h9
  have hm1 : ∀ a, 57 ≤ a → a ≤ 318 → σ1.2 a = σ.2 a := fun a h1 h2 => hg.2 a (by omega) (by unfold fcA; omega)
  have q57 := (hM.keep hm1).h57
  have hmm := hm σ1 hm1
  rcases o with ⟨x, S1⟩ | j
  · obtain ⟨cc2, rows2, K2, va2, R2, f2, m2, pl2, c2⟩ := S1
    obtain ⟨rfl, hC1⟩ := hp
    have hcc : cc2 = cc := hcc _ _ rfl
    refine And.intro rfl (And.intro (And.intro (by omega) (fun N hN => by have hN := ab_Xs_n hN; omega)) (fun z hzR hz => ?_))
    have hz := ab_Xs_z hz
    subst hz
    refine Exists.intro _ (And.intro (by first | assumption | exact st_s | exact st_e (by decide) (by assumption) | exact st_e (by omega) (by assumption) | exact st_e (by decide) st_s | exact st_e (by omega) st_s | exact st_e (by decide) (st_e (by decide) (by assumption)) | exact st_e (by omega) (st_e (by omega) (by assumption))) (And.intro rfl (ab_inv_of hmm (by first | decide | omega) (by omega) (by omega) ?_)))
    intro z2 σ2 hp2
    obtain ⟨hf2, rfl, t2, hM2⟩ := hp2
    have h92 : σ2.2 319 = some (lgc u9) := (hf2.2 319 (by unfold mA; omega)).trans h91
    refine And.intro (fun q => ?_) (fun q => ?_)
    · exact hx _ _ _ _ _ _ _ _ ⟨cs_mA hC1 hf2, ⟨t2, hM2⟩, u9, h92⟩ (by show _ + 2100 * cc ≤ _ + 2100 * cc2; omega) (by show _ + 110000 * cc ≤ _ + 110000 * cc2; omega)
    · exact absurd rfl q
  · exact (hno j rfl).elim
end Law
