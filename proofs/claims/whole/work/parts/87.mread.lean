-- ===== the model: reading =====
/-- where a reading of the model stands -/
def MT (t : Nat → Int) (f : Nat → Int) (len : Nat) (s : S2) : Prop := t 3 = len ∧ match s with
  | .inl (u, v) => u ≠ 0 ∧ ab_R u ∧ t 6 = u ∧ t 7 = v ∧ ∃ x : Nat, x ≤ len ∧ t 4 = x
  | .inr a => a ≤ len ∧ t 6 = 0 ∧ t 7 = -1 ∧ ∃ x : Nat, x ≤ len ∧ skB f len x = skB f len a ∧ t 4 = x
/-- what a reading leaves -/
def MU (t t' : Nat → Int) : Prop := ∀ j, j ≠ 4 → j ≠ 6 → j ≠ 7 → t' j = t j
theorem MU.rf (t : Nat → Int) : MU t t := fun _ _ _ _ => rfl
theorem MU.tr {t u v : Nat → Int} (h : MU t u) (k : MU u v) : MU t v := fun j h1 h2 h3 => (k j h1 h2 h3).trans (h j h1 h2 h3)
theorem MU.a4 {t u : Nat → Int} (h : MU t u) (z : Int) : MU t (ab_up u 4 z) := fun j h1 h2 h3 => (ab_up_n h1).trans (h j h1 h2 h3)
theorem MU.a6 {t u : Nat → Int} (h : MU t u) (z : Int) : MU t (ab_up u 6 z) := fun j h1 h2 h3 => (ab_up_n h2).trans (h j h1 h2 h3)
theorem MU.a7 {t u : Nat → Int} (h : MU t u) (z : Int) : MU t (ab_up u 7 z) := fun j h1 h2 h3 => (ab_up_n h3).trans (h j h1 h2 h3)
theorem MT.fault {t f : Nat → Int} {len : Nat} {s : S2} (h : MT t f len s) : ab_R (t 6) ∧ (t 6 = 0 ↔ isR s = true) := by
  match s, h with
  | .inl (u, v), ⟨_, h1, h2, h3, _⟩ => exact ⟨by rw [h3]; exact h2, ⟨fun q => absurd (h3.symm.trans q) h1, fun q => absurd (show false = true from q) Bool.false_ne_true⟩⟩
  | .inr a, ⟨_, _, h2, _⟩ => exact ⟨by rw [h2]; exact rR (by omega) (by omega), ⟨fun _ => rfl, fun _ => h2⟩⟩
theorem MT.at {t f : Nat → Int} {len : Nat} {s : S2} (h : MT t f len s) : ∃ x : Nat, x ≤ len ∧ t 4 = x := by
  match s, h with
  | .inl (u, v), ⟨_, _, _, _, _, x, h1, h2⟩ => exact ⟨x, h1, h2⟩
  | .inr a, ⟨_, _, _, _, x, h1, _, h2⟩ => exact ⟨x, h1, h2⟩
theorem MT.op {t t' f : Nat → Int} {len : Nat} {s : S2} (h : MT t f len s) (e : ∀ j, j = 3 ∨ j = 4 ∨ j = 6 ∨ j = 7 → t' j = t j) : MT t' f len s := by
  unfold MT at *
  rw [e 3 (by omega), e 4 (by omega), e 6 (by omega), e 7 (by omega)]
  exact h
section Mread
variable {σ : ab_H} {t f : Nat → Int} {len : Nat} {s : S2}
set_option maxRecDepth 100000 in
set_option maxHeartbeats 1000000 in
theorem m_byteAt (h57 : σ.2 57 = some (m10 t)) (h59 : σ.2 59 = some (bya f)) (h3 : t 3 = len) (hl : len ≤ 400) (k : Nat) (hk : k < 100000) : ab_ev 1 yX10_byteAt [rf 57, .inl k] σ (some (.inl (byt f len k))) σ := by
  refine eX10_byteAt rfl (fun At hA => ?_)
  refine hA 0 _ rfl _ _ _ _ _ ?_
  refine Exists.intro _ (And.intro (by first | assumption | exact st_s | exact st_e (by decide) (by assumption) | exact st_e (by omega) (by assumption) | exact st_e (by decide) st_s | exact st_e (by omega) st_s | exact st_e (by decide) (st_e (by decide) (by assumption)) | exact st_e (by omega) (st_e (by omega) (by assumption))) ?_)
  refine And.intro (And.intro (by first | assumption | exact b2i_R _ | exact rR (by omega) (by omega) | exact rR (by simp only [Int.toNat_natCast]; omega) (by simp only [Int.toNat_natCast]; omega)) (by first | assumption | exact b2i_R _ | exact rR (by omega) (by omega) | exact rR (by simp only [Int.toNat_natCast]; omega) (by simp only [Int.toNat_natCast]; omega))) (And.intro (fun q => ?_) (fun q => ?_))
  · refine hA 2 _ rfl _ _ _ _ _ ?_
    refine Exists.intro _ (And.intro (by first | assumption | exact st_s | exact st_e (by decide) (by assumption) | exact st_e (by omega) (by assumption) | exact st_e (by decide) st_s | exact st_e (by omega) st_s | exact st_e (by decide) (st_e (by decide) (by assumption)) | exact st_e (by omega) (st_e (by omega) (by assumption))) ?_)
    refine Exists.intro _ (Exists.intro _ (And.intro (by first | assumption | exact st_s | exact st_e (by decide) (by assumption) | exact st_e (by omega) (by assumption) | exact st_e (by decide) st_s | exact st_e (by omega) st_s | exact st_e (by decide) (st_e (by decide) (by assumption)) | exact st_e (by omega) (st_e (by omega) (by assumption))) (And.intro (by first | omega | (simp only [Int.toNat_natCast]; omega)) ?_)))
    refine hA 3 _ rfl _ _ _ _ _ ?_
    exact ⟨by rw [byt_lt (by omega)]; rfl, rfl⟩
  · refine hA 1 _ rfl _ _ _ _ _ ?_
    refine hA 3 _ rfl _ _ _ _ _ ?_
    exact ⟨by rw [byt_ge (by omega)], rfl⟩
set_option maxRecDepth 100000 in
set_option maxHeartbeats 1000000 in
theorem m_here (h57 : σ.2 57 = some (m10 t)) (h59 : σ.2 59 = some (bya f)) (hf : byR f) (h3 : t 3 = len) (hl : len ≤ 400) (x : Nat) (hx : x ≤ len) (h4 : t 4 = x) : ab_ev 2 yX10_here [rf 57] σ (some (.inl (byt f len (skB f len x)))) (ab_st σ 57 (m10 (ab_up t 4 (skB f len x)))) := by
  have hR := byt_R hf len
  have e0 : ab_up t 4 ((x : Nat) : Int) = t := by
    funext j
    unfold ab_up
    by_cases h : j = 4
    · rw [if_pos h, h]; exact h4.symm
    · rw [if_neg h]
  refine eX10_here rfl (fun At hA => ?_)
  have loop : ∀ m i : Nat, i + m = len → skB f len i = skB f len x → At 0 [some (rf 57)] [] (ab_st σ 57 (m10 (ab_up t 4 i))) 0 0 := by
    intro m
    induction m with
    | zero =>
      intro i hi he
      have q59 : (ab_st σ 57 (m10 (ab_up t 4 i))).2 59 = some (bya f) := st_e (by omega) h59
      have q57 : (ab_st σ 57 (m10 (ab_up t 4 i))).2 57 = some (m10 (ab_up t 4 i)) := st_s
      have e4 : ab_up t 4 ((i : Nat) : Int) 4 = i := ab_up_s
      have hb := m_byteAt q57 q59 (show ab_up t 4 ((i : Nat) : Int) 3 = len by rw [ab_up_n (by omega)]; exact h3) hl i (by omega)
      rw [← e4] at hb
      have hsk : skB f len i = i := by
        unfold skB
        rw [show len - i = 0 by omega]
        rfl
      have hRi := hR i
      have hbg : byt f len i = -1 := byt_ge (by omega)
      refine hA 0 _ rfl _ _ _ _ _ ?_
      refine Exists.intro _ (And.intro (q57) ?_)
      refine Exists.intro _ (And.intro q57 (And.intro rfl (ab_inv_ev hb (by first | decide | omega) (by first | exact Nat.le_refl _ | omega) (by first | exact Nat.le_refl _ | omega) ?_)))
      refine And.intro (And.intro (rR (by omega) (by omega)) (rR (by omega) (by omega))) (And.intro (fun q => ?_) (fun q => ?_))
      · refine hA 2 _ rfl _ _ _ _ _ ?_
        refine Exists.intro _ (And.intro (q57) ?_)
        refine Exists.intro _ (And.intro q57 (And.intro rfl (ab_inv_ev hb (by first | decide | omega) (by first | exact Nat.le_refl _ | omega) (by first | exact Nat.le_refl _ | omega) ?_)))
        rw [← he, hsk]
        exact ⟨rfl, rfl⟩
      · omega
    | succ m ih =>
      intro i hi he
      have q59 : (ab_st σ 57 (m10 (ab_up t 4 i))).2 59 = some (bya f) := st_e (by omega) h59
      have q57 : (ab_st σ 57 (m10 (ab_up t 4 i))).2 57 = some (m10 (ab_up t 4 i)) := st_s
      have e4 : ab_up t 4 ((i : Nat) : Int) 4 = i := ab_up_s
      have hb := m_byteAt q57 q59 (show ab_up t 4 ((i : Nat) : Int) 3 = len by rw [ab_up_n (by omega)]; exact h3) hl i (by omega)
      rw [← e4] at hb
      have hRi := hR i
      by_cases hs : byt f len i = 32
      · have hsk : skB f len i = skB f len (i + 1) := by
          unfold skB
          rw [show len - i = (len - (i + 1)) + 1 by omega, rn_st (by rw [hs]; rfl)]
        have ihi := ih (i + 1) (by omega) (hsk.symm.trans he)
        rw [Int.natCast_add] at ihi
        refine hA 0 _ rfl _ _ _ _ _ ?_
        refine Exists.intro _ (And.intro (q57) ?_)
        refine Exists.intro _ (And.intro q57 (And.intro rfl (ab_inv_ev hb (by first | decide | omega) (by first | exact Nat.le_refl _ | omega) (by first | exact Nat.le_refl _ | omega) ?_)))
        refine And.intro (And.intro (rR (by omega) (by omega)) (rR (by omega) (by omega))) (And.intro (fun q => ?_) (fun q => ?_))
        · exact absurd hs q
        · refine hA 1 _ rfl _ _ _ _ _ ?_
          refine Exists.intro _ (And.intro (q57) ?_)
          refine Exists.intro _ (And.intro (q57) ?_)
          rw [m10_s4, st_st, up_up, e4]
          exact ihi
      · have hsk : skB f len i = i := by
          unfold skB
          rw [show len - i = (len - (i + 1)) + 1 by omega]
          exact rn_no (beq_eq_false_iff_ne.mpr hs)
        refine hA 0 _ rfl _ _ _ _ _ ?_
        refine Exists.intro _ (And.intro (q57) ?_)
        refine Exists.intro _ (And.intro q57 (And.intro rfl (ab_inv_ev hb (by first | decide | omega) (by first | exact Nat.le_refl _ | omega) (by first | exact Nat.le_refl _ | omega) ?_)))
        refine And.intro (And.intro (rR (by omega) (by omega)) (rR (by omega) (by omega))) (And.intro (fun q => ?_) (fun q => ?_))
        · refine hA 2 _ rfl _ _ _ _ _ ?_
          refine Exists.intro _ (And.intro (q57) ?_)
          refine Exists.intro _ (And.intro q57 (And.intro rfl (ab_inv_ev hb (by first | decide | omega) (by first | exact Nat.le_refl _ | omega) (by first | exact Nat.le_refl _ | omega) ?_)))
          rw [← he, hsk]
          exact ⟨rfl, rfl⟩
        · exact absurd q hs
  have l0 := loop (len - x) x (by omega) rfl
  rw [e0, st_id h57] at l0
  exact l0
set_option maxRecDepth 100000 in
set_option maxHeartbeats 1000000 in
theorem m_fine (h57 : σ.2 57 = some (m10 t)) (hM : MT t f len s) : ab_ev 1 yX10_fine [rf 57] σ (some (.inl (b2i (isR s)))) σ := by
  obtain ⟨h1, h2⟩ := hM.fault
  refine eX10_fine rfl (fun At hA => ?_)
  refine hA 0 _ rfl _ _ _ _ _ ?_
  refine Exists.intro _ (And.intro (h57) ?_)
  refine And.intro h1 (And.intro (fun q => ?_) (fun q => ?_))
  · have q : t 6 ≠ 0 := q
    refine hA 2 _ rfl _ _ _ _ _ ?_
    refine hA 3 _ rfl _ _ _ _ _ ?_
    refine And.intro (by first | exact Or.inl rfl | exact Or.inr rfl | exact b2i_01 _) ?_
    cases hs : isR s
    · exact ⟨rfl, rfl⟩
    · exact absurd (h2.mpr hs) q
  · have q : t 6 = 0 := q
    refine hA 1 _ rfl _ _ _ _ _ ?_
    refine hA 3 _ rfl _ _ _ _ _ ?_
    refine And.intro (by first | exact Or.inl rfl | exact Or.inr rfl | exact b2i_01 _) ?_
    rw [h2.mp q]
    exact ⟨rfl, rfl⟩
/-- the state behind a fault told -/
def wrT (t : Nat → Int) (u v : Int) : Nat → Int := if t 6 = 0 then ab_up (ab_up t 6 u) 7 v else t
set_option maxRecDepth 100000 in
set_option maxHeartbeats 1000000 in
theorem m_wrong (h57 : σ.2 57 = some (m10 t)) (h6 : ab_R (t 6)) (u v : Int) : ab_ev 1 yX10_wrong [rf 57, .inl u, .inl v] σ none (ab_st σ 57 (m10 (wrT t u v))) := by
  unfold wrT
  refine eX10_wrong rfl (fun At hA => ?_)
  refine hA 0 _ rfl _ _ _ _ _ ?_
  refine Exists.intro _ (And.intro (h57) ?_)
  refine And.intro h6 (And.intro (fun q => ?_) (fun q => ?_))
  · have q : t 6 ≠ 0 := q
    refine hA 2 _ rfl _ _ _ _ _ ?_
    rw [if_neg q, st_id h57]
    exact ⟨rfl, rfl⟩
  · have q : t 6 = 0 := q
    refine hA 1 _ rfl _ _ _ _ _ ?_
    refine Exists.intro _ (And.intro (h57) ?_)
    rw [m10_s6]
    refine Exists.intro _ (And.intro (st_s) ?_)
    rw [m10_s7, st_st]
    refine hA 2 _ rfl _ _ _ _ _ ?_
    rw [if_pos q]
    exact ⟨rfl, rfl⟩
def wrS (s : S2) (u v : Int) : S2 := match s with
  | .inl e => .inl e
  | .inr _ => .inl (u, v)
theorem MT.wr (hM : MT t f len s) (u v : Int) (hu : u ≠ 0) (hR : ab_R u) : MT (wrT t u v) f len (wrS s u v) := by
  unfold wrT
  match s, hM with
  | .inl (a, b), ⟨h0, h1, h2, h3, h4⟩ =>
    rw [if_neg (by rw [h3]; exact h1)]
    exact ⟨h0, h1, h2, h3, h4⟩
  | .inr a, ⟨h0, h1, h2, h3, x, h4, h5, h6⟩ =>
    rw [if_pos h2]
    exact ⟨by rw [ab_up_n (by omega), ab_up_n (by omega)]; exact h0, hu, hR, by rw [ab_up_n (by omega), ab_up_s], ab_up_s, x, h4, by rw [ab_up_n (by omega), ab_up_n (by omega)]; exact h6⟩
theorem MU.wr {t u : Nat → Int} (h : MU t u) (a b : Int) : MU t (wrT u a b) := by
  unfold wrT
  split
  · exact (h.a6 a).a7 b
  · exact h
set_option maxRecDepth 100000 in
set_option maxHeartbeats 1000000 in
theorem m_isDigit (c : Int) (hc : ab_R c) : ab_ev 1 yX10_isDigit [.inl c] σ (some (.inl (b2i (isD c)))) σ := by
  unfold isD
  refine eX10_isDigit rfl (fun At hA => ?_)
  have k3 : ¬ (48 ≤ c ∧ c ≤ 57) → At 3 [some (.inl c)] [] σ 0 0 := fun h => by
    refine hA 3 _ rfl _ _ _ _ _ ?_
    refine hA 4 _ rfl _ _ _ _ _ ?_
    refine And.intro (by first | exact Or.inl rfl | exact Or.inr rfl | exact b2i_01 _) ?_
    refine ⟨?_, rfl⟩
    by_cases h1 : 48 ≤ c
    · rw [decide_eq_false (show ¬ c ≤ 57 by omega), Bool.and_false]; rfl
    · rw [decide_eq_false h1]; rfl
  refine hA 0 _ rfl _ _ _ _ _ ?_
  refine And.intro (And.intro (by first | assumption | exact b2i_R _ | exact rR (by omega) (by omega) | exact rR (by simp only [Int.toNat_natCast]; omega) (by simp only [Int.toNat_natCast]; omega)) (by first | assumption | exact b2i_R _ | exact rR (by omega) (by omega) | exact rR (by simp only [Int.toNat_natCast]; omega) (by simp only [Int.toNat_natCast]; omega))) (And.intro (fun q => ?_) (fun q => ?_))
  · exact k3 (by omega)
  · refine hA 1 _ rfl _ _ _ _ _ ?_
    refine And.intro (And.intro (by first | assumption | exact b2i_R _ | exact rR (by omega) (by omega) | exact rR (by simp only [Int.toNat_natCast]; omega) (by simp only [Int.toNat_natCast]; omega)) (by first | assumption | exact b2i_R _ | exact rR (by omega) (by omega) | exact rR (by simp only [Int.toNat_natCast]; omega) (by simp only [Int.toNat_natCast]; omega))) (And.intro (fun q => ?_) (fun q => ?_))
    · exact k3 (by omega)
    · refine hA 2 _ rfl _ _ _ _ _ ?_
      refine hA 4 _ rfl _ _ _ _ _ ?_
      refine And.intro (by first | exact Or.inl rfl | exact Or.inr rfl | exact b2i_01 _) ?_
      rw [decide_eq_true (show 48 ≤ c by omega), decide_eq_true (show c ≤ 57 by omega)]
      exact ⟨rfl, rfl⟩
set_option maxRecDepth 100000 in
set_option maxHeartbeats 1000000 in
theorem m_isSmall (c : Int) (hc : ab_R c) : ab_ev 1 yX10_isSmall [.inl c] σ (some (.inl (b2i (isL c)))) σ := by
  unfold isL
  refine eX10_isSmall rfl (fun At hA => ?_)
  have k3 : ¬ (97 ≤ c ∧ c ≤ 122) → At 3 [some (.inl c)] [] σ 0 0 := fun h => by
    refine hA 3 _ rfl _ _ _ _ _ ?_
    refine hA 4 _ rfl _ _ _ _ _ ?_
    refine And.intro (by first | exact Or.inl rfl | exact Or.inr rfl | exact b2i_01 _) ?_
    refine ⟨?_, rfl⟩
    by_cases h1 : 97 ≤ c
    · rw [decide_eq_false (show ¬ c ≤ 122 by omega), Bool.and_false]; rfl
    · rw [decide_eq_false h1]; rfl
  refine hA 0 _ rfl _ _ _ _ _ ?_
  refine And.intro (And.intro (by first | assumption | exact b2i_R _ | exact rR (by omega) (by omega) | exact rR (by simp only [Int.toNat_natCast]; omega) (by simp only [Int.toNat_natCast]; omega)) (by first | assumption | exact b2i_R _ | exact rR (by omega) (by omega) | exact rR (by simp only [Int.toNat_natCast]; omega) (by simp only [Int.toNat_natCast]; omega))) (And.intro (fun q => ?_) (fun q => ?_))
  · exact k3 (by omega)
  · refine hA 1 _ rfl _ _ _ _ _ ?_
    refine And.intro (And.intro (by first | assumption | exact b2i_R _ | exact rR (by omega) (by omega) | exact rR (by simp only [Int.toNat_natCast]; omega) (by simp only [Int.toNat_natCast]; omega)) (by first | assumption | exact b2i_R _ | exact rR (by omega) (by omega) | exact rR (by simp only [Int.toNat_natCast]; omega) (by simp only [Int.toNat_natCast]; omega))) (And.intro (fun q => ?_) (fun q => ?_))
    · exact k3 (by omega)
    · refine hA 2 _ rfl _ _ _ _ _ ?_
      refine hA 4 _ rfl _ _ _ _ _ ?_
      refine And.intro (by first | exact Or.inl rfl | exact Or.inr rfl | exact b2i_01 _) ?_
      rw [decide_eq_true (show 97 ≤ c by omega), decide_eq_true (show c ≤ 122 by omega)]
      exact ⟨rfl, rfl⟩
set_option maxRecDepth 100000 in
set_option maxHeartbeats 1000000 in
theorem m_skipWord (h57 : σ.2 57 = some (m10 t)) (h59 : σ.2 59 = some (bya f)) (hf : byR f) (h3 : t 3 = len) (hl : len ≤ 400) (x : Nat) (hx : x ≤ len) (h4 : t 4 = x) : ab_ev 2 yX10_skipWord [rf 57] σ none (ab_st σ 57 (m10 (ab_up t 4 (skL f len x)))) := by
  have hR := byt_R hf len
  have e0 : ab_up t 4 ((x : Nat) : Int) = t := by
    funext j
    unfold ab_up
    by_cases h : j = 4
    · rw [if_pos h, h]; exact h4.symm
    · rw [if_neg h]
  refine eX10_skipWord rfl (fun At hA => ?_)
  have loop : ∀ m i : Nat, i + m = len → skL f len i = skL f len x → At 0 [some (rf 57)] [] (ab_st σ 57 (m10 (ab_up t 4 i))) 0 0 := by
    intro m
    induction m with
    | zero =>
      intro i hi he
      have q59 : (ab_st σ 57 (m10 (ab_up t 4 i))).2 59 = some (bya f) := st_e (by omega) h59
      have q57 : (ab_st σ 57 (m10 (ab_up t 4 i))).2 57 = some (m10 (ab_up t 4 i)) := st_s
      have e4 : ab_up t 4 ((i : Nat) : Int) 4 = i := ab_up_s
      have hb := m_byteAt q57 q59 (show ab_up t 4 ((i : Nat) : Int) 3 = len by rw [ab_up_n (by omega)]; exact h3) hl i (by omega)
      rw [← e4] at hb
      have hsk : skL f len i = i := by
        unfold skL
        rw [show len - i = 0 by omega]
        rfl
      have hRi := hR i
      have hbg : byt f len i = -1 := byt_ge (by omega)
      refine hA 0 _ rfl _ _ _ _ _ ?_
      refine Exists.intro _ (And.intro (q57) ?_)
      refine Exists.intro _ (And.intro q57 (And.intro rfl (ab_inv_ev hb (by first | decide | omega) (by first | exact Nat.le_refl _ | omega) (by first | exact Nat.le_refl _ | omega) ?_)))
      refine And.intro rfl (ab_inv_ev (m_isSmall (byt f len i) (rR (by omega) (by omega))) (by first | decide | omega) (by first | exact Nat.le_refl _ | omega) (by first | exact Nat.le_refl _ | omega) ?_)
      refine And.intro (b2i_R _) (And.intro (fun q => ?_) (fun q => ?_))
      · refine hA 2 _ rfl _ _ _ _ _ ?_
        rw [← he, hsk]
        exact ⟨rfl, rfl⟩
      · have hq := b2i_1 q
        rw [hbg] at hq
        exact absurd hq (by decide)
    | succ m ih =>
      intro i hi he
      have q59 : (ab_st σ 57 (m10 (ab_up t 4 i))).2 59 = some (bya f) := st_e (by omega) h59
      have q57 : (ab_st σ 57 (m10 (ab_up t 4 i))).2 57 = some (m10 (ab_up t 4 i)) := st_s
      have e4 : ab_up t 4 ((i : Nat) : Int) 4 = i := ab_up_s
      have hb := m_byteAt q57 q59 (show ab_up t 4 ((i : Nat) : Int) 3 = len by rw [ab_up_n (by omega)]; exact h3) hl i (by omega)
      rw [← e4] at hb
      have hRi := hR i
      refine hA 0 _ rfl _ _ _ _ _ ?_
      refine Exists.intro _ (And.intro (q57) ?_)
      refine Exists.intro _ (And.intro q57 (And.intro rfl (ab_inv_ev hb (by first | decide | omega) (by first | exact Nat.le_refl _ | omega) (by first | exact Nat.le_refl _ | omega) ?_)))
      refine And.intro rfl (ab_inv_ev (m_isSmall (byt f len i) (rR (by omega) (by omega))) (by first | decide | omega) (by first | exact Nat.le_refl _ | omega) (by first | exact Nat.le_refl _ | omega) ?_)
      refine And.intro (b2i_R _) (And.intro (fun q => ?_) (fun q => ?_))
      · have hq := b2i_0 q
        have hsk : skL f len i = i := by
          unfold skL
          rw [show len - i = (len - (i + 1)) + 1 by omega]
          exact rn_no hq
        refine hA 2 _ rfl _ _ _ _ _ ?_
        rw [← he, hsk]
        exact ⟨rfl, rfl⟩
      · have hq := b2i_1 q
        have hsk : skL f len i = skL f len (i + 1) := by
          unfold skL
          rw [show len - i = (len - (i + 1)) + 1 by omega, rn_st hq]
        have ihi := ih (i + 1) (by omega) (hsk.symm.trans he)
        rw [Int.natCast_add] at ihi
        refine hA 1 _ rfl _ _ _ _ _ ?_
        refine Exists.intro _ (And.intro (q57) ?_)
        refine Exists.intro _ (And.intro (q57) ?_)
        rw [m10_s4, st_st, up_up, e4]
        exact ihi
  have l0 := loop (len - x) x (by omega) rfl
  rw [e0, st_id h57] at l0
  exact l0

set_option maxRecDepth 100000 in
set_option maxHeartbeats 1000000 in
theorem m_sign (h57 : σ.2 57 = some (m10 t)) (h59 : σ.2 59 = some (bya f)) (hf : byR f) (hl : len ≤ 400) (hM : MT t f len s) (c : Nat) (hc : c < 256) : ab_call 3 0 0 yX10_sign [rf 57, .inl c] σ (fun z σ' => z = .inl none ∧ ∃ t', σ' = ab_st σ 57 (m10 t') ∧ MT t' f len (sgnT f len s c) ∧ MU t t') := by
  have hfi := m_fine h57 hM
  cases s with
  | inl e =>
    refine eX10_sign rfl (fun At hA => ?_)
    refine hA 0 _ rfl _ _ _ _ _ ?_
    refine Exists.intro _ (And.intro (by first | assumption | exact st_s | exact st_e (by decide) (by assumption) | exact st_e (by omega) (by assumption) | exact st_e (by decide) st_s | exact st_e (by omega) st_s | exact st_e (by decide) (st_e (by decide) (by assumption)) | exact st_e (by omega) (st_e (by omega) (by assumption))) (And.intro rfl (ab_inv_ev hfi (by first | decide | omega) (by first | exact Nat.le_refl _ | omega) (by first | exact Nat.le_refl _ | omega) ?_)))
    refine And.intro (by first | assumption | exact b2i_R _ | exact rR (by omega) (by omega) | exact rR (by simp only [Int.toNat_natCast]; omega) (by simp only [Int.toNat_natCast]; omega)) (And.intro (fun q => ?_) (fun q => ?_))
    · exact absurd rfl q
    · refine hA 1 _ rfl _ _ _ _ _ ?_
      refine ⟨rfl, t, ?_, hM, MU.rf t⟩
      rw [st_id h57]
  | inr a =>
    obtain ⟨h3, ha, h6, h7, x, hx, hsx, h4⟩ := hM
    refine eX10_sign rfl (fun At hA => ?_)
    refine hA 0 _ rfl _ _ _ _ _ ?_
    refine Exists.intro _ (And.intro (by first | assumption | exact st_s | exact st_e (by decide) (by assumption) | exact st_e (by omega) (by assumption) | exact st_e (by decide) st_s | exact st_e (by omega) st_s | exact st_e (by decide) (st_e (by decide) (by assumption)) | exact st_e (by omega) (st_e (by omega) (by assumption))) (And.intro rfl (ab_inv_ev hfi (by first | decide | omega) (by first | exact Nat.le_refl _ | omega) (by first | exact Nat.le_refl _ | omega) ?_)))
    refine And.intro (by first | assumption | exact b2i_R _ | exact rR (by omega) (by omega) | exact rR (by simp only [Int.toNat_natCast]; omega) (by simp only [Int.toNat_natCast]; omega)) (And.intro (fun q => ?_) (fun q => ?_))
    · skip
      have hb := m_here h57 h59 hf h3 hl x hx h4
      have hs := skB_sp f len x hx
      have hRb := byt_R hf len (skB f len x)
      have q57 : (ab_st σ 57 (m10 (ab_up t 4 (skB f len x : Nat)))).2 57 = some (m10 (ab_up t 4 (skB f len x : Nat))) := st_s
      have e4 : ab_up t 4 ((skB f len x : Nat) : Int) 4 = (skB f len x : Nat) := ab_up_s
      have e6 : ab_up t 4 ((skB f len x : Nat) : Int) 6 = 0 := by rw [ab_up_n (by omega)]; exact h6
      have eS : sgnT f len (.inr a) c = if byt f len (skB f len x) == (c : Int) then .inr (skB f len x + 1) else .inl (1, (skB f len x : Nat)) := by
        show signP f len a c = _
        unfold signP
        rw [hsx]
      refine hA 2 _ rfl _ _ _ _ _ ?_
      refine Exists.intro _ (And.intro (by first | assumption | exact st_s | exact st_e (by decide) (by assumption) | exact st_e (by omega) (by assumption) | exact st_e (by decide) st_s | exact st_e (by omega) st_s | exact st_e (by decide) (st_e (by decide) (by assumption)) | exact st_e (by omega) (st_e (by omega) (by assumption))) (And.intro rfl (ab_inv_ev hb (by first | decide | omega) (by first | exact Nat.le_refl _ | omega) (by first | exact Nat.le_refl _ | omega) ?_)))
      refine And.intro (And.intro (by first | assumption | exact b2i_R _ | exact rR (by omega) (by omega) | exact rR (by simp only [Int.toNat_natCast]; omega) (by simp only [Int.toNat_natCast]; omega)) (by first | assumption | exact b2i_R _ | exact rR (by omega) (by omega) | exact rR (by simp only [Int.toNat_natCast]; omega) (by simp only [Int.toNat_natCast]; omega))) (And.intro (fun q => ?_) (fun q => ?_))
      · have hw := m_wrong q57 (by rw [e6]; exact rR (by omega) (by omega)) 1 (skB f len x : Nat)
        rw [← e4] at hw
        refine hA 4 _ rfl _ _ _ _ _ ?_
        refine Exists.intro _ (And.intro (q57) ?_)
        refine Exists.intro _ (And.intro q57 (And.intro rfl (ab_inv_ev hw (by first | decide | omega) (by first | exact Nat.le_refl _ | omega) (by first | exact Nat.le_refl _ | omega) ?_)))
        rw [st_st]
        refine hA 5 _ rfl _ _ _ _ _ ?_
        refine ⟨rfl, _, rfl, ?_, ((MU.rf t).a4 _).wr _ _⟩
        rw [eS, if_neg (by rw [beq_iff_eq]; assumption), e4]
        exact MT.wr (s := .inr a) ⟨by rw [ab_up_n (by omega)]; exact h3, ha, e6, by rw [ab_up_n (by omega)]; exact h7, _, hs.2, by rw [skB_id f len x hx]; exact hsx, e4⟩ 1 _ (by decide) (rR (by omega) (by omega))
      · refine hA 3 _ rfl _ _ _ _ _ ?_
        refine Exists.intro _ (And.intro (q57) ?_)
        refine Exists.intro _ (And.intro (q57) ?_)
        rw [m10_s4, st_st, up_up, e4]
        refine hA 5 _ rfl _ _ _ _ _ ?_
        have hq2 : byt f len (skB f len x) = c := by assumption
        have hlt : skB f len x < len := by
          rcases Nat.lt_or_ge (skB f len x) len with h | h
          · exact h
          · rw [byt_ge h] at hq2; omega
        refine ⟨rfl, _, rfl, ?_, (MU.rf t).a4 _⟩
        rw [eS, if_pos (by rw [beq_iff_eq]; exact hq2)]
        exact ⟨by rw [ab_up_n (by omega)]; exact h3, by omega, by rw [ab_up_n (by omega)]; exact h6, by rw [ab_up_n (by omega)]; exact h7, skB f len x + 1, by omega, rfl, ab_up_s⟩
    · exact absurd (show (1 : Int) = 0 from q) (by decide)
set_option maxRecDepth 100000 in
set_option maxHeartbeats 1000000 in
theorem m_end (h57 : σ.2 57 = some (m10 t)) (h59 : σ.2 59 = some (bya f)) (hf : byR f) (hl : len ≤ 400) (hM : MT t f len s) : ab_call 3 0 0 yX10_end [rf 57] σ (fun z σ' => z = .inl none ∧ ∃ t', σ' = ab_st σ 57 (m10 t') ∧ MT t' f len (endT f len s) ∧ MU t t') := by
  have hfi := m_fine h57 hM
  cases s with
  | inl e =>
    refine eX10_end rfl (fun At hA => ?_)
    refine hA 0 _ rfl _ _ _ _ _ ?_
    refine Exists.intro _ (And.intro (by first | assumption | exact st_s | exact st_e (by decide) (by assumption) | exact st_e (by omega) (by assumption) | exact st_e (by decide) st_s | exact st_e (by omega) st_s | exact st_e (by decide) (st_e (by decide) (by assumption)) | exact st_e (by omega) (st_e (by omega) (by assumption))) (And.intro rfl (ab_inv_ev hfi (by first | decide | omega) (by first | exact Nat.le_refl _ | omega) (by first | exact Nat.le_refl _ | omega) ?_)))
    refine And.intro (by first | assumption | exact b2i_R _ | exact rR (by omega) (by omega) | exact rR (by simp only [Int.toNat_natCast]; omega) (by simp only [Int.toNat_natCast]; omega)) (And.intro (fun q => ?_) (fun q => ?_))
    · refine hA 3 _ rfl _ _ _ _ _ ?_
      refine ⟨rfl, t, ?_, hM, MU.rf t⟩
      rw [st_id h57]
    · exact absurd rfl q
  | inr a =>
    obtain ⟨h3, ha, h6, h7, x, hx, hsx, h4⟩ := hM
    refine eX10_end rfl (fun At hA => ?_)
    refine hA 0 _ rfl _ _ _ _ _ ?_
    refine Exists.intro _ (And.intro (by first | assumption | exact st_s | exact st_e (by decide) (by assumption) | exact st_e (by omega) (by assumption) | exact st_e (by decide) st_s | exact st_e (by omega) st_s | exact st_e (by decide) (st_e (by decide) (by assumption)) | exact st_e (by omega) (st_e (by omega) (by assumption))) (And.intro rfl (ab_inv_ev hfi (by first | decide | omega) (by first | exact Nat.le_refl _ | omega) (by first | exact Nat.le_refl _ | omega) ?_)))
    refine And.intro (by first | assumption | exact b2i_R _ | exact rR (by omega) (by omega) | exact rR (by simp only [Int.toNat_natCast]; omega) (by simp only [Int.toNat_natCast]; omega)) (And.intro (fun q => ?_) (fun q => ?_))
    · exact absurd (show (1 : Int) = 0 from q) (by decide)
    · skip
      have hb := m_here h57 h59 hf h3 hl x hx h4
      have hs := skB_sp f len x hx
      have hRb := byt_R hf len (skB f len x)
      have q57 : (ab_st σ 57 (m10 (ab_up t 4 (skB f len x : Nat)))).2 57 = some (m10 (ab_up t 4 (skB f len x : Nat))) := st_s
      have e4 : ab_up t 4 ((skB f len x : Nat) : Int) 4 = (skB f len x : Nat) := ab_up_s
      have e6 : ab_up t 4 ((skB f len x : Nat) : Int) 6 = 0 := by rw [ab_up_n (by omega)]; exact h6
      have eS : endT f len (.inr a) = if skB f len x < len then .inl (1, (skB f len x : Nat)) else .inr a := by
        show (if skB f len a < len then _ else _) = _
        rw [hsx]
      have hMr : MT (ab_up t 4 ((skB f len x : Nat) : Int)) f len (.inr a) := ⟨by rw [ab_up_n (by omega)]; exact h3, ha, e6, by rw [ab_up_n (by omega)]; exact h7, _, hs.2, by rw [skB_id f len x hx]; exact hsx, e4⟩
      refine hA 1 _ rfl _ _ _ _ _ ?_
      refine Exists.intro _ (And.intro (by first | assumption | exact st_s | exact st_e (by decide) (by assumption) | exact st_e (by omega) (by assumption) | exact st_e (by decide) st_s | exact st_e (by omega) st_s | exact st_e (by decide) (st_e (by decide) (by assumption)) | exact st_e (by omega) (st_e (by omega) (by assumption))) (And.intro rfl (ab_inv_ev hb (by first | decide | omega) (by first | exact Nat.le_refl _ | omega) (by first | exact Nat.le_refl _ | omega) ?_)))
      refine And.intro (And.intro (by first | assumption | exact b2i_R _ | exact rR (by omega) (by omega) | exact rR (by simp only [Int.toNat_natCast]; omega) (by simp only [Int.toNat_natCast]; omega)) (by first | assumption | exact b2i_R _ | exact rR (by omega) (by omega) | exact rR (by simp only [Int.toNat_natCast]; omega) (by simp only [Int.toNat_natCast]; omega))) (And.intro (fun q => ?_) (fun q => ?_))
      · refine hA 3 _ rfl _ _ _ _ _ ?_
        have hq2 : byt f len (skB f len x) = -1 := by assumption
        refine ⟨rfl, _, rfl, ?_, (MU.rf t).a4 _⟩
        rw [eS, if_neg (fun h => by rw [byt_lt h] at hq2; have := (hf (skB f len x)).1; omega)]
        exact hMr
      · have hw := m_wrong q57 (by rw [e6]; exact rR (by omega) (by omega)) 1 (skB f len x : Nat)
        rw [← e4] at hw
        have hq2 : byt f len (skB f len x) ≠ -1 := by assumption
        refine hA 2 _ rfl _ _ _ _ _ ?_
        refine Exists.intro _ (And.intro (q57) ?_)
        refine Exists.intro _ (And.intro q57 (And.intro rfl (ab_inv_ev hw (by first | decide | omega) (by first | exact Nat.le_refl _ | omega) (by first | exact Nat.le_refl _ | omega) ?_)))
        rw [st_st]
        refine hA 3 _ rfl _ _ _ _ _ ?_
        refine ⟨rfl, _, rfl, ?_, ((MU.rf t).a4 _).wr _ _⟩
        rw [eS, if_pos (by
          rcases Nat.lt_or_ge (skB f len x) len with h | h
          · exact h
          · exact absurd (byt_ge h) hq2), e4]
        exact MT.wr hMr 1 _ (by decide) (rR (by omega) (by omega))
theorem nvl_2 (f : Nat → Int) (hf : byR f) : ∀ (m i : Nat) (v1 v2 : Int), (∀ j, i ≤ j → j < i + m → 48 ≤ f j ∧ f j ≤ 57) → 0 ≤ v1 → ((v1 = v2 ∧ v1 < 1000) ∨ (v1 = 1000 ∧ 1000 ≤ v2)) → v2 ≤ 100000 → ((nvl 1000 f i m v1 = nvl 100000 f i m v2 ∧ nvl 1000 f i m v1 < 1000 ∧ 0 ≤ nvl 1000 f i m v1) ∨ (nvl 1000 f i m v1 = 1000 ∧ 1000 ≤ nvl 100000 f i m v2)) := by
  intro m
  induction m with
  | zero =>
    intro i v1 v2 _ h0 h _
    rcases h with h | h
    · exact Or.inl ⟨h.1, h.2, h0⟩
    · exact Or.inr h
  | succ m ih =>
    intro i v1 v2 hd h0 h h2
    have hdi := hd i (Nat.le_refl _) (by omega)
    show (nvl 1000 f (i + 1) m (min (v1 * 10 + f i - 48) 1000) = nvl 100000 f (i + 1) m (min (v2 * 10 + f i - 48) 100000) ∧ _) ∨ _
    exact ih (i + 1) (min (v1 * 10 + f i - 48) 1000) (min (v2 * 10 + f i - 48) 100000) (fun j h1 h2 => hd j (by omega) (by omega)) (by omega) (by omega) (by omega)
set_option maxRecDepth 100000 in
set_option maxHeartbeats 1000000 in
theorem m_number (h57 : σ.2 57 = some (m10 t)) (h59 : σ.2 59 = some (bya f)) (hf : byR f) (hl : len ≤ 400) (hM : MT t f len s) (lo hi : Int) (hlo : ab_R lo) (hhi : ab_R hi) (hlo2 : lo ≤ 999) (hhi2 : hi ≤ 999) : ab_call 4 0 0 yX10_number [rf 57, .inl lo, .inl hi] σ (fun z σ' => z = .inl (some (.inl (if isR (numT f len s lo hi).2 = true then (numT f len s lo hi).1 else 0))) ∧ ∃ t', σ' = ab_st σ 57 (m10 t') ∧ MT t' f len (numT f len s lo hi).2 ∧ MU t t') := by
  have hfi := m_fine h57 hM
  cases s with
  | inl e =>
    refine eX10_number rfl (fun At hA => ?_)
    refine hA 0 _ rfl _ _ _ _ _ ?_
    refine Exists.intro _ (And.intro (by first | assumption | exact st_s | exact st_e (by decide) (by assumption) | exact st_e (by omega) (by assumption) | exact st_e (by decide) st_s | exact st_e (by omega) st_s | exact st_e (by decide) (st_e (by decide) (by assumption)) | exact st_e (by omega) (st_e (by omega) (by assumption))) (And.intro rfl (ab_inv_ev hfi (by first | decide | omega) (by first | exact Nat.le_refl _ | omega) (by first | exact Nat.le_refl _ | omega) ?_)))
    refine And.intro (by first | assumption | exact b2i_R _ | exact rR (by omega) (by omega) | exact rR (by simp only [Int.toNat_natCast]; omega) (by simp only [Int.toNat_natCast]; omega)) (And.intro (fun q => ?_) (fun q => ?_))
    · exact absurd rfl q
    · refine hA 1 _ rfl _ _ _ _ _ ?_
      refine ⟨rfl, t, ?_, hM, MU.rf t⟩
      rw [st_id h57]
  | inr a =>
    obtain ⟨h3, ha, h6, h7, x, hx, hsx, h4⟩ := hM
    refine eX10_number rfl (fun At hA => ?_)
    refine hA 0 _ rfl _ _ _ _ _ ?_
    refine Exists.intro _ (And.intro (by first | assumption | exact st_s | exact st_e (by decide) (by assumption) | exact st_e (by omega) (by assumption) | exact st_e (by decide) st_s | exact st_e (by omega) st_s | exact st_e (by decide) (st_e (by decide) (by assumption)) | exact st_e (by omega) (st_e (by omega) (by assumption))) (And.intro rfl (ab_inv_ev hfi (by first | decide | omega) (by first | exact Nat.le_refl _ | omega) (by first | exact Nat.le_refl _ | omega) ?_)))
    refine And.intro (by first | assumption | exact b2i_R _ | exact rR (by omega) (by omega) | exact rR (by simp only [Int.toNat_natCast]; omega) (by simp only [Int.toNat_natCast]; omega)) (And.intro (fun q => ?_) (fun q => ?_))
    · skip
      have hb := m_here h57 h59 hf h3 hl x hx h4
      have hs := skB_sp f len x hx
      have hd := skD_sp f len (skB f len x) hs.2
      have hRb := byt_R hf len
      have hRb0 := hRb (skB f len x)
      have e6 : ab_up t 4 ((skB f len x : Nat) : Int) 6 = 0 := by rw [ab_up_n (by omega)]; exact h6
      have eN : numT f len (.inr a) lo hi = match numP f len x lo hi with
        | .inl e => (-1, .inl e)
        | .inr (z, a') => (z, .inr a') := by
        show (match numP f len a lo hi with
          | .inl e => _
          | .inr (z, a') => _) = _
        rw [numP_sk2 hsx]
      generalize hbb : skB f len x = b at hb hs hd hRb0 e6
      have eP : numP f len x lo hi = if isD (byt f len b) then (if nvl 1000 f b (skD f len b - b) 0 < lo ∨ hi < nvl 1000 f b (skD f len b - b) 0 then .inl (2, (b : Nat)) else .inr (nvl 1000 f b (skD f len b - b) 0, skD f len b)) else .inl (1, (b : Nat)) := by
        unfold numP
        rw [hbb]
      have hdig := (rn_sp (fun k => isD (byt f len k)) (len - b) b)
      have hMr : MT (ab_up t 4 ((b : Nat) : Int)) f len (.inr a) := ⟨by rw [ab_up_n (by omega)]; exact h3, ha, e6, by rw [ab_up_n (by omega)]; exact h7, _, hs.2, by rw [← hbb, skB_id f len x hx]; exact hsx, ab_up_s⟩
      -- behind the digits: with state u, value v
      have k9 : ∀ (u : Nat → Int) (v : Int), MT u f len (numT f len (.inr a) lo hi).2 → MU t u → (isR (numT f len (.inr a) lo hi).2 = true → v = (numT f len (.inr a) lo hi).1) → At 9 [some (rf 57), some (.inl lo), some (.inl hi), some (.inl b), some (.inl v)] [] (ab_st σ 57 (m10 u)) 0 0 := fun u v hMu hUu hv => by
        have q57 : (ab_st σ 57 (m10 u)).2 57 = some (m10 u) := st_s
        refine hA 9 _ rfl _ _ _ _ _ ?_
        refine Exists.intro _ (And.intro (by first | assumption | exact st_s | exact st_e (by decide) (by assumption) | exact st_e (by omega) (by assumption) | exact st_e (by decide) st_s | exact st_e (by omega) st_s | exact st_e (by decide) (st_e (by decide) (by assumption)) | exact st_e (by omega) (st_e (by omega) (by assumption))) (And.intro rfl (ab_inv_ev (m_fine q57 hMu) (by first | decide | omega) (by first | exact Nat.le_refl _ | omega) (by first | exact Nat.le_refl _ | omega) ?_)))
        refine And.intro (by first | assumption | exact b2i_R _ | exact rR (by omega) (by omega) | exact rR (by simp only [Int.toNat_natCast]; omega) (by simp only [Int.toNat_natCast]; omega)) (And.intro (fun q => ?_) (fun q => ?_))
        · refine hA 11 _ rfl _ _ _ _ _ ?_
          refine hA 12 _ rfl _ _ _ _ _ ?_
          refine ⟨?_, u, rfl, hMu, hUu⟩
          rw [if_neg (by rw [b2i_0 q]; exact Bool.false_ne_true)]
        · refine hA 10 _ rfl _ _ _ _ _ ?_
          refine hA 12 _ rfl _ _ _ _ _ ?_
          refine ⟨?_, u, rfl, hMu, hUu⟩
          rw [if_pos (b2i_1 q), hv (b2i_1 q)]
      have k7 : ∀ (u : Nat → Int) (v : Int), ab_R v → ab_R (u 6) → MT (if lo ≤ v ∧ v ≤ hi then u else wrT u 2 (b : Nat)) f len (numT f len (.inr a) lo hi).2 → MU t u → (isR (numT f len (.inr a) lo hi).2 = true → v = (numT f len (.inr a) lo hi).1) → At 7 [some (rf 57), some (.inl lo), some (.inl hi), some (.inl b), some (.inl v)] [] (ab_st σ 57 (m10 u)) 0 0 := fun u v hvR h6R hMu hUu hv => by
        have q57 : (ab_st σ 57 (m10 u)).2 57 = some (m10 u) := st_s
        refine hA 7 _ rfl _ _ _ _ _ ?_
        refine And.intro rfl (ab_inv_ev (m_in v lo hi hvR hlo hhi) (by first | decide | omega) (by first | exact Nat.le_refl _ | omega) (by first | exact Nat.le_refl _ | omega) ?_)
        refine And.intro (by first | assumption | exact b2i_R _ | exact rR (by omega) (by omega) | exact rR (by simp only [Int.toNat_natCast]; omega) (by simp only [Int.toNat_natCast]; omega)) (And.intro (fun q => ?_) (fun q => ?_))
        · have hq := of_decide_eq_true (b2i_1 q)
          rw [if_pos hq] at hMu
          exact k9 u v hMu hUu hv
        · have hq := of_decide_eq_false (b2i_0 q)
          rw [if_neg hq] at hMu
          have k := k9 _ v hMu (hUu.wr _ _) hv
          have hw := m_wrong q57 h6R 2 (b : Nat)
          rw [st_st] at hw
          refine hA 8 _ rfl _ _ _ _ _ ?_
          refine Exists.intro _ (And.intro (by first | assumption | exact st_s | exact st_e (by decide) (by assumption) | exact st_e (by omega) (by assumption) | exact st_e (by decide) st_s | exact st_e (by omega) st_s | exact st_e (by decide) (st_e (by decide) (by assumption)) | exact st_e (by omega) (st_e (by omega) (by assumption))) (And.intro rfl (ab_inv_ev hw (by first | decide | omega) (by first | exact Nat.le_refl _ | omega) (by first | exact Nat.le_refl _ | omega) ?_)))
          exact k
      cases hdg : isD (byt f len b) with
      | false =>
        have q57 : (ab_st σ 57 (m10 (ab_up t 4 (b : Nat)))).2 57 = some (m10 (ab_up t 4 (b : Nat))) := st_s
        have e4 : ab_up t 4 ((b : Nat) : Int) 4 = (b : Nat) := ab_up_s
        have hw := m_wrong q57 (by rw [e6]; exact rR (by omega) (by omega)) 1 (b : Nat)
        rw [st_st] at hw
        have hMw : MT (wrT (ab_up t 4 ((b : Nat) : Int)) 1 (b : Nat)) f len (.inl (1, (b : Nat))) := MT.wr hMr 1 _ (by decide) (rR (by omega) (by omega))
        have eN2 : (numT f len (.inr a) lo hi).2 = .inl (1, (b : Nat)) := by rw [eN, eP, hdg, if_neg Bool.false_ne_true]
        have w6 : wrT (ab_up t 4 ((b : Nat) : Int)) 1 (b : Nat) 6 = 1 := hMw.2.2.2.1
        have w4 : wrT (ab_up t 4 ((b : Nat) : Int)) 1 (b : Nat) 4 = (b : Nat) := by
          unfold wrT
          rw [if_pos e6, ab_up_n (by omega), ab_up_n (by omega)]
          exact e4
        have hUw : MU t (wrT (ab_up t 4 ((b : Nat) : Int)) 1 (b : Nat)) := ((MU.rf t).a4 _).wr _ _
        generalize wrT (ab_up t 4 ((b : Nat) : Int)) 1 (b : Nat) = u at hw hMw w6 w4 hUw
        have w57 : (ab_st σ 57 (m10 u)).2 57 = some (m10 u) := st_s
        have w59 : (ab_st σ 57 (m10 u)).2 59 = some (bya f) := st_e (by omega) h59
        have hba := m_byteAt w57 w59 hMw.1 hl b (by omega)
        rw [← w4] at hba
        have k := k7 u 0 (rR (by omega) (by omega)) (by rw [w6]; exact rR (by omega) (by omega)) (by
          rw [eN2]
          have e : wrT u 2 (b : Nat) = u := by
            unfold wrT
            rw [if_neg (by omega)]
          rw [e]
          split <;> exact hMw) hUw (fun h => by rw [eN2] at h; exact absurd h Bool.false_ne_true)
        refine hA 2 _ rfl _ _ _ _ _ ?_
        refine Exists.intro _ (And.intro (by first | assumption | exact st_s | exact st_e (by decide) (by assumption) | exact st_e (by omega) (by assumption) | exact st_e (by decide) st_s | exact st_e (by omega) st_s | exact st_e (by decide) (st_e (by decide) (by assumption)) | exact st_e (by omega) (st_e (by omega) (by assumption))) (And.intro rfl (ab_inv_ev hb (by first | decide | omega) (by first | exact Nat.le_refl _ | omega) (by first | exact Nat.le_refl _ | omega) ?_)))
        refine And.intro rfl (ab_inv_ev (m_isDigit (byt f len b) (rR (by omega) (by omega))) (by first | decide | omega) (by first | exact Nat.le_refl _ | omega) (by first | exact Nat.le_refl _ | omega) ?_)
        refine And.intro (by first | assumption | exact b2i_R _ | exact rR (by omega) (by omega) | exact rR (by simp only [Int.toNat_natCast]; omega) (by simp only [Int.toNat_natCast]; omega)) (And.intro (fun q => ?_) (fun q => ?_))
        · rw [hdg] at q; exact absurd rfl q
        · rw [← w4] at k
          refine hA 3 _ rfl _ _ _ _ _ ?_
          refine Exists.intro _ (And.intro (q57) ?_)
          refine Exists.intro _ (And.intro q57 (And.intro rfl (ab_inv_ev hw (by first | decide | omega) (by first | exact Nat.le_refl _ | omega) (by first | exact Nat.le_refl _ | omega) ?_)))
          refine hA 4 _ rfl _ _ _ _ _ ?_
          refine Exists.intro _ (And.intro (w57) ?_)
          refine hA 5 _ rfl _ _ _ _ _ ?_
          refine Exists.intro _ (And.intro (w57) ?_)
          refine Exists.intro _ (And.intro w57 (And.intro rfl (ab_inv_ev hba (by first | decide | omega) (by first | exact Nat.le_refl _ | omega) (by first | exact Nat.le_refl _ | omega) ?_)))
          refine And.intro rfl (ab_inv_ev (m_isDigit (byt f len b) (rR (by omega) (by omega))) (by first | decide | omega) (by first | exact Nat.le_refl _ | omega) (by first | exact Nat.le_refl _ | omega) ?_)
          refine And.intro (b2i_R _) (And.intro (fun q => ?_) (fun q => ?_))
          · exact k
          · rw [hdg] at q; exact absurd rfl q
      | true =>
        have hbl : b < len := by
          rcases Nat.lt_or_ge b len with h | h
          · exact h
          · rw [byt_ge h] at hdg; cases hdg
        have hall : ∀ j, b ≤ j → j < skD f len b → 48 ≤ f j ∧ f j ≤ 57 := fun j h1 h2 => by
          have := hdig.2.2.1 j h1 h2
          rw [byt_lt (by omega)] at this
          unfold isD at this
          rw [Bool.and_eq_true, decide_eq_true_iff, decide_eq_true_iff] at this
          exact this
        have loop : ∀ (m i : Nat) (v : Int), i + m = skD f len b → b ≤ i → 0 ≤ v → v ≤ 100000 → nvl 100000 f i m v = nvl 100000 f b (skD f len b - b) 0 → At 5 [some (rf 57), some (.inl lo), some (.inl hi), some (.inl b), some (.inl v)] [] (ab_st σ 57 (m10 (ab_up t 4 i))) 0 0 := by
          intro m
          induction m with
          | zero =>
            intro i v hie hbi hv0 hv1 he
            have hie : i = skD f len b := by omega
            have u57 : (ab_st σ 57 (m10 (ab_up t 4 i))).2 57 = some (m10 (ab_up t 4 i)) := st_s
            have u59 : (ab_st σ 57 (m10 (ab_up t 4 i))).2 59 = some (bya f) := st_e (by omega) h59
            have e4 : ab_up t 4 ((i : Nat) : Int) 4 = i := ab_up_s
            have hba := m_byteAt u57 u59 (show ab_up t 4 ((i : Nat) : Int) 3 = len by rw [ab_up_n (by omega)]; exact h3) hl i (by omega)
            rw [← e4] at hba
            have hRi := hRb i
            have hnd : isD (byt f len i) = false := by
              rcases Nat.lt_or_ge i len with h | h
              · have := hdig.2.2.2 (by show skD f len b < _; omega)
                rw [hie]
                exact this
              · rw [byt_ge h]; rfl
            have hv : v = nvl 100000 f b (skD f len b - b) 0 := he
            have hnv := nvl_2 f hf (skD f len b - b) b 0 0 (fun j h1 h2 => hall j h1 (by omega)) (by omega) (Or.inl ⟨rfl, by decide⟩) (by omega)
            rw [← hv] at hnv
            have u6 : ab_up t 4 ((i : Nat) : Int) 6 = 0 := by rw [ab_up_n (by omega)]; exact h6
            have k := k7 (ab_up t 4 ((i : Nat) : Int)) v (rR (by omega) (by omega)) (by rw [u6]; exact rR (by omega) (by omega)) (by
              rw [eN, eP, hdg, if_pos rfl]
              by_cases hin : lo ≤ v ∧ v ≤ hi
              · rw [if_pos hin, if_neg (by omega)]
                exact ⟨by rw [ab_up_n (by omega)]; exact h3, hd.2, u6, by rw [ab_up_n (by omega)]; exact h7, i, by omega, by rw [hie], ab_up_s⟩
              · rw [if_neg hin, if_pos (by omega)]
                exact MT.wr (s := .inr (skD f len b)) ⟨by rw [ab_up_n (by omega)]; exact h3, hd.2, u6, by rw [ab_up_n (by omega)]; exact h7, i, by omega, by rw [hie], ab_up_s⟩ 2 _ (by decide) (rR (by omega) (by omega))) ((MU.rf t).a4 _) (fun h => by
              rw [eN, eP, hdg, if_pos rfl] at h ⊢
              by_cases hin : nvl 1000 f b (skD f len b - b) 0 < lo ∨ hi < nvl 1000 f b (skD f len b - b) 0
              · rw [if_pos hin] at h; exact absurd h Bool.false_ne_true
              · rw [if_neg hin]; show v = nvl 1000 f b (skD f len b - b) 0; omega)
            refine hA 5 _ rfl _ _ _ _ _ ?_
            refine Exists.intro _ (And.intro (u57) ?_)
            refine Exists.intro _ (And.intro u57 (And.intro rfl (ab_inv_ev hba (by first | decide | omega) (by first | exact Nat.le_refl _ | omega) (by first | exact Nat.le_refl _ | omega) ?_)))
            refine And.intro rfl (ab_inv_ev (m_isDigit (byt f len i) (rR (by omega) (by omega))) (by first | decide | omega) (by first | exact Nat.le_refl _ | omega) (by first | exact Nat.le_refl _ | omega) ?_)
            refine And.intro (b2i_R _) (And.intro (fun q => ?_) (fun q => ?_))
            · exact k
            · rw [hnd] at q; exact absurd rfl q
          | succ m ih =>
            intro i v hie hbi hv0 hv1 he
            have hil : i < len := by omega
            have u57 : (ab_st σ 57 (m10 (ab_up t 4 i))).2 57 = some (m10 (ab_up t 4 i)) := st_s
            have u59 : (ab_st σ 57 (m10 (ab_up t 4 i))).2 59 = some (bya f) := st_e (by omega) h59
            have e4 : ab_up t 4 ((i : Nat) : Int) 4 = i := ab_up_s
            have hba := m_byteAt u57 u59 (show ab_up t 4 ((i : Nat) : Int) 3 = len by rw [ab_up_n (by omega)]; exact h3) hl i (by omega)
            rw [← e4] at hba
            have hRi := hRb i
            have hdi : isD (byt f len i) = true := hdig.2.2.1 i hbi (by show i < skD f len b; omega)
            have hfi2 := hall i hbi (by omega)
            have hbf : byt f len i = f i := byt_lt hil
            have hle := m_less (σ := ab_st σ 57 (m10 (ab_up t 4 i))) 100000 (10 * v + byt f len i - 48) (rR (by omega) (by omega)) (rR (by omega) (by omega))
            have hmn : (if (10 * v + byt f len i - 48) ≤ (100000 : Int) then (10 * v + byt f len i - 48) else 100000) = min (v * 10 + f i - 48) 100000 := by rw [hbf]; split <;> omega
            rw [hmn] at hle
            have ihi := ih (i + 1) (min (v * 10 + f i - 48) 100000) (by omega) (by omega) (by omega) (by omega) he
            rw [Int.natCast_add] at ihi
            refine hA 5 _ rfl _ _ _ _ _ ?_
            refine Exists.intro _ (And.intro (u57) ?_)
            refine Exists.intro _ (And.intro u57 (And.intro rfl (ab_inv_ev hba (by first | decide | omega) (by first | exact Nat.le_refl _ | omega) (by first | exact Nat.le_refl _ | omega) ?_)))
            refine And.intro rfl (ab_inv_ev (m_isDigit (byt f len i) (rR (by omega) (by omega))) (by first | decide | omega) (by first | exact Nat.le_refl _ | omega) (by first | exact Nat.le_refl _ | omega) ?_)
            refine And.intro (b2i_R _) (And.intro (fun q => ?_) (fun q => ?_))
            · rw [hdi] at q; exact absurd q (by decide)
            · refine hA 6 _ rfl _ _ _ _ _ ?_
              refine Exists.intro _ (And.intro (u57) ?_)
              refine Exists.intro _ (And.intro u57 (And.intro rfl (ab_inv_ev hba (by first | decide | omega) (by first | exact Nat.le_refl _ | omega) (by first | exact Nat.le_refl _ | omega) ?_)))
              refine And.intro rfl (ab_inv_ev hle (by first | decide | omega) (by first | exact Nat.le_refl _ | omega) (by first | exact Nat.le_refl _ | omega) ?_)
              refine Exists.intro _ (And.intro (u57) ?_)
              refine Exists.intro _ (And.intro (u57) ?_)
              rw [m10_s4, st_st, up_up, e4]
              exact ihi
        have q57 : (ab_st σ 57 (m10 (ab_up t 4 (b : Nat)))).2 57 = some (m10 (ab_up t 4 (b : Nat))) := st_s
        have e4 : ab_up t 4 ((b : Nat) : Int) 4 = (b : Nat) := ab_up_s
        have l0 := loop (skD f len b - b) b 0 (by omega) (Nat.le_refl _) (by omega) (by omega) rfl
        refine hA 2 _ rfl _ _ _ _ _ ?_
        refine Exists.intro _ (And.intro (by first | assumption | exact st_s | exact st_e (by decide) (by assumption) | exact st_e (by omega) (by assumption) | exact st_e (by decide) st_s | exact st_e (by omega) st_s | exact st_e (by decide) (st_e (by decide) (by assumption)) | exact st_e (by omega) (st_e (by omega) (by assumption))) (And.intro rfl (ab_inv_ev hb (by first | decide | omega) (by first | exact Nat.le_refl _ | omega) (by first | exact Nat.le_refl _ | omega) ?_)))
        refine And.intro rfl (ab_inv_ev (m_isDigit (byt f len b) (rR (by omega) (by omega))) (by first | decide | omega) (by first | exact Nat.le_refl _ | omega) (by first | exact Nat.le_refl _ | omega) ?_)
        refine And.intro (by first | assumption | exact b2i_R _ | exact rR (by omega) (by omega) | exact rR (by simp only [Int.toNat_natCast]; omega) (by simp only [Int.toNat_natCast]; omega)) (And.intro (fun q => ?_) (fun q => ?_))
        · refine hA 4 _ rfl _ _ _ _ _ ?_
          refine Exists.intro _ (And.intro (q57) ?_)
          rw [e4]
          exact l0
        · rw [hdg] at q; exact absurd q (by decide)
    · exact absurd (show (1 : Int) = 0 from q) (by decide)
end Mread
