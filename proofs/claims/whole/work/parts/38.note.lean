-- ===== questions: what is noted of them =====
abbrev N3 : Type := Nat × Nat × Nat
abbrev N4 : Type := Nat × Nat × Nat × Nat
abbrev qsc (L : Nat) : ab_C := .inl (5, [rf 1, rf 3, rf 30, rf 31, rf 32, .inl L])
def nA (a : Nat) : Prop := 29 ≤ a ∧ a ≤ 32
/-- the notes' cells: exact as long as there is no fault -/
def NS (σ : ab_H) (b : Bool) (NL : List N3) : Prop := ∃ (L : Nat) (cl co nu : Nat → Int), L ≤ 200 ∧ σ.2 29 = some (qsc L) ∧ σ.2 30 = some (.inr (.inl (0, 200, cl))) ∧ σ.2 31 = some (.inr (.inl (0, 200, co))) ∧ σ.2 32 = some (.inr (.inl (0, 200, nu))) ∧
  (b = true → L = NL.length ∧ ∀ j, j < L → cl j = ((NL.getD j (0, 0, 0)).1 : Nat) ∧ co j = ((NL.getD j (0, 0, 0)).2.1 : Nat) ∧ nu j = ((NL.getD j (0, 0, 0)).2.2 : Nat))
theorem NS.fr {σ σ' : ab_H} {b : Bool} {NL : List N3} {A : Nat → Prop} (h : NS σ b NL) (hf : fr A σ σ') (hA : ∀ a, 29 ≤ a → a ≤ 32 → ¬ A a) : NS σ' b NL := by
  obtain ⟨L, cl, co, nu, h1, h2, h3, h4, h5, h6⟩ := h
  exact ⟨L, cl, co, nu, h1, (hf.2 _ (hA _ (by omega) (by omega))).trans h2, (hf.2 _ (hA _ (by omega) (by omega))).trans h3, (hf.2 _ (hA _ (by omega) (by omega))).trans h4, (hf.2 _ (hA _ (by omega) (by omega))).trans h5, h6⟩
theorem NS.lo {σ : ab_H} {b c : Bool} {NL NM : List N3} (h : NS σ b NL) (hc : c = true → b = true) (hN : c = true → NL = NM) : NS σ c NM := by
  obtain ⟨L, cl, co, nu, h1, h2, h3, h4, h5, h6⟩ := h
  refine ⟨L, cl, co, nu, h1, h2, h3, h4, h5, fun e => ?_⟩
  rw [← hN e]
  exact h6 (hc e)
/-- what is noted of a comparison with a number -/
def upN (K : Nat → CT) (c : Nat) (n : Int) : List N3 := if n < 0 then [(13, 0, 0)] else if ((K c).2.1 : Int) - 1 ≤ n then [(12, 0, 0)] else [(0, c, n.toNat)]
def eqN (K : Nat → CT) (c : Nat) (n : Nat) : List N3 := [(if n < (K c).2.1 then 4 else 13, c, n)]
def cmpB (K : Nat → CT) (i c n : Nat) : List N3 := if i = 0 ∨ i = 3 then upN K c n else if i = 1 ∨ i = 2 then upN K c ((n : Int) - 1) else eqN K c n
def cmpN (K : Nat → CT) (i c n : Nat) : List N3 := cmpB K i c n ++ (if i = 2 ∨ i = 3 ∨ i = 5 then [(11, 0, 0)] else [])
def btwN (K : Nat → CT) (c n m : Nat) : List N3 := if m < n then [(13, 0, 0)] else upN K c m ++ (if 0 < n then upN K c ((n : Int) - 1) ++ [(10, 0, 0)] else [])
theorem upN_len (K : Nat → CT) (c : Nat) (n : Int) : (upN K c n).length = 1 := by unfold upN; split <;> (try split) <;> rfl
theorem cmpB_len (K : Nat → CT) (i c n : Nat) : (cmpB K i c n).length = 1 := by
  unfold cmpB
  split
  · exact upN_len _ _ _
  · split
    · exact upN_len _ _ _
    · rfl
theorem cmpN_len (K : Nat → CT) (i c n : Nat) : (cmpN K i c n).length ≤ 2 := by
  unfold cmpN
  rw [List.length_append, cmpB_len]
  split <;> decide
theorem btwN_len (K : Nat → CT) (c n m : Nat) : (btwN K c n m).length ≤ 3 := by
  unfold btwN
  split
  · decide
  · rw [List.length_append, upN_len]
    split
    · rw [List.length_append, upN_len]; decide
    · decide
section Note
variable {σ : ab_H} {cc rows : Nat} {K : Nat → CT} {va : Nat → Nat → Nat} {ad : Nat → Nat} {NL : List N3}
set_option maxRecDepth 100000 in
set_option maxHeartbeats 1000000 in
theorem c_note {b : Bool} (h : NS σ b NL) (hb : b = true → NL.length < 200) (i c n : Nat) : ab_call 1 0 0 yX5_note [rf 29, .inl i, .inl c, .inl n] σ (fun r σ' => r = .inl none ∧ fr nA σ σ' ∧ NS σ' b (NL ++ [(i, c, n)])) := by
  obtain ⟨L, cl, co, nu, k1, k2, k3, k4, k5, k6⟩ := h
  refine eX5_note rfl (fun At hA => ?_)
  refine hA 0 _ rfl _ _ _ _ _ ?_
  refine Exists.intro _ (And.intro (by first | assumption | exact st_s | exact st_e (by decide) (by assumption) | exact st_e (by omega) (by assumption) | exact st_e (by decide) st_s | exact st_e (by omega) st_s | exact st_e (by decide) (st_e (by decide) (by assumption)) | exact st_e (by omega) (st_e (by omega) (by assumption))) ?_)
  refine And.intro (And.intro (by first | assumption | exact b2i_R _ | exact rR (by omega) (by omega) | exact rR (by simp only [Int.toNat_natCast]; omega) (by simp only [Int.toNat_natCast]; omega)) (by first | assumption | exact b2i_R _ | exact rR (by omega) (by omega) | exact rR (by simp only [Int.toNat_natCast]; omega) (by simp only [Int.toNat_natCast]; omega))) (And.intro (fun q => ?_) (fun q => ?_))
  · refine hA 2 _ rfl _ _ _ _ _ ?_
    refine ⟨rfl, fr_rf _ _, L, cl, co, nu, k1, k2, k3, k4, k5, fun e => ?_⟩
    have := hb e
    have := (k6 e).1
    omega
  · have hL : L < 200 := by omega
    refine hA 1 _ rfl _ _ _ _ _ ?_
    refine Exists.intro _ (And.intro (by first | assumption | exact st_s | exact st_e (by decide) (by assumption) | exact st_e (by omega) (by assumption) | exact st_e (by decide) st_s | exact st_e (by omega) st_s | exact st_e (by decide) (st_e (by decide) (by assumption)) | exact st_e (by omega) (st_e (by omega) (by assumption))) ?_)
    refine Exists.intro _ (And.intro (by first | assumption | exact st_s | exact st_e (by decide) (by assumption) | exact st_e (by omega) (by assumption) | exact st_e (by decide) st_s | exact st_e (by omega) st_s | exact st_e (by decide) (st_e (by decide) (by assumption)) | exact st_e (by omega) (st_e (by omega) (by assumption))) ?_)
    refine Exists.intro _ (Exists.intro _ (And.intro (by first | assumption | exact st_s | exact st_e (by decide) (by assumption) | exact st_e (by omega) (by assumption) | exact st_e (by decide) st_s | exact st_e (by omega) st_s | exact st_e (by decide) (st_e (by decide) (by assumption)) | exact st_e (by omega) (st_e (by omega) (by assumption))) (And.intro (by first | omega | (simp only [Int.toNat_natCast]; omega)) ?_)))
    refine Exists.intro _ (And.intro (by first | assumption | exact st_s | exact st_e (by decide) (by assumption) | exact st_e (by omega) (by assumption) | exact st_e (by decide) st_s | exact st_e (by omega) st_s | exact st_e (by decide) (st_e (by decide) (by assumption)) | exact st_e (by omega) (st_e (by omega) (by assumption))) ?_)
    refine Exists.intro _ (And.intro (by first | assumption | exact st_s | exact st_e (by decide) (by assumption) | exact st_e (by omega) (by assumption) | exact st_e (by decide) st_s | exact st_e (by omega) st_s | exact st_e (by decide) (st_e (by decide) (by assumption)) | exact st_e (by omega) (st_e (by omega) (by assumption))) ?_)
    refine Exists.intro _ (Exists.intro _ (And.intro (by first | assumption | exact st_s | exact st_e (by decide) (by assumption) | exact st_e (by omega) (by assumption) | exact st_e (by decide) st_s | exact st_e (by omega) st_s | exact st_e (by decide) (st_e (by decide) (by assumption)) | exact st_e (by omega) (st_e (by omega) (by assumption))) (And.intro (by first | omega | (simp only [Int.toNat_natCast]; omega)) ?_)))
    refine Exists.intro _ (And.intro (by first | assumption | exact st_s | exact st_e (by decide) (by assumption) | exact st_e (by omega) (by assumption) | exact st_e (by decide) st_s | exact st_e (by omega) st_s | exact st_e (by decide) (st_e (by decide) (by assumption)) | exact st_e (by omega) (st_e (by omega) (by assumption))) ?_)
    refine Exists.intro _ (And.intro (by first | assumption | exact st_s | exact st_e (by decide) (by assumption) | exact st_e (by omega) (by assumption) | exact st_e (by decide) st_s | exact st_e (by omega) st_s | exact st_e (by decide) (st_e (by decide) (by assumption)) | exact st_e (by omega) (st_e (by omega) (by assumption))) ?_)
    refine Exists.intro _ (Exists.intro _ (And.intro (by first | assumption | exact st_s | exact st_e (by decide) (by assumption) | exact st_e (by omega) (by assumption) | exact st_e (by decide) st_s | exact st_e (by omega) st_s | exact st_e (by decide) (st_e (by decide) (by assumption)) | exact st_e (by omega) (st_e (by omega) (by assumption))) (And.intro (by first | omega | (simp only [Int.toNat_natCast]; omega)) ?_)))
    refine Exists.intro _ (And.intro (by first | assumption | exact st_s | exact st_e (by decide) (by assumption) | exact st_e (by omega) (by assumption) | exact st_e (by decide) st_s | exact st_e (by omega) st_s | exact st_e (by decide) (st_e (by decide) (by assumption)) | exact st_e (by omega) (st_e (by omega) (by assumption))) ?_)
    refine Exists.intro _ (And.intro (by first | assumption | exact st_s | exact st_e (by decide) (by assumption) | exact st_e (by omega) (by assumption) | exact st_e (by decide) st_s | exact st_e (by omega) st_s | exact st_e (by decide) (st_e (by decide) (by assumption)) | exact st_e (by omega) (st_e (by omega) (by assumption))) ?_)
    refine hA 2 _ rfl _ _ _ _ _ ?_
    refine ⟨rfl, (((fr_rf _ _).st ⟨by omega, by omega⟩).st ⟨by omega, by omega⟩).st ⟨by omega, by omega⟩ |>.st ⟨by omega, by omega⟩, L + 1, ab_up cl L i, ab_up co L c, ab_up nu L n, by omega, st_s, st_e (by decide) (st_e (by decide) (st_e (by decide) st_s)), st_e (by decide) (st_e (by decide) st_s), st_e (by decide) st_s, fun e => ?_⟩
    obtain ⟨e1, e2⟩ := k6 e
    subst e1
    refine ⟨by rw [List.length_append]; rfl, fun j hj => ?_⟩
    by_cases ej : j = NL.length
    · subst ej
      rw [ab_up_s, ab_up_s, ab_up_s]
      simp [List.getD]
    · rw [ab_up_n ej, ab_up_n ej, ab_up_n ej]
      have := e2 j (by omega)
      simp only [List.getD] at this ⊢
      rw [List.getElem?_append_left (by omega)]
      exact this
set_option maxRecDepth 100000 in
set_option maxHeartbeats 1000000 in
theorem c_note0 {NM : List N3} (h : NS σ false NL) (i c n : Int) : ab_call 1 0 0 yX5_note [rf 29, .inl i, .inl c, .inl n] σ (fun r σ' => r = .inl none ∧ fr nA σ σ' ∧ NS σ' false NM) := by
  obtain ⟨L, cl, co, nu, k1, k2, k3, k4, k5, k6⟩ := h
  refine eX5_note rfl (fun At hA => ?_)
  refine hA 0 _ rfl _ _ _ _ _ ?_
  refine Exists.intro _ (And.intro (by first | assumption | exact st_s | exact st_e (by decide) (by assumption) | exact st_e (by omega) (by assumption) | exact st_e (by decide) st_s | exact st_e (by omega) st_s | exact st_e (by decide) (st_e (by decide) (by assumption)) | exact st_e (by omega) (st_e (by omega) (by assumption))) ?_)
  refine And.intro (And.intro (by first | assumption | exact b2i_R _ | exact rR (by omega) (by omega) | exact rR (by simp only [Int.toNat_natCast]; omega) (by simp only [Int.toNat_natCast]; omega)) (by first | assumption | exact b2i_R _ | exact rR (by omega) (by omega) | exact rR (by simp only [Int.toNat_natCast]; omega) (by simp only [Int.toNat_natCast]; omega))) (And.intro (fun q => ?_) (fun q => ?_))
  · refine hA 2 _ rfl _ _ _ _ _ ?_
    exact ⟨rfl, fr_rf _ _, L, cl, co, nu, k1, k2, k3, k4, k5, fun e => by cases e⟩
  · have hL : L < 200 := by omega
    refine hA 1 _ rfl _ _ _ _ _ ?_
    refine Exists.intro _ (And.intro (by first | assumption | exact st_s | exact st_e (by decide) (by assumption) | exact st_e (by omega) (by assumption) | exact st_e (by decide) st_s | exact st_e (by omega) st_s | exact st_e (by decide) (st_e (by decide) (by assumption)) | exact st_e (by omega) (st_e (by omega) (by assumption))) ?_)
    refine Exists.intro _ (And.intro (by first | assumption | exact st_s | exact st_e (by decide) (by assumption) | exact st_e (by omega) (by assumption) | exact st_e (by decide) st_s | exact st_e (by omega) st_s | exact st_e (by decide) (st_e (by decide) (by assumption)) | exact st_e (by omega) (st_e (by omega) (by assumption))) ?_)
    refine Exists.intro _ (Exists.intro _ (And.intro (by first | assumption | exact st_s | exact st_e (by decide) (by assumption) | exact st_e (by omega) (by assumption) | exact st_e (by decide) st_s | exact st_e (by omega) st_s | exact st_e (by decide) (st_e (by decide) (by assumption)) | exact st_e (by omega) (st_e (by omega) (by assumption))) (And.intro (by first | omega | (simp only [Int.toNat_natCast]; omega)) ?_)))
    refine Exists.intro _ (And.intro (by first | assumption | exact st_s | exact st_e (by decide) (by assumption) | exact st_e (by omega) (by assumption) | exact st_e (by decide) st_s | exact st_e (by omega) st_s | exact st_e (by decide) (st_e (by decide) (by assumption)) | exact st_e (by omega) (st_e (by omega) (by assumption))) ?_)
    refine Exists.intro _ (And.intro (by first | assumption | exact st_s | exact st_e (by decide) (by assumption) | exact st_e (by omega) (by assumption) | exact st_e (by decide) st_s | exact st_e (by omega) st_s | exact st_e (by decide) (st_e (by decide) (by assumption)) | exact st_e (by omega) (st_e (by omega) (by assumption))) ?_)
    refine Exists.intro _ (Exists.intro _ (And.intro (by first | assumption | exact st_s | exact st_e (by decide) (by assumption) | exact st_e (by omega) (by assumption) | exact st_e (by decide) st_s | exact st_e (by omega) st_s | exact st_e (by decide) (st_e (by decide) (by assumption)) | exact st_e (by omega) (st_e (by omega) (by assumption))) (And.intro (by first | omega | (simp only [Int.toNat_natCast]; omega)) ?_)))
    refine Exists.intro _ (And.intro (by first | assumption | exact st_s | exact st_e (by decide) (by assumption) | exact st_e (by omega) (by assumption) | exact st_e (by decide) st_s | exact st_e (by omega) st_s | exact st_e (by decide) (st_e (by decide) (by assumption)) | exact st_e (by omega) (st_e (by omega) (by assumption))) ?_)
    refine Exists.intro _ (And.intro (by first | assumption | exact st_s | exact st_e (by decide) (by assumption) | exact st_e (by omega) (by assumption) | exact st_e (by decide) st_s | exact st_e (by omega) st_s | exact st_e (by decide) (st_e (by decide) (by assumption)) | exact st_e (by omega) (st_e (by omega) (by assumption))) ?_)
    refine Exists.intro _ (Exists.intro _ (And.intro (by first | assumption | exact st_s | exact st_e (by decide) (by assumption) | exact st_e (by omega) (by assumption) | exact st_e (by decide) st_s | exact st_e (by omega) st_s | exact st_e (by decide) (st_e (by decide) (by assumption)) | exact st_e (by omega) (st_e (by omega) (by assumption))) (And.intro (by first | omega | (simp only [Int.toNat_natCast]; omega)) ?_)))
    refine Exists.intro _ (And.intro (by first | assumption | exact st_s | exact st_e (by decide) (by assumption) | exact st_e (by omega) (by assumption) | exact st_e (by decide) st_s | exact st_e (by omega) st_s | exact st_e (by decide) (st_e (by decide) (by assumption)) | exact st_e (by omega) (st_e (by omega) (by assumption))) ?_)
    refine Exists.intro _ (And.intro (by first | assumption | exact st_s | exact st_e (by decide) (by assumption) | exact st_e (by omega) (by assumption) | exact st_e (by decide) st_s | exact st_e (by omega) st_s | exact st_e (by decide) (st_e (by decide) (by assumption)) | exact st_e (by omega) (st_e (by omega) (by assumption))) ?_)
    refine hA 2 _ rfl _ _ _ _ _ ?_
    exact ⟨rfl, (((fr_rf _ _).st ⟨by omega, by omega⟩).st ⟨by omega, by omega⟩).st ⟨by omega, by omega⟩ |>.st ⟨by omega, by omega⟩, L + 1, ab_up cl L i, ab_up co L c, ab_up nu L n, by omega, st_s, st_e (by decide) (st_e (by decide) (st_e (by decide) st_s)), st_e (by decide) (st_e (by decide) st_s), st_e (by decide) st_s, fun e => by cases e⟩
set_option maxRecDepth 100000 in
set_option maxHeartbeats 1000000 in
theorem c_noteUpTo (h3 : σ.2 3 = some (tbc cc rows)) (hC : IsCs σ cc rows K va ad) (h : NS σ true NL) (hb : NL.length < 200) (c : Nat) (hc : c < cc) (n : Int) (hn : ab_R n) : ab_call 2 0 0 yX5_noteUpTo [rf 29, .inl c, .inl n] σ (fun r σ' => r = .inl none ∧ fr nA σ σ' ∧ NS σ' true (NL ++ upN K c n)) := by
  obtain ⟨hcc4, ⟨A, h4, hAd⟩, hcol⟩ := id hC
  obtain ⟨k1, -, k3, -⟩ := hcol c hc
  have hAc := hAd c hc
  have h0 := k3.1
  have hcd := k1.2.2.2
  obtain ⟨L, cl, co, nu, l1, l2, l3, l4, l5, l6⟩ := id h
  refine eX5_noteUpTo rfl (fun At hA => ?_)
  have k5 : ∀ (τ : ab_H) (Lo : ab_L), fr nA σ τ → NS τ true (NL ++ upN K c n) → At 5 Lo [] τ 0 0 := fun τ Lo hf hN => by
    refine hA 5 _ rfl _ _ _ _ _ ?_
    exact ⟨rfl, hf, hN⟩
  refine hA 0 _ rfl _ _ _ _ _ ?_
  refine And.intro (by first | assumption | exact b2i_R _ | exact rR (by omega) (by omega) | exact rR (by simp only [Int.toNat_natCast]; omega) (by simp only [Int.toNat_natCast]; omega)) (And.intro (fun q => ?_) (fun q => ?_))
  · refine hA 2 _ rfl _ _ _ _ _ ?_
    refine Exists.intro _ (And.intro (l2) ?_)
    refine Exists.intro _ (And.intro (h3) ?_)
    refine Exists.intro _ (Exists.intro _ (And.intro (h4) (And.intro (by omega) ?_)))
    simp only [Int.toNat_natCast, hAc]
    refine Exists.intro _ (And.intro (h0) ?_)
    refine And.intro (And.intro hn (rR (by omega) (by omega))) (And.intro (fun q2 => ?_) (fun q2 => ?_))
    · have e : upN K c n = [(0, c, n.toNat)] := by unfold upN; rw [if_neg (by omega), if_neg (by omega)]
      have hcall := c_note h (fun _ => hb) 0 c n.toNat
      rw [show ((n.toNat : Nat) : Int) = n by omega] at hcall
      refine hA 4 _ rfl _ _ _ _ _ ?_
      refine Exists.intro _ (And.intro (by first | assumption | exact st_s | exact st_e (by decide) (by assumption) | exact st_e (by omega) (by assumption) | exact st_e (by decide) st_s | exact st_e (by omega) st_s | exact st_e (by decide) (st_e (by decide) (by assumption)) | exact st_e (by omega) (st_e (by omega) (by assumption))) (And.intro rfl (ab_inv_of hcall (by first | decide | omega) (by omega) (by omega) ?_)))
      intro r τ hpost
      obtain ⟨rfl, hf, hN⟩ := hpost
      rw [← e] at hN
      exact k5 τ _ hf hN
    · have e : upN K c n = [(12, 0, 0)] := by unfold upN; rw [if_neg (by omega), if_pos (by omega)]
      refine hA 3 _ rfl _ _ _ _ _ ?_
      refine Exists.intro _ (And.intro (by first | assumption | exact st_s | exact st_e (by decide) (by assumption) | exact st_e (by omega) (by assumption) | exact st_e (by decide) st_s | exact st_e (by omega) st_s | exact st_e (by decide) (st_e (by decide) (by assumption)) | exact st_e (by omega) (st_e (by omega) (by assumption))) (And.intro rfl (ab_inv_of (c_note h (fun _ => hb) 12 0 0) (by first | decide | omega) (by omega) (by omega) ?_)))
      intro r τ hpost
      obtain ⟨rfl, hf, hN⟩ := hpost
      rw [← e] at hN
      exact k5 τ _ hf hN
  · have e : upN K c n = [(13, 0, 0)] := by unfold upN; rw [if_pos (by omega)]
    refine hA 1 _ rfl _ _ _ _ _ ?_
    refine Exists.intro _ (And.intro (by first | assumption | exact st_s | exact st_e (by decide) (by assumption) | exact st_e (by omega) (by assumption) | exact st_e (by decide) st_s | exact st_e (by omega) st_s | exact st_e (by decide) (st_e (by decide) (by assumption)) | exact st_e (by omega) (st_e (by omega) (by assumption))) (And.intro rfl (ab_inv_of (c_note h (fun _ => hb) 13 0 0) (by first | decide | omega) (by omega) (by omega) ?_)))
    intro r τ hpost
    obtain ⟨rfl, hf, hN⟩ := hpost
    rw [← e] at hN
    exact k5 τ _ hf hN
set_option maxRecDepth 100000 in
set_option maxHeartbeats 1000000 in
theorem c_noteEqual (h3 : σ.2 3 = some (tbc cc rows)) (hC : IsCs σ cc rows K va ad) (h : NS σ true NL) (hb : NL.length < 200) (c : Nat) (hc : c < cc) (n : Nat) (hn : n < 1000) : ab_call 2 0 0 yX5_noteEqual [rf 29, .inl c, .inl n] σ (fun r σ' => r = .inl none ∧ fr nA σ σ' ∧ NS σ' true (NL ++ eqN K c n)) := by
  obtain ⟨hcc4, ⟨A, h4, hAd⟩, hcol⟩ := id hC
  obtain ⟨k1, -, k3, -⟩ := hcol c hc
  have hAc := hAd c hc
  have h0 := k3.1
  have hcd := k1.2.2.2
  obtain ⟨L, cl, co, nu, l1, l2, l3, l4, l5, l6⟩ := id h
  refine eX5_noteEqual rfl (fun At hA => ?_)
  have k3 : ∀ i : Nat, i = (if n < (K c).2.1 then 4 else 13) → At 3 [some (rf 29), some (.inl c), some (.inl n)] [.inl i, rf 29] σ 0 0 := fun i hi => by
    subst hi
    refine hA 3 _ rfl _ _ _ _ _ ?_
    refine Exists.intro _ (And.intro (by first | assumption | exact st_s | exact st_e (by decide) (by assumption) | exact st_e (by omega) (by assumption) | exact st_e (by decide) st_s | exact st_e (by omega) st_s | exact st_e (by decide) (st_e (by decide) (by assumption)) | exact st_e (by omega) (st_e (by omega) (by assumption))) (And.intro rfl (ab_inv_of (c_note h (fun _ => hb) _ c n) (by first | decide | omega) (by omega) (by omega) ?_)))
    intro r τ hpost
    obtain ⟨rfl, hf, hN⟩ := hpost
    exact ⟨rfl, hf, hN⟩
  refine hA 0 _ rfl _ _ _ _ _ ?_
  refine Exists.intro _ (And.intro (l2) ?_)
  refine Exists.intro _ (And.intro (h3) ?_)
  refine Exists.intro _ (Exists.intro _ (And.intro (h4) (And.intro (by omega) ?_)))
  simp only [Int.toNat_natCast, hAc]
  refine Exists.intro _ (And.intro (h0) ?_)
  refine And.intro (And.intro (rR (by omega) (by omega)) (rR (by omega) (by omega))) (And.intro (fun q2 => ?_) (fun q2 => ?_))
  · refine hA 2 _ rfl _ _ _ _ _ ?_
    exact k3 13 (by rw [if_neg (by omega)])
  · refine hA 1 _ rfl _ _ _ _ _ ?_
    exact k3 4 (by rw [if_pos (by omega)])
set_option maxRecDepth 100000 in
set_option maxHeartbeats 1000000 in
theorem c_noteComparison (h3 : σ.2 3 = some (tbc cc rows)) (hC : IsCs σ cc rows K va ad) (h : NS σ true NL) (hb : NL.length < 199) (i c : Nat) (hi : i < 6) (hc : c < cc) (n : Nat) (hn : n < 1000) : ab_call 3 0 0 yX5_noteComparison [rf 29, .inl i, .inl c, .inl n] σ (fun r σ' => r = .inl none ∧ fr nA σ σ' ∧ NS σ' true (NL ++ cmpN K i c n)) := by
  refine eX5_noteComparison rfl (fun At hA => ?_)
  have k4 : ∀ τ : ab_H, fr nA σ τ → NS τ true (NL ++ cmpB K i c n) → At 4 [some (rf 29), some (.inl i), some (.inl c), some (.inl n)] [] τ 0 0 := fun τ hf hN => by
    have k7 : (i = 2 ∨ i = 3 ∨ i = 5) → At 7 [some (rf 29), some (.inl i), some (.inl c), some (.inl n)] [] τ 0 0 := fun hq => by
      obtain ⟨L, cl, co, nu, l1, l2, l3, l4, l5, l6⟩ := id hN
      refine hA 7 _ rfl _ _ _ _ _ ?_
      refine Exists.intro _ (And.intro (by first | assumption | exact st_s | exact st_e (by decide) (by assumption) | exact st_e (by omega) (by assumption) | exact st_e (by decide) st_s | exact st_e (by omega) st_s | exact st_e (by decide) (st_e (by decide) (by assumption)) | exact st_e (by omega) (st_e (by omega) (by assumption))) (And.intro rfl (ab_inv_of (c_note hN (fun _ => by rw [List.length_append, cmpB_len]; omega) 11 0 0) (by first | decide | omega) (by omega) (by omega) ?_)))
      intro r υ hpost
      obtain ⟨rfl, hg, hN2⟩ := hpost
      refine hA 8 _ rfl _ _ _ _ _ ?_
      refine ⟨rfl, hf.tr hg, ?_⟩
      unfold cmpN
      rw [if_pos hq, ← List.append_assoc]
      exact hN2
    refine hA 4 _ rfl _ _ _ _ _ ?_
    refine And.intro (And.intro (by first | assumption | exact b2i_R _ | exact rR (by omega) (by omega) | exact rR (by simp only [Int.toNat_natCast]; omega) (by simp only [Int.toNat_natCast]; omega)) (by first | assumption | exact b2i_R _ | exact rR (by omega) (by omega) | exact rR (by simp only [Int.toNat_natCast]; omega) (by simp only [Int.toNat_natCast]; omega))) (And.intro (fun q => ?_) (fun q => ?_))
    · exact k7 (Or.inl (by omega))
    · refine hA 5 _ rfl _ _ _ _ _ ?_
      refine And.intro (And.intro (by first | assumption | exact b2i_R _ | exact rR (by omega) (by omega) | exact rR (by simp only [Int.toNat_natCast]; omega) (by simp only [Int.toNat_natCast]; omega)) (by first | assumption | exact b2i_R _ | exact rR (by omega) (by omega) | exact rR (by simp only [Int.toNat_natCast]; omega) (by simp only [Int.toNat_natCast]; omega))) (And.intro (fun q => ?_) (fun q => ?_))
      · exact k7 (Or.inr (Or.inl (by omega)))
      · refine hA 6 _ rfl _ _ _ _ _ ?_
        refine And.intro (And.intro (by first | assumption | exact b2i_R _ | exact rR (by omega) (by omega) | exact rR (by simp only [Int.toNat_natCast]; omega) (by simp only [Int.toNat_natCast]; omega)) (by first | assumption | exact b2i_R _ | exact rR (by omega) (by omega) | exact rR (by simp only [Int.toNat_natCast]; omega) (by simp only [Int.toNat_natCast]; omega))) (And.intro (fun q => ?_) (fun q => ?_))
        · refine hA 8 _ rfl _ _ _ _ _ ?_
          refine ⟨rfl, hf, ?_⟩
          unfold cmpN
          rw [if_neg (by omega), List.append_nil]
          exact hN
        · exact k7 (Or.inr (Or.inr (by omega)))
  obtain ⟨L, cl, co, nu, l1, l2, l3, l4, l5, l6⟩ := id h
  have k1 : i = 0 ∨ i = 3 → At 1 [some (rf 29), some (.inl i), some (.inl c), some (.inl n)] [] σ 0 0 := fun hq => by
    refine hA 1 _ rfl _ _ _ _ _ ?_
    refine Exists.intro _ (And.intro (by first | assumption | exact st_s | exact st_e (by decide) (by assumption) | exact st_e (by omega) (by assumption) | exact st_e (by decide) st_s | exact st_e (by omega) st_s | exact st_e (by decide) (st_e (by decide) (by assumption)) | exact st_e (by omega) (st_e (by omega) (by assumption))) (And.intro rfl (ab_inv_of (c_noteUpTo h3 hC h (by omega) c hc n (rR (by omega) (by omega))) (by first | decide | omega) (by omega) (by omega) ?_)))
    intro r τ hpost
    obtain ⟨rfl, hf, hN⟩ := hpost
    refine k4 τ hf ?_
    unfold cmpB
    rw [if_pos hq]
    exact hN
  have k2 : i = 1 ∨ i = 2 → At 2 [some (rf 29), some (.inl i), some (.inl c), some (.inl n)] [] σ 0 0 := fun hq => by
    refine hA 2 _ rfl _ _ _ _ _ ?_
    refine Exists.intro _ (And.intro (by first | assumption | exact st_s | exact st_e (by decide) (by assumption) | exact st_e (by omega) (by assumption) | exact st_e (by decide) st_s | exact st_e (by omega) st_s | exact st_e (by decide) (st_e (by decide) (by assumption)) | exact st_e (by omega) (st_e (by omega) (by assumption))) (And.intro rfl (ab_inv_of (c_noteUpTo h3 hC h (by omega) c hc ((n : Int) - 1) (rR (by omega) (by omega))) (by first | decide | omega) (by omega) (by omega) ?_)))
    intro r τ hpost
    obtain ⟨rfl, hf, hN⟩ := hpost
    refine k4 τ hf ?_
    unfold cmpB
    rw [if_neg (by omega), if_pos hq]
    exact hN
  have k3 : ¬ (i = 0 ∨ i = 3) → ¬ (i = 1 ∨ i = 2) → At 3 [some (rf 29), some (.inl i), some (.inl c), some (.inl n)] [] σ 0 0 := fun hq hq2 => by
    refine hA 3 _ rfl _ _ _ _ _ ?_
    refine Exists.intro _ (And.intro (by first | assumption | exact st_s | exact st_e (by decide) (by assumption) | exact st_e (by omega) (by assumption) | exact st_e (by decide) st_s | exact st_e (by omega) st_s | exact st_e (by decide) (st_e (by decide) (by assumption)) | exact st_e (by omega) (st_e (by omega) (by assumption))) (And.intro rfl (ab_inv_of (c_noteEqual h3 hC h (by omega) c hc n hn) (by first | decide | omega) (by omega) (by omega) ?_)))
    intro r τ hpost
    obtain ⟨rfl, hf, hN⟩ := hpost
    refine k4 τ hf ?_
    unfold cmpB
    rw [if_neg hq, if_neg hq2]
    exact hN
  refine hA 0 _ rfl _ _ _ _ _ ?_
  refine And.intro (by first | assumption | exact b2i_R _ | exact rR (by omega) (by omega) | exact rR (by simp only [Int.toNat_natCast]; omega) (by simp only [Int.toNat_natCast]; omega)) ?_
  exact And.intro (fun q => k1 (by omega)) (fun q0 => And.intro (fun q => k2 (by omega)) (fun q1 => And.intro (fun q => k2 (by omega)) (fun q2 => And.intro (fun q => k1 (by omega)) (fun q3 => k3 (by omega) (by omega)))))
set_option maxRecDepth 100000 in
set_option maxHeartbeats 1000000 in
theorem c_noteBetween (h3 : σ.2 3 = some (tbc cc rows)) (hC : IsCs σ cc rows K va ad) (h : NS σ true NL) (hb : NL.length < 198) (c : Nat) (hc : c < cc) (n m : Nat) (hn : n < 1000) (hm : m < 1000) : ab_call 3 0 0 yX5_noteBetween [rf 29, .inl c, .inl n, .inl m] σ (fun r σ' => r = .inl none ∧ fr nA σ σ' ∧ NS σ' true (NL ++ btwN K c n m)) := by
  have hnA : ∀ a, a < 29 ∨ 32 < a → ¬ nA a := fun a ha => by unfold nA; omega
  obtain ⟨L, cl, co, nu, l1, l2, l3, l4, l5, l6⟩ := id h
  refine eX5_noteBetween rfl (fun At hA => ?_)
  refine hA 0 _ rfl _ _ _ _ _ ?_
  refine And.intro (And.intro (by first | assumption | exact b2i_R _ | exact rR (by omega) (by omega) | exact rR (by simp only [Int.toNat_natCast]; omega) (by simp only [Int.toNat_natCast]; omega)) (by first | assumption | exact b2i_R _ | exact rR (by omega) (by omega) | exact rR (by simp only [Int.toNat_natCast]; omega) (by simp only [Int.toNat_natCast]; omega))) (And.intro (fun q => ?_) (fun q => ?_))
  · refine hA 2 _ rfl _ _ _ _ _ ?_
    refine Exists.intro _ (And.intro (by first | assumption | exact st_s | exact st_e (by decide) (by assumption) | exact st_e (by omega) (by assumption) | exact st_e (by decide) st_s | exact st_e (by omega) st_s | exact st_e (by decide) (st_e (by decide) (by assumption)) | exact st_e (by omega) (st_e (by omega) (by assumption))) (And.intro rfl (ab_inv_of (c_noteUpTo h3 hC h (by omega) c hc m (rR (by omega) (by omega))) (by first | decide | omega) (by omega) (by omega) ?_)))
    intro r τ hpost
    obtain ⟨rfl, hf, hN⟩ := hpost
    have hl1 : (NL ++ upN K c m).length = NL.length + 1 := by rw [List.length_append, upN_len]
    refine And.intro (by first | assumption | exact b2i_R _ | exact rR (by omega) (by omega) | exact rR (by simp only [Int.toNat_natCast]; omega) (by simp only [Int.toNat_natCast]; omega)) (And.intro (fun q => ?_) (fun q => ?_))
    · refine hA 4 _ rfl _ _ _ _ _ ?_
      refine ⟨rfl, hf, ?_⟩
      unfold btwN
      rw [if_neg (by omega), if_neg (by omega), List.append_nil]
      exact hN
    · have q3 := (hf.2 3 (hnA _ (by omega))).trans h3
      have qC := hC.fr hf (hnA _ (by omega)) (fun a ha => hnA a (by omega))
      obtain ⟨L, cl, co, nu, l1, l2, l3, l4, l5, l6⟩ := id hN
      refine hA 3 _ rfl _ _ _ _ _ ?_
      refine Exists.intro _ (And.intro (by first | assumption | exact st_s | exact st_e (by decide) (by assumption) | exact st_e (by omega) (by assumption) | exact st_e (by decide) st_s | exact st_e (by omega) st_s | exact st_e (by decide) (st_e (by decide) (by assumption)) | exact st_e (by omega) (st_e (by omega) (by assumption))) (And.intro rfl (ab_inv_of (c_noteUpTo q3 qC hN (by omega) c hc ((n : Int) - 1) (rR (by omega) (by omega))) (by first | decide | omega) (by omega) (by omega) ?_)))
      intro r υ hpost
      obtain ⟨rfl, hg, hN2⟩ := hpost
      have hl2 : (NL ++ upN K c m ++ upN K c ((n : Int) - 1)).length = NL.length + 2 := by rw [List.length_append, hl1, upN_len]
      obtain ⟨L, cl, co, nu, l1, l2, l3, l4, l5, l6⟩ := id hN2
      refine Exists.intro _ (And.intro (by first | assumption | exact st_s | exact st_e (by decide) (by assumption) | exact st_e (by omega) (by assumption) | exact st_e (by decide) st_s | exact st_e (by omega) st_s | exact st_e (by decide) (st_e (by decide) (by assumption)) | exact st_e (by omega) (st_e (by omega) (by assumption))) (And.intro rfl (ab_inv_of (c_note hN2 (fun _ => by omega) 10 0 0) (by first | decide | omega) (by omega) (by omega) ?_)))
      intro r υ2 hpost
      obtain ⟨rfl, hg2, hN3⟩ := hpost
      refine hA 4 _ rfl _ _ _ _ _ ?_
      refine ⟨rfl, (hf.tr hg).tr hg2, ?_⟩
      unfold btwN
      rw [if_neg (by omega), if_pos (by omega), ← List.append_assoc, ← List.append_assoc]
      exact hN3
  · refine hA 1 _ rfl _ _ _ _ _ ?_
    refine Exists.intro _ (And.intro (by first | assumption | exact st_s | exact st_e (by decide) (by assumption) | exact st_e (by omega) (by assumption) | exact st_e (by decide) st_s | exact st_e (by omega) st_s | exact st_e (by decide) (st_e (by decide) (by assumption)) | exact st_e (by omega) (st_e (by omega) (by assumption))) (And.intro rfl (ab_inv_of (c_note h (fun _ => by omega) 13 0 0) (by first | decide | omega) (by omega) (by omega) ?_)))
    intro r τ hpost
    obtain ⟨rfl, hf, hN⟩ := hpost
    refine ⟨rfl, hf, ?_⟩
    unfold btwN
    rw [if_pos (by omega)]
    exact hN
end Note
