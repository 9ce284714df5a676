-- ===== the reading of questions =====
section PQ
variable (f : Nat → Int) (len : Nat) (K : Nat → CT) (cc : Nat)
/-- a comparison behind its "(": where it ends, its notes, its acts -/
def cmpT (i a : Nat) : S2 × List N3 × List N4 :=
  let c := numT f len (.inr a) 0 ((cc : Int) - 1)
  let n := numT f len (sgnT f len c.2 44) 0 999
  if i = 6 then
    let m := numT f len (sgnT f len n.2 44) 0 999
    (m.2, btwN K c.1.toNat n.1.toNat m.1.toNat, [(6, c.1.toNat, n.1.toNat, m.1.toNat)])
  else (n.2, cmpN K i c.1.toNat n.1.toNat, [(i, c.1.toNat, n.1.toNat, 0)])
/-- questions joined, so many behind one -/
def jnL (q : S2 → S2 × List N3 × List N4) (i most : Nat) : Nat → Nat → S2 → S2 × List N3 × List N4
  | 0, _, s => (s, [], [])
  | n + 1, k, s => match s with
    | .inl e => (.inl e, [], [])
    | .inr a =>
      if k < most ∧ (k = 1 ∨ byt f len (skB f len a) = 44) then
        let r := q (sgnT f len (.inr a) 44)
        let t := jnL q i most n (k + 1) r.1
        (t.1, r.2.1 ++ (i, 0, 0) :: t.2.1, r.2.2 ++ t.2.2)
      else if most = 4 ∧ byt f len (skB f len a) = 44 then (.inl (3, (skB f len a : Nat)), [], []) else (.inr a, [], [(i, k, 0, 0)])
def jnT (q : S2 → S2 × List N3 × List N4) (i : Nat) (s : S2) : S2 × List N3 × List N4 :=
  let r := q s
  let t := jnL f len q i (if i ≤ 8 then 4 else 2) 4 1 r.1
  (t.1, r.2.1 ++ t.2.1, r.2.2 ++ t.2.2)
def bodT (q : S2 → S2 × List N3 × List N4) (i a : Nat) : S2 × List N3 × List N4 :=
  if i ≤ 6 then cmpT f len K cc i a
  else if i ≤ 10 then jnT f len q i (.inr a)
  else if i = 11 then
    let r := q (.inr a)
    (r.1, r.2.1 ++ [(11, 0, 0)], r.2.2 ++ [(11, 0, 0, 0)])
  else if i = 14 then
    let z := numT f len (.inr a) 0 5
    (z.2, [(14, 0, z.1.toNat)], [(14, z.1.toNat, 0, 0)])
  else (.inr a, [(i, 0, 0)], [(i, 0, 0, 0)])
/-- the sign "(" behind a name, so many more may be open -/
def opnT (m : Nat) (s : S2) : S2 := match m with
  | 0 => match s with
    | .inl e => .inl e
    | .inr a => if byt f len (skB f len a) = 40 then .inl (3, (skB f len a : Nat)) else .inl (1, (skB f len a : Nat))
  | _ + 1 => sgnT f len s 40
/-- a question: where it ends, what the class notes of it, what the model's acts of it are -/
def pqT : Nat → S2 → S2 × List N3 × List N4
  | 0, s => (opnT f len 0 (wrdT f len s 2).2, [], [])
  | m + 1, s => match opnT f len (m + 1) (wrdT f len s 2).2 with
    | .inl e => (.inl e, [], [])
    | .inr a =>
      let r := bodT f len K cc (pqT m) (wrdT f len s 2).1.toNat a
      (sgnT f len r.1 41, r.2)
end PQ
section PQL
variable {f : Nat → Int} {len : Nat} {K : Nat → CT} {cc : Nat}
theorem pqT_no (m : Nat) (e : Int × Int) : pqT f len K cc m (.inl e) = (.inl e, [], []) := by cases m <;> rfl
theorem opn0_no (s : S2) : isR (opnT f len 0 s) = false := by
  cases s with
  | inl e => rfl
  | inr a => unfold opnT; dsimp only; split <;> rfl
theorem sgnT_ok {s : S2} {x a' : Nat} (h : sgnT f len s x = .inr a') (hs : ∀ a, s = .inr a → a ≤ len) : ∃ a, s = .inr a ∧ a < a' ∧ a' ≤ len := by
  cases s with
  | inl e => cases h
  | inr a => have := signP_ok (hs a rfl) h; exact ⟨a, rfl, this⟩
theorem numT_ok {s : S2} {lo hi : Int} {a' : Nat} (h : (numT f len s lo hi).2 = .inr a') (hs : ∀ a, s = .inr a → a ≤ len) : ∃ a, s = .inr a ∧ a < a' ∧ a' ≤ len ∧ lo ≤ (numT f len s lo hi).1 ∧ (numT f len s lo hi).1 ≤ hi := by
  cases s with
  | inl e => cases h
  | inr a =>
    unfold numT at h ⊢
    dsimp only at h ⊢
    rcases hP : numP f len a lo hi with e | ⟨z, a2⟩
    · rw [hP] at h; cases h
    · rw [hP] at h
      cases h
      have := numP_ok (hs a rfl) hP
      exact ⟨a, rfl, by have := skB_sp f len a (hs a rfl); omega, this.2.2.2.1, this.1, this.2.1⟩
theorem wrdT_ok {s : S2} {q a' : Nat} (h : (wrdT f len s q).2 = .inr a') (hs : ∀ a, s = .inr a → a ≤ len) : ∃ a i, s = .inr a ∧ a ≤ a' ∧ a' ≤ len ∧ (wrdT f len s q).1 = ((i : Nat) : Int) ∧ i < (segL q).length := by
  cases s with
  | inl e => cases h
  | inr a =>
    unfold wrdT at h ⊢
    dsimp only at h ⊢
    rcases hP : wordP f len a q with e | ⟨i, a2⟩
    · rw [hP] at h; cases h
    · rw [hP] at h
      cases h
      have := wordP_ok (hs a rfl) hP
      exact ⟨a, i, rfl, this.2.1, this.2.2.1, rfl, this.1⟩
theorem numT_no {s : S2} {lo hi : Int} {e : Int × Int} (h : (numT f len s lo hi).2 = .inl e) : (numT f len s lo hi).1 = -1 := by
  unfold numT at h ⊢
  cases s with
  | inl e => rfl
  | inr a =>
    dsimp only at h ⊢
    rcases hP : numP f len a lo hi with e2 | ⟨z, a2⟩
    · rfl
    · rw [hP] at h; cases h
theorem cmpT_ok {i a a' : Nat} (ha : a ≤ len) (h : (cmpT f len K cc i a).1 = .inr a') : a + 3 ≤ a' ∧ a' ≤ len ∧ (i = 6 → a + 5 ≤ a') := by
  unfold cmpT at h
  dsimp only at h
  have hn : ∀ a5, (numT f len (sgnT f len (numT f len (.inr a) 0 ((cc : Int) - 1)).2 44) 0 999).2 = .inr a5 → a + 3 ≤ a5 ∧ a5 ≤ len := fun a5 h5 => by
    have hb : ∀ b, (numT f len (.inr a) 0 ((cc : Int) - 1)).2 = .inr b → a + 1 ≤ b ∧ b ≤ len := fun b hb => by
      obtain ⟨x, hx, h1, h2, -⟩ := numT_ok hb (fun y hy => by cases hy; exact ha)
      cases hx
      exact ⟨h1, h2⟩
    have hc : ∀ c, sgnT f len (numT f len (.inr a) 0 ((cc : Int) - 1)).2 44 = .inr c → a + 2 ≤ c ∧ c ≤ len := fun c hc => by
      obtain ⟨b, hb1, h1, h2⟩ := sgnT_ok hc (fun y hy => (hb y hy).2)
      have := hb b hb1
      omega
    obtain ⟨c, hc1, h1, h2, -⟩ := numT_ok h5 (fun y hy => (hc y hy).2)
    have := hc c hc1
    omega
  by_cases e : i = 6
  · rw [if_pos e] at h
    have hd : ∀ d, sgnT f len (numT f len (sgnT f len (numT f len (.inr a) 0 ((cc : Int) - 1)).2 44) 0 999).2 44 = .inr d → a + 4 ≤ d ∧ d ≤ len := fun d hd => by
      obtain ⟨b, hb1, h1, h2⟩ := sgnT_ok hd (fun y hy => (hn y hy).2)
      have := hn b hb1
      omega
    obtain ⟨d, hd1, h1, h2, -⟩ := numT_ok h (fun y hy => (hd y hy).2)
    have := hd d hd1
    omega
  · rw [if_neg e] at h
    have := hn a' h
    omega
/-- what a question's notes and acts cost in signs -/
def okq (q : S2 → S2 × List N3 × List N4) (len : Nat) : Prop := (∀ e, q (.inl e) = (.inl e, [], [])) ∧ ∀ a a', a ≤ len → (q (.inr a)).1 = .inr a' → a < a' ∧ a' ≤ len ∧ a + (q (.inr a)).2.1.length ≤ a' ∧ a + (q (.inr a)).2.2.length ≤ a'
theorem okq_of {q : S2 → S2 × List N3 × List N4} (h : okq q len) {s : S2} {a' : Nat} (hs : ∀ a, s = .inr a → a ≤ len) (h2 : (q s).1 = .inr a') : ∃ a, s = .inr a ∧ a < a' ∧ a' ≤ len ∧ a + (q s).2.1.length ≤ a' ∧ a + (q s).2.2.length ≤ a' := by
  cases s with
  | inl e => rw [h.1 e] at h2; cases h2
  | inr a => have := h.2 a a' (hs a rfl) h2; exact ⟨a, rfl, this⟩
theorem jnL_ok {q : S2 → S2 × List N3 × List N4} (hq : okq q len) {i most : Nat} (hm : most ≤ 4) : ∀ (n k : Nat) (s : S2) (a' : Nat), k + n = 5 → 1 ≤ k → k ≤ most → (∀ a, s = .inr a → a ≤ len) → (jnL f len q i most n k s).1 = .inr a' → ∃ a, s = .inr a ∧ a ≤ a' ∧ a' ≤ len ∧ a + (jnL f len q i most n k s).2.1.length ≤ a' ∧ a + (jnL f len q i most n k s).2.2.length ≤ a' + 1 := by
  intro n
  induction n with
  | zero => intro k s a' hk; omega
  | succ n ih =>
    intro k s a' hk h1 h2 hs h
    cases s with
    | inl e => cases h
    | inr a =>
      have ha := hs a rfl
      unfold jnL at h ⊢
      dsimp only at h ⊢
      by_cases e : k < most ∧ (k = 1 ∨ byt f len (skB f len a) = 44)
      · rw [if_pos e] at h ⊢
        have hsg : ∀ y, sgnT f len (.inr a) 44 = .inr y → a < y ∧ y ≤ len := fun y hy => by
          obtain ⟨b, hb, q1, q2⟩ := sgnT_ok hy (fun z hz => by cases hz; exact ha)
          cases hb
          exact ⟨q1, q2⟩
        have hr : ∀ b, (q (sgnT f len (.inr a) 44)).1 = .inr b → b ≤ len := fun b hb => by
          obtain ⟨c, hc, q1, q2, -⟩ := okq_of hq (fun y hy => (hsg y hy).2) hb
          exact q2
        obtain ⟨b, hb, q1, q2, q3, q4⟩ := ih (k + 1) _ a' (by omega) (by omega) (by omega) hr h
        obtain ⟨c, hc, r1, r2, r3, r4⟩ := okq_of hq (fun y hy => (hsg y hy).2) hb
        have := hsg c hc
        refine ⟨a, rfl, by omega, q2, ?_, ?_⟩
        · rw [List.length_append, List.length_cons]; omega
        · rw [List.length_append]; omega
      · rw [if_neg e] at h ⊢
        by_cases e2 : most = 4 ∧ byt f len (skB f len a) = 44
        · rw [if_pos e2] at h; cases h
        · rw [if_neg e2] at h ⊢
          cases h
          exact ⟨_, rfl, Nat.le_refl _, ha, Nat.le_refl _, Nat.le_refl _⟩
theorem bod_ok {q : S2 → S2 × List N3 × List N4} (hq : okq q len) {i a a' : Nat} (ha : a ≤ len) (h : (bodT f len K cc q i a).1 = .inr a') : a ≤ a' ∧ a' ≤ len ∧ a + (bodT f len K cc q i a).2.1.length ≤ a' + 1 ∧ a + (bodT f len K cc q i a).2.2.length ≤ a' + 1 := by
  unfold bodT at h ⊢
  by_cases e1 : i ≤ 6
  · rw [if_pos e1] at h ⊢
    have := cmpT_ok ha h
    refine ⟨by omega, this.2.1, ?_, ?_⟩
    · unfold cmpT
      dsimp only
      split
      · have := btwN_len K (numT f len (.inr a) 0 ((cc : Int) - 1)).1.toNat (numT f len (sgnT f len (numT f len (.inr a) 0 ((cc : Int) - 1)).2 44) 0 999).1.toNat (numT f len (sgnT f len (numT f len (sgnT f len (numT f len (.inr a) 0 ((cc : Int) - 1)).2 44) 0 999).2 44) 0 999).1.toNat
        dsimp only
        omega
      · have := cmpN_len K i (numT f len (.inr a) 0 ((cc : Int) - 1)).1.toNat (numT f len (sgnT f len (numT f len (.inr a) 0 ((cc : Int) - 1)).2 44) 0 999).1.toNat
        dsimp only
        omega
    · unfold cmpT
      dsimp only
      split <;> (dsimp only [List.length]; omega)
  · rw [if_neg e1] at h ⊢
    by_cases e2 : i ≤ 10
    · rw [if_pos e2] at h ⊢
      unfold jnT at h ⊢
      dsimp only at h ⊢
      have hr : ∀ b, (q (.inr a)).1 = .inr b → b ≤ len := fun b hb => (hq.2 a b ha hb).2.1
      obtain ⟨b, hb, q1, q2, q3, q4⟩ := jnL_ok hq (by split <;> omega) 4 1 _ a' (by omega) (by omega) (by split <;> omega) hr h
      have := hq.2 a b ha hb
      refine ⟨by omega, q2, ?_, ?_⟩
      · rw [List.length_append]; omega
      · rw [List.length_append]; omega
    · rw [if_neg e2] at h ⊢
      by_cases e3 : i = 11
      · rw [if_pos e3] at h ⊢
        dsimp only at h ⊢
        have := hq.2 a a' ha h
        refine ⟨by omega, this.2.1, ?_, ?_⟩
        · rw [List.length_append]; show a + (_ + 1) ≤ _; omega
        · rw [List.length_append]; show a + (_ + 1) ≤ _; omega
      · rw [if_neg e3] at h ⊢
        by_cases e4 : i = 14
        · rw [if_pos e4] at h ⊢
          dsimp only at h ⊢
          obtain ⟨b, hb, q1, q2, -⟩ := numT_ok h (fun y hy => by cases hy; exact ha)
          cases hb
          exact ⟨by omega, q2, by show a + 1 ≤ _; omega, by show a + 1 ≤ _; omega⟩
        · rw [if_neg e4] at h ⊢
          cases h
          exact ⟨Nat.le_refl _, ha, Nat.le_refl _, Nat.le_refl _⟩
theorem pq_ok : ∀ m, okq (pqT f len K cc m) len := by
  intro m
  induction m with
  | zero =>
    refine ⟨fun e => pqT_no 0 e, fun a a' ha h => ?_⟩
    have h : opnT f len 0 (wrdT f len (.inr a) 2).2 = .inr a' := h
    have := opn0_no (f := f) (len := len) (wrdT f len (.inr a) 2).2
    rw [h] at this
    cases this
  | succ m ih =>
    refine ⟨fun e => pqT_no _ e, fun a a' ha h => ?_⟩
    unfold pqT at h ⊢
    rcases ho : opnT f len (m + 1) (wrdT f len (.inr a) 2).2 with e | b
    · rw [ho] at h; cases h
    · rw [ho] at h
      dsimp only at h ⊢
      obtain ⟨c, hc, q1, q2⟩ := sgnT_ok (s := (wrdT f len (.inr a) 2).2) (x := 40) ho (fun y hy => by
        obtain ⟨_, _, _, _, h2, _⟩ := wrdT_ok hy (fun z hz => by cases hz; exact ha)
        exact h2)
      obtain ⟨x, i, hx, w1, w2, -⟩ := wrdT_ok hc (fun z hz => by cases hz; exact ha)
      cases hx
      have hb : ∀ y, (bodT f len K cc (pqT f len K cc m) (wrdT f len (.inr a) 2).1.toNat b).1 = .inr y → y ≤ len := fun y hy => (bod_ok ih q2 hy).2.1
      obtain ⟨d, hd, r1, r2⟩ := sgnT_ok h hb
      have := bod_ok ih q2 hd
      exact ⟨by omega, r2, by omega, by omega⟩
end PQL
