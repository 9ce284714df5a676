-- ===== the text of a column =====
theorem skB_id (f : Nat → Int) (len a : Nat) (h : a ≤ len) : skB f len (skB f len a) = skB f len a := by
  have hs := rn_sp (fun k => byt f len k == 32) (len - a) a
  have h2 : skB f len a = rn (fun k => byt f len k == 32) a (len - a) := rfl
  by_cases e : skB f len a < len
  · have := hs.2.2.2 (by omega)
    exact rn_no (by rw [h2]; exact this)
  · unfold skB at e ⊢
    rw [show len - rn (fun k => byt f len k == 32) a (len - a) = 0 by omega]
    rfl
theorem numP_sk (f : Nat → Int) (len a : Nat) (h : a ≤ len) (lo hi : Int) : numP f len (skB f len a) lo hi = numP f len a lo hi := by
  unfold numP
  rw [skB_id f len a h]
theorem numP_ok {f : Nat → Int} {len a : Nat} {lo hi z : Int} {a' : Nat} (ha : a ≤ len) (h : numP f len a lo hi = .inr (z, a')) : lo ≤ z ∧ z ≤ hi ∧ a ≤ a' ∧ a' ≤ len ∧ isD (byt f len (skB f len a)) = true ∧ skB f len a < a' := by
  have hs := skB_sp f len a ha
  have hd := skD_sp f len (skB f len a) hs.2
  unfold numP at h
  by_cases e : isD (byt f len (skB f len a)) = true
  · rw [if_pos e] at h
    have hlt : skB f len a < len := by
      rcases Nat.lt_or_ge (skB f len a) len with h1 | h1
      · exact h1
      · rw [byt_ge h1] at e
        exact absurd e (by decide)
    have hgt : skB f len a + 1 ≤ skD f len (skB f len a) := by
      unfold skD
      rw [show len - skB f len a = (len - skB f len a - 1) + 1 by omega, rn_st e]
      exact (rn_sp _ _ _).1
    dsimp only at h
    split at h
    · cases h
    · cases h
      exact ⟨by omega, by omega, by omega, hd.2, e, by omega⟩
  · rw [if_neg e] at h
    cases h
theorem numP_no {f : Nat → Int} {len a : Nat} {lo hi u v : Int} (h : numP f len a lo hi = .inl (u, v)) : u = 1 ∨ u = 2 := by
  unfold numP at h
  dsimp only at h
  split at h
  · split at h
    · cases h; exact Or.inr rfl
    · cases h
  · cases h; exact Or.inl rfl
theorem fstI_lt {p : Nat × Nat → Bool} : ∀ (l : List (Nat × Nat)) (c i : Nat), fstI p l c = some i → c ≤ i ∧ i < c + l.length := by
  intro l
  induction l with
  | nil => intro c i h; cases h
  | cons x l ih =>
    intro c i h
    have h : (if p x then some c else fstI p l (c + 1)) = some i := h
    split at h
    · cases h; exact ⟨Nat.le_refl _, by rw [List.length_cons]; omega⟩
    · have := ih _ _ h
      rw [List.length_cons]
      omega
theorem wordP_ok {f : Nat → Int} {len a q i a' : Nat} (ha : a ≤ len) (h : wordP f len a q = .inr (i, a')) : i < (segL q).length ∧ a ≤ a' ∧ a' ≤ len ∧ skB f len a ≤ a' := by
  have hs := skB_sp f len a ha
  have hd := skL_sp f len (skB f len a) hs.2
  unfold wordP at h
  dsimp only at h
  split at h
  · next i' hi =>
    cases h
    have := fstI_lt _ _ _ hi
    exact ⟨by omega, by omega, hd.2, hd.1⟩
  · cases h
theorem wordP_no {f : Nat → Int} {len a q : Nat} {u v : Int} (h : wordP f len a q = .inl (u, v)) : u = 1 := by
  unfold wordP at h
  dsimp only at h
  split at h
  · cases h
  · cases h; rfl
/-- the bases of a text, k of them told so far: the fault, or (where it goes on, how many, which) -/
def basP (f : Nat → Int) (len : Nat) : Nat → Nat → Nat → (Nat → Nat) → (Int × Int) ⊕ (Nat × Nat × (Nat → Nat))
  | 0, _, _, _ => .inl (1, 0)
  | n + 1, k, a, bs =>
    if (k == 4 && isD (byt f len (skB f len a))) = true then .inl (3, (skB f len a : Nat)) else
    match numP f len a 2 200 with
    | .inl e => .inl e
    | .inr (z, a') => match wordP f len a' 1 with
      | .inl e => .inl e
      | .inr (i, a'') => if i = 0 then basP f len n (k + 1) a'' (ab_up bs k z.toNat) else .inr (a'', k + 1, ab_up bs k z.toNat)
/-- the text of a column: the fault, or by range, card, how many components, their bases -/
def colP (f : Nat → Int) (len : Nat) : (Int × Int) ⊕ (Bool × Nat × Nat × (Nat → Nat)) :=
  match wordP f len 0 0 with
  | .inl e => .inl e
  | .inr (i, a) => match basP f len 5 0 a (fun _ => 2) with
    | .inl e => .inl e
    | .inr (a1, k, bs) => match numP f len a1 2 200 with
      | .inl e => .inl e
      | .inr (z, a2) => if wtp bs k < z.toNat then .inl (4, (skB f len a1 : Nat)) else if skB f len a2 < len then .inl (1, (skB f len a2 : Nat)) else .inr (i == 1, z.toNat, k, bs)
/-- the tape with a fault -/
def T1 (σ : ab_H) (n : Int) (len : Nat) (k w : Int) : Prop := ∃ (a : Nat) (st : Int), a ≤ len ∧ σ.2 1 = some (tpc n len a st k w)
abbrev ctc (p q : Int) : ab_C := .inl (4, [rf 1, rf 27, .inl p, .inl q])
def ctA (a : Nat) : Prop := a = 1 ∨ a = 26 ∨ a = 27
/-- the numbers of a text of a column, whatever they are -/
def C26 (σ : ab_H) : Prop := ∃ (p q : Int) (g : Nat → Int), σ.2 26 = some (ctc p q) ∧ σ.2 27 = some (.inr (.inl (0, 4, g)))
section ColText
variable {σ : ab_H} {f : Nat → Int} {len : Nat} {n w : Int}
set_option maxRecDepth 100000 in
set_option maxHeartbeats 1000000 in
theorem c_readBases0 {a : Nat} {st k : Int} (h1 : σ.2 1 = some (tpc n len a st k w)) (hk : ab_R k) (hk0 : k ≠ 0) {p q : Int} (h26 : σ.2 26 = some (ctc p q)) : ab_ev 4 yX4_readBases [rf 26] σ none (ab_st σ 26 (ctc 0 1)) := by
  refine eX4_readBases rfl (fun At hA => ?_)
  refine hA 0 _ rfl _ _ _ _ _ ?_
  refine Exists.intro _ (And.intro (by first | assumption | exact st_s | exact st_e (by decide) (by assumption) | exact st_e (by omega) (by assumption) | exact st_e (by decide) st_s | exact st_e (by omega) st_s | exact st_e (by decide) (st_e (by decide) (by assumption)) | exact st_e (by omega) (st_e (by omega) (by assumption))) ?_)
  refine Exists.intro _ (And.intro (by first | assumption | exact st_s | exact st_e (by decide) (by assumption) | exact st_e (by omega) (by assumption) | exact st_e (by decide) st_s | exact st_e (by omega) st_s | exact st_e (by decide) (st_e (by decide) (by assumption)) | exact st_e (by omega) (st_e (by omega) (by assumption))) ?_)
  refine Exists.intro _ (And.intro (by first | assumption | exact st_s | exact st_e (by decide) (by assumption) | exact st_e (by omega) (by assumption) | exact st_e (by decide) st_s | exact st_e (by omega) st_s | exact st_e (by decide) (st_e (by decide) (by assumption)) | exact st_e (by omega) (st_e (by omega) (by assumption))) ?_)
  refine Exists.intro _ (And.intro (by first | assumption | exact st_s | exact st_e (by decide) (by assumption) | exact st_e (by omega) (by assumption) | exact st_e (by decide) st_s | exact st_e (by omega) st_s | exact st_e (by decide) (st_e (by decide) (by assumption)) | exact st_e (by omega) (st_e (by omega) (by assumption))) (And.intro rfl (ab_inv_ev (c_isSound (n := n) (len := len) (a := a) (st := st) (k := k) (w := w) (st_e (by decide) (st_e (by decide) h1)) hk) (by first | decide | omega) (Nat.le_refl _) (Nat.le_refl _) ?_)))
  rw [decide_eq_false hk0]
  refine hA 1 _ rfl _ _ _ _ _ ?_
  refine And.intro (by first | assumption | exact b2i_R _ | exact rR (by omega) (by omega) | exact rR (by simp only [Int.toNat_natCast]; omega) (by simp only [Int.toNat_natCast]; omega)) (And.intro (fun q => ?_) (fun q => ?_))
  · refine hA 13 _ rfl _ _ _ _ _ ?_
    exact ⟨rfl, st_st⟩
  · exact absurd (show (0 : Int) = 0 from rfl) q
/-- what holds when the bases are read -/
def basQ (n : Int) (len : Nat) (w : Int) (P : (Int × Int) ⊕ (Nat × Nat × (Nat → Nat))) (σ' : ab_H) : Prop := match P with
  | .inl (u, v) => u ≠ 0 ∧ ab_R u ∧ T1 σ' n len u v ∧ C26 σ'
  | .inr (a1, k, bs) => a1 ≤ len ∧ 1 ≤ k ∧ k ≤ 4 ∧ (∀ p, 2 ≤ bs p ∧ bs p ≤ 200) ∧ (∃ st : Int, σ'.2 1 = some (tpc n len a1 st 0 w)) ∧ σ'.2 26 = some (ctc k (wtp bs k)) ∧ ∃ g : Nat → Int, σ'.2 27 = some (.inr (.inl (0, 4, g))) ∧ ∀ p, p < k → g p = bs p
theorem wtp_up {bs : Nat → Nat} {k z : Nat} : ∀ p, p ≤ k → wtp (ab_up bs k z) p = wtp bs p := by
  intro p
  induction p with
  | zero => intro _; rfl
  | succ p ih =>
    intro hp
    show wtp _ p * ab_up bs k z p = wtp bs p * bs p
    rw [ih (by omega), ab_up_n (by omega)]
set_option maxRecDepth 100000 in
set_option maxHeartbeats 1000000 in
theorem c_readBases {a : Nat} {st : Int} (h1 : σ.2 1 = some (tpc n len a st 0 w)) (h2 : σ.2 2 = some (bya f)) (hf : byR f) (hl : len ≤ 400) (ha : a ≤ len) (h26 : C26 σ) : ab_call 8 0 0 yX4_readBases [rf 26] σ (fun r σ' => r = .inl none ∧ fr ctA σ σ' ∧ basQ n len w (basP f len 5 0 a (fun _ => 2)) σ') := by
  obtain ⟨p0, q0, g0, h26, h27⟩ := h26
  have n2 : ¬ ctA 2 := by unfold ctA; omega
  refine eX4_readBases rfl (fun At hA => ?_)
  have fin : ∀ (τ : ab_H) (L : ab_L), fr ctA σ τ → basQ n len w (basP f len 5 0 a (fun _ => 2)) τ → At 8 L [] τ 0 0 := fun τ L hf1 hq => by
    refine hA 8 _ rfl _ _ _ _ _ ?_
    exact ⟨rfl, hf1, hq⟩
  have loop : ∀ (m k x : Nat) (τ : ab_H) (bs : Nat → Nat) (y2 : Option ab_V), k + m = 5 → k ≤ 4 → x ≤ len → fr ctA σ τ → (∀ p, 2 ≤ bs p ∧ bs p ≤ 200) → (∃ st : Int, τ.2 1 = some (tpc n len x st 0 w)) → τ.2 26 = some (ctc k (wtp bs k)) → (∃ g : Nat → Int, τ.2 27 = some (.inr (.inl (0, 4, g))) ∧ ∀ p, p < k → g p = bs p) → basP f len m k x bs = basP f len 5 0 a (fun _ => 2) → At 1 [some (rf 26), some (.inl 1), y2] [] τ 0 0 := by
    intro m
    induction m with
    | zero => intro k x τ bs y2 hk hk4; omega
    | succ m ih =>
      intro k x τ bs y2 hk hk4 hx hf1 hbs q1 q26 q27 hP
      obtain ⟨st1, q1⟩ := q1
      obtain ⟨g1, q27, hg1⟩ := q27
      have q2 := (hf1.2 2 n2).trans h2
      have hs := skB_sp f len x hx
      -- the number is read from x2 on
      have k6 : ∀ (x2 : Nat) (st2 : Int) (υ : ab_H), x2 ≤ len → fr ctA σ υ → υ.2 1 = some (tpc n len x2 st2 0 w) → υ.2 26 = some (ctc k (wtp bs k)) → υ.2 27 = some (.inr (.inl (0, 4, g1))) → numP f len x2 2 200 = numP f len x 2 200 → (k = 4 → isD (byt f len (skB f len x)) = false) → At 6 [some (rf 26), some (.inl 1), y2] [] υ 0 0 := by
        intro x2 st2 υ hx2 hf2 r1 r26 r27 hnum hk4
        have r2 := (hf2.2 2 n2).trans h2
        refine hA 6 _ rfl _ _ _ _ _ ?_
        refine Exists.intro _ (And.intro (by first | assumption | exact st_s | exact st_e (by decide) (by assumption) | exact st_e (by omega) (by assumption) | exact st_e (by decide) st_s | exact st_e (by omega) st_s | exact st_e (by decide) (st_e (by decide) (by assumption)) | exact st_e (by omega) (st_e (by omega) (by assumption))) ?_)
        refine Exists.intro _ (And.intro (by first | assumption | exact st_s | exact st_e (by decide) (by assumption) | exact st_e (by omega) (by assumption) | exact st_e (by decide) st_s | exact st_e (by omega) st_s | exact st_e (by decide) (st_e (by decide) (by assumption)) | exact st_e (by omega) (st_e (by omega) (by assumption))) (And.intro rfl (ab_inv_of (c_readNumber r1 r2 hf hl hx2 2 200 (rR (by omega) (by omega)) (rR (by omega) (by omega))) (by first | decide | omega) (by omega) (by omega) ?_)))
        intro r υ2 hpost
        obtain ⟨hq, -⟩ := hpost
        rw [hnum] at hq
        have hP2 : basP f len (m + 1) k x bs = if (k == 4 && isD (byt f len (skB f len x))) = true then .inl (3, (skB f len x : Nat)) else
          match numP f len x 2 200 with
          | .inl e => .inl e
          | .inr (z, a') => match wordP f len a' 1 with
            | .inl e => .inl e
            | .inr (i, a'') => if i = 0 then basP f len m (k + 1) a'' (ab_up bs k z.toNat) else .inr (a'', k + 1, ab_up bs k z.toNat) := rfl
        rw [if_neg (by
          intro h
          rw [Bool.and_eq_true] at h
          rw [hk4 (beq_iff_eq.mp h.1)] at h
          exact absurd h.2 (by decide))] at hP2
        rcases hN : numP f len x 2 200 with ⟨u, v⟩ | ⟨z, a'⟩
        · rw [hN] at hq hP2
          obtain ⟨rfl, a', st', ha', rfl⟩ := hq
          have hu := numP_no hN
          have p26 : (ab_st υ 1 (tpc n len a' st' u v)).2 26 = _ := st_e (by decide) r26
          refine Exists.intro _ (And.intro (by first | assumption | exact st_s | exact st_e (by decide) (by assumption) | exact st_e (by omega) (by assumption) | exact st_e (by decide) st_s | exact st_e (by omega) st_s | exact st_e (by decide) (st_e (by decide) (by assumption)) | exact st_e (by omega) (st_e (by omega) (by assumption))) ?_)
          refine Exists.intro _ (And.intro (by first | assumption | exact st_s | exact st_e (by decide) (by assumption) | exact st_e (by omega) (by assumption) | exact st_e (by decide) st_s | exact st_e (by omega) st_s | exact st_e (by decide) (st_e (by decide) (by assumption)) | exact st_e (by omega) (st_e (by omega) (by assumption))) (And.intro rfl (ab_inv_ev (c_isSound (n := n) (len := len) (a := a') (st := st') (k := u) (w := v) st_s (rR (by omega) (by omega))) (by first | decide | omega) (Nat.le_refl _) (Nat.le_refl _) ?_)))
          refine And.intro (by first | assumption | exact b2i_R _ | exact rR (by omega) (by omega) | exact rR (by simp only [Int.toNat_natCast]; omega) (by simp only [Int.toNat_natCast]; omega)) (And.intro (fun q => ?_) (fun q => ?_))
          · refine fin _ _ (hf2.st (Or.inl rfl)) ?_
            rw [← hP, hP2]
            exact ⟨by omega, rR (by omega) (by omega), ⟨a', st', ha', st_s⟩, _, _, g1, p26, st_e (by decide) r27⟩
          · exact absurd (show b2i (decide (u = 0)) = 0 by rw [decide_eq_false (show ¬ u = 0 by omega)]; rfl) q
        · rw [hN] at hq hP2
          dsimp only at hP2
          obtain ⟨rfl, ha', st', rfl⟩ := hq
          have hz := numP_ok hx hN
          have hk3 : k < 4 := by
            rcases Nat.lt_or_ge k 4 with h | h
            · exact h
            · rw [hk4 (by omega)] at hz
              exact absurd hz.2.2.2.2.1 (by decide)
          have p26 : (ab_st υ 1 (tpc n len a' st' 0 w)).2 26 = _ := st_e (by decide) r26
          have p27 : (ab_st υ 1 (tpc n len a' st' 0 w)).2 27 = _ := st_e (by decide) r27
          have p2 : (ab_st υ 1 (tpc n len a' st' 0 w)).2 2 = _ := st_e (by decide) r2
          refine Exists.intro _ (And.intro (by first | assumption | exact st_s | exact st_e (by decide) (by assumption) | exact st_e (by omega) (by assumption) | exact st_e (by decide) st_s | exact st_e (by omega) st_s | exact st_e (by decide) (st_e (by decide) (by assumption)) | exact st_e (by omega) (st_e (by omega) (by assumption))) ?_)
          refine Exists.intro _ (And.intro (by first | assumption | exact st_s | exact st_e (by decide) (by assumption) | exact st_e (by omega) (by assumption) | exact st_e (by decide) st_s | exact st_e (by omega) st_s | exact st_e (by decide) (st_e (by decide) (by assumption)) | exact st_e (by omega) (st_e (by omega) (by assumption))) (And.intro rfl (ab_inv_ev (c_isSound (n := n) (len := len) (a := a') (st := st') (k := 0) (w := w) st_s (rR (by omega) (by omega))) (by first | decide | omega) (Nat.le_refl _) (Nat.le_refl _) ?_)))
          refine And.intro (by first | assumption | exact b2i_R _ | exact rR (by omega) (by omega) | exact rR (by simp only [Int.toNat_natCast]; omega) (by simp only [Int.toNat_natCast]; omega)) (And.intro (fun q => ?_) (fun q => ?_))
          · exact absurd q (by decide)
          refine hA 7 _ rfl _ _ _ _ _ ?_
          refine Exists.intro _ (And.intro (by first | assumption | exact st_s | exact st_e (by decide) (by assumption) | exact st_e (by omega) (by assumption) | exact st_e (by decide) st_s | exact st_e (by omega) st_s | exact st_e (by decide) (st_e (by decide) (by assumption)) | exact st_e (by omega) (st_e (by omega) (by assumption))) ?_)
          refine And.intro (And.intro (by first | assumption | exact b2i_R _ | exact rR (by omega) (by omega) | exact rR (by simp only [Int.toNat_natCast]; omega) (by simp only [Int.toNat_natCast]; omega)) (by first | assumption | exact b2i_R _ | exact rR (by omega) (by omega) | exact rR (by simp only [Int.toNat_natCast]; omega) (by simp only [Int.toNat_natCast]; omega))) (And.intro (fun q => ?_) (fun q => ?_))
          · have hzn : ((z.toNat : Nat) : Int) = z := by omega
            have ew : ((wtp bs k : Nat) : Int) * z = ((wtp (ab_up bs k z.toNat) (k + 1) : Nat) : Int) := by
              show _ = ((wtp (ab_up bs k z.toNat) k * ab_up bs k z.toNat k : Nat) : Int)
              rw [wtp_up k (Nat.le_refl _), ab_up_s, Int.natCast_mul, hzn]
            have hbs2 : ∀ p, 2 ≤ ab_up bs k z.toNat p ∧ ab_up bs k z.toNat p ≤ 200 := fun p => by
              unfold ab_up
              split
              · omega
              · exact hbs p
            have hcall := c_readName (σ := ab_st (ab_st (ab_st υ 1 (tpc n len a' st' 0 w)) 27 (.inr (.inl (0, 4, ab_up g1 k z)))) 26 (ctc ((k : Int) + 1) ((wtp bs k : Nat) * z))) (n := n) (len := len) (a := a') (st := st') (w := w) (f := f) (st_e (by decide) (st_e (by decide) st_s)) (st_e (by decide) (st_e (by decide) p2)) hf hl ha' 1 (by omega)
            refine hA 9 _ rfl _ _ _ _ _ ?_
            refine Exists.intro _ (And.intro (p26) ?_)
            refine Exists.intro _ (And.intro (p26) ?_)
            refine Exists.intro _ (Exists.intro _ (And.intro (p27) (And.intro (by omega) ?_)))
            refine Exists.intro _ (And.intro (st_e (by decide) p26) ?_)
            refine Exists.intro _ (And.intro (st_e (by decide) p26) ?_)
            refine Exists.intro _ (And.intro (st_s) ?_)
            refine Exists.intro _ (And.intro (st_s) ?_)
            rw [st_st]
            refine Exists.intro _ (And.intro (st_s) ?_)
            refine Exists.intro _ (And.intro (st_e (by decide) (st_e (by decide) st_s)) (And.intro rfl (ab_inv_ev hcall (by first | decide | omega) (Nat.le_refl _) (Nat.le_refl _) ?_)))
            have hf3 : fr ctA σ (ab_st (ab_st (ab_st υ 1 (tpc n len a' st' 0 w)) 27 (.inr (.inl (0, 4, ab_up g1 k z)))) 26 (ctc ((k : Int) + 1) ((wtp bs k : Nat) * z))) := ((hf2.st (Or.inl rfl)).st (Or.inr (Or.inr rfl))).st (Or.inr (Or.inl rfl))
            have hg2 : ∀ p, p < k + 1 → ab_up g1 k z p = ab_up bs k z.toNat p := fun p hp => by
              by_cases e : p = k
              · rw [e, ab_up_s, ab_up_s, hzn]
              · rw [ab_up_n e, ab_up_n e]; exact hg1 p (by omega)
            rw [ew] at hf3 ⊢
            rcases hW : wordP f len a' 1 with ⟨u, v⟩ | ⟨i, a''⟩
            · have hu := wordP_no hW
              rw [hW] at hP2
              dsimp only at hP2
              refine And.intro (by exact (show ab_R (-1) from rR (by decide) (by decide))) (And.intro (fun q => ?_) (fun q => ?_))
              · refine hA 11 _ rfl _ _ _ _ _ ?_
                refine hA 12 _ rfl _ _ _ _ _ ?_
                refine hA 1 _ rfl _ _ _ _ _ ?_
                refine And.intro (by first | assumption | exact b2i_R _ | exact rR (by omega) (by omega) | exact rR (by simp only [Int.toNat_natCast]; omega) (by simp only [Int.toNat_natCast]; omega)) (And.intro (fun q => ?_) (fun q => ?_))
                · refine hA 13 _ rfl _ _ _ _ _ ?_
                  refine ⟨rfl, hf3.st (Or.inl rfl), ?_⟩
                  rw [← hP, hP2]
                  have hd := skL_sp f len (skB f len a') (skB_sp f len a' ha').2
                  exact ⟨by omega, rR (by omega) (by omega), ⟨_, _, hd.2, st_s⟩, _, _, _, st_e (by decide) st_s, st_e (by decide) (st_e (by decide) st_s)⟩
                · exact absurd (show (0 : Int) = 0 from rfl) q
              · exact absurd (show (-1 : Int) = 0 from q) (by decide)
            · have hwo := wordP_ok ha' hW
              have hi2 : i < 2 := hwo.1
              rw [hW] at hP2
              dsimp only at hP2
              have he : skL f len (skB f len a') = a'' := by
                unfold wordP at hW
                dsimp only at hW
                split at hW
                · cases hW; rfl
                · cases hW
              have h1' : (ab_st (ab_st (ab_st (ab_st υ 1 (tpc n len a' st' 0 w)) 27 (.inr (.inl (0, 4, ab_up g1 k z)))) 26 (ctc ((k : Int) + 1) ((wtp (ab_up bs k z.toNat) (k + 1) : Nat) : Int))) 1 (tpc n len (skL f len (skB f len a')) (skB f len a') 0 w)).2 1 = some (tpc n len a'' (skB f len a') 0 w) := by
                rw [st_s, he]
              refine And.intro (rR (by show (-2147483648 : Int) ≤ ((i : Nat) : Int); omega) (by show ((i : Nat) : Int) < 2147483648; omega)) (And.intro (fun q => ?_) (fun q => ?_))
              · have q : ((i : Nat) : Int) ≠ 0 := q
                refine hA 11 _ rfl _ _ _ _ _ ?_
                refine hA 12 _ rfl _ _ _ _ _ ?_
                refine hA 1 _ rfl _ _ _ _ _ ?_
                refine And.intro (by first | assumption | exact b2i_R _ | exact rR (by omega) (by omega) | exact rR (by simp only [Int.toNat_natCast]; omega) (by simp only [Int.toNat_natCast]; omega)) (And.intro (fun q => ?_) (fun q => ?_))
                · refine hA 13 _ rfl _ _ _ _ _ ?_
                  refine ⟨rfl, hf3.st (Or.inl rfl), ?_⟩
                  rw [← hP, hP2, if_neg (show ¬ i = 0 by omega)]
                  exact ⟨hwo.2.2.1, by omega, by omega, hbs2, ⟨_, h1'⟩, st_e (by decide) st_s, _, st_e (by decide) (st_e (by decide) st_s), hg2⟩
                · exact absurd (show (0 : Int) = 0 from rfl) q
              · have q : ((i : Nat) : Int) = 0 := q
                rw [if_pos (show i = 0 by omega)] at hP2
                refine hA 10 _ rfl _ _ _ _ _ ?_
                refine hA 12 _ rfl _ _ _ _ _ ?_
                exact ih (k + 1) a'' _ _ _ (by omega) (by omega) hwo.2.2.1 (hf3.st (Or.inl rfl)) hbs2 ⟨_, h1'⟩ (st_e (by decide) st_s) ⟨_, st_e (by decide) (st_e (by decide) st_s), hg2⟩ (hP2.symm.trans hP)
          · omega
      refine hA 1 _ rfl _ _ _ _ _ ?_
      refine And.intro (by first | assumption | exact b2i_R _ | exact rR (by omega) (by omega) | exact rR (by simp only [Int.toNat_natCast]; omega) (by simp only [Int.toNat_natCast]; omega)) (And.intro (fun q => ?_) (fun q => ?_))
      · exact absurd (show (1 : Int) = 0 from q) (by decide)
      · refine hA 2 _ rfl _ _ _ _ _ ?_
        refine Exists.intro _ (And.intro (by first | assumption | exact st_s | exact st_e (by decide) (by assumption) | exact st_e (by omega) (by assumption) | exact st_e (by decide) st_s | exact st_e (by omega) st_s | exact st_e (by decide) (st_e (by decide) (by assumption)) | exact st_e (by omega) (st_e (by omega) (by assumption))) ?_)
        refine And.intro (And.intro (by first | assumption | exact b2i_R _ | exact rR (by omega) (by omega) | exact rR (by simp only [Int.toNat_natCast]; omega) (by simp only [Int.toNat_natCast]; omega)) (by first | assumption | exact b2i_R _ | exact rR (by omega) (by omega) | exact rR (by simp only [Int.toNat_natCast]; omega) (by simp only [Int.toNat_natCast]; omega))) (And.intro (fun q => ?_) (fun q => ?_))
        · omega
        · refine hA 3 _ rfl _ _ _ _ _ ?_
          refine Exists.intro _ (And.intro (by first | assumption | exact st_s | exact st_e (by decide) (by assumption) | exact st_e (by omega) (by assumption) | exact st_e (by decide) st_s | exact st_e (by omega) st_s | exact st_e (by decide) (st_e (by decide) (by assumption)) | exact st_e (by omega) (st_e (by omega) (by assumption))) ?_)
          refine And.intro (And.intro (by first | assumption | exact b2i_R _ | exact rR (by omega) (by omega) | exact rR (by simp only [Int.toNat_natCast]; omega) (by simp only [Int.toNat_natCast]; omega)) (by first | assumption | exact b2i_R _ | exact rR (by omega) (by omega) | exact rR (by simp only [Int.toNat_natCast]; omega) (by simp only [Int.toNat_natCast]; omega))) (And.intro (fun q => ?_) (fun q => ?_))
          · exact k6 x st1 τ hx hf1 q1 q26 q27 rfl (fun h => by omega)
          · have hk44 : k = 4 := by omega
            refine hA 4 _ rfl _ _ _ _ _ ?_
            refine Exists.intro _ (And.intro (by first | assumption | exact st_s | exact st_e (by decide) (by assumption) | exact st_e (by omega) (by assumption) | exact st_e (by decide) st_s | exact st_e (by omega) st_s | exact st_e (by decide) (st_e (by decide) (by assumption)) | exact st_e (by omega) (st_e (by omega) (by assumption))) ?_)
            refine Exists.intro _ (And.intro (by first | assumption | exact st_s | exact st_e (by decide) (by assumption) | exact st_e (by omega) (by assumption) | exact st_e (by decide) st_s | exact st_e (by omega) st_s | exact st_e (by decide) (st_e (by decide) (by assumption)) | exact st_e (by omega) (st_e (by omega) (by assumption))) (And.intro rfl (ab_inv_ev (c_isDigitNext q1 q2 hf hl hx) (by first | decide | omega) (Nat.le_refl _) (Nat.le_refl _) ?_)))
            refine And.intro (by first | assumption | exact b2i_R _ | exact rR (by omega) (by omega) | exact rR (by simp only [Int.toNat_natCast]; omega) (by simp only [Int.toNat_natCast]; omega)) (And.intro (fun q => ?_) (fun q => ?_))
            · have hq := b2i_0 q
              exact k6 (skB f len x) st1 _ hs.2 (hf1.st (Or.inl rfl)) st_s (st_e (by decide) q26) (st_e (by decide) q27) (numP_sk f len x hx 2 200) (fun _ => hq)
            · have hq := b2i_1 q
              refine hA 5 _ rfl _ _ _ _ _ ?_
              refine Exists.intro _ (And.intro (by first | assumption | exact st_s | exact st_e (by decide) (by assumption) | exact st_e (by omega) (by assumption) | exact st_e (by decide) st_s | exact st_e (by omega) st_s | exact st_e (by decide) (st_e (by decide) (by assumption)) | exact st_e (by omega) (st_e (by omega) (by assumption))) ?_)
              refine Exists.intro _ (And.intro (by first | assumption | exact st_s | exact st_e (by decide) (by assumption) | exact st_e (by omega) (by assumption) | exact st_e (by decide) st_s | exact st_e (by omega) st_s | exact st_e (by decide) (st_e (by decide) (by assumption)) | exact st_e (by omega) (st_e (by omega) (by assumption))) ?_)
              refine Exists.intro _ (And.intro (by first | assumption | exact st_s | exact st_e (by decide) (by assumption) | exact st_e (by omega) (by assumption) | exact st_e (by decide) st_s | exact st_e (by omega) st_s | exact st_e (by decide) (st_e (by decide) (by assumption)) | exact st_e (by omega) (st_e (by omega) (by assumption))) ?_)
              refine Exists.intro _ (And.intro (by first | assumption | exact st_s | exact st_e (by decide) (by assumption) | exact st_e (by omega) (by assumption) | exact st_e (by decide) st_s | exact st_e (by omega) st_s | exact st_e (by decide) (st_e (by decide) (by assumption)) | exact st_e (by omega) (st_e (by omega) (by assumption))) (And.intro rfl (ab_inv_ev (c_fail (n := n) (len := len) (a := skB f len x) (st := st1) (k := 0) (w := w) st_s (rR (by omega) (by omega)) 3 (skB f len x)) (by first | decide | omega) (Nat.le_refl _) (Nat.le_refl _) ?_)))
              rw [st_st]
              have p26 : (ab_st τ 1 (tpc n len (skB f len x) st1 3 (skB f len x : Nat))).2 26 = _ := st_e (by decide) q26
              refine hA 6 _ rfl _ _ _ _ _ ?_
              refine Exists.intro _ (And.intro (by first | assumption | exact st_s | exact st_e (by decide) (by assumption) | exact st_e (by omega) (by assumption) | exact st_e (by decide) st_s | exact st_e (by omega) st_s | exact st_e (by decide) (st_e (by decide) (by assumption)) | exact st_e (by omega) (st_e (by omega) (by assumption))) ?_)
              refine Exists.intro _ (And.intro (by first | assumption | exact st_s | exact st_e (by decide) (by assumption) | exact st_e (by omega) (by assumption) | exact st_e (by decide) st_s | exact st_e (by omega) st_s | exact st_e (by decide) (st_e (by decide) (by assumption)) | exact st_e (by omega) (st_e (by omega) (by assumption))) (And.intro rfl (ab_inv_ev (c_readNumber0 (n := n) (len := len) (a := skB f len x) (st := st1) (k := 3) (w := (skB f len x : Nat)) st_s (rR (by omega) (by omega)) (by decide) 2 200) (by first | decide | omega) (Nat.le_refl _) (Nat.le_refl _) ?_)))
              refine Exists.intro _ (And.intro (by first | assumption | exact st_s | exact st_e (by decide) (by assumption) | exact st_e (by omega) (by assumption) | exact st_e (by decide) st_s | exact st_e (by omega) st_s | exact st_e (by decide) (st_e (by decide) (by assumption)) | exact st_e (by omega) (st_e (by omega) (by assumption))) ?_)
              refine Exists.intro _ (And.intro (by first | assumption | exact st_s | exact st_e (by decide) (by assumption) | exact st_e (by omega) (by assumption) | exact st_e (by decide) st_s | exact st_e (by omega) st_s | exact st_e (by decide) (st_e (by decide) (by assumption)) | exact st_e (by omega) (st_e (by omega) (by assumption))) (And.intro rfl (ab_inv_ev (c_isSound (n := n) (len := len) (a := skB f len x) (st := st1) (k := 3) (w := (skB f len x : Nat)) st_s (rR (by omega) (by omega))) (by first | decide | omega) (Nat.le_refl _) (Nat.le_refl _) ?_)))
              refine And.intro (by first | assumption | exact b2i_R _ | exact rR (by omega) (by omega) | exact rR (by simp only [Int.toNat_natCast]; omega) (by simp only [Int.toNat_natCast]; omega)) (And.intro (fun q => ?_) (fun q => ?_))
              · refine fin _ _ (hf1.st (Or.inl rfl)) ?_
                rw [← hP]
                have hP2 : basP f len (m + 1) k x bs = .inl (3, (skB f len x : Nat)) := if_pos (by rw [hk44, hq]; rfl)
                rw [hP2]
                exact ⟨by decide, rR (by omega) (by omega), ⟨_, _, hs.2, st_s⟩, _, _, g1, p26, st_e (by decide) q27⟩
              · exact absurd rfl q
  refine hA 0 _ rfl _ _ _ _ _ ?_
  refine Exists.intro _ (And.intro (by first | assumption | exact st_s | exact st_e (by decide) (by assumption) | exact st_e (by omega) (by assumption) | exact st_e (by decide) st_s | exact st_e (by omega) st_s | exact st_e (by decide) (st_e (by decide) (by assumption)) | exact st_e (by omega) (st_e (by omega) (by assumption))) ?_)
  refine Exists.intro _ (And.intro (by first | assumption | exact st_s | exact st_e (by decide) (by assumption) | exact st_e (by omega) (by assumption) | exact st_e (by decide) st_s | exact st_e (by omega) st_s | exact st_e (by decide) (st_e (by decide) (by assumption)) | exact st_e (by omega) (st_e (by omega) (by assumption))) ?_)
  refine Exists.intro _ (And.intro (by first | assumption | exact st_s | exact st_e (by decide) (by assumption) | exact st_e (by omega) (by assumption) | exact st_e (by decide) st_s | exact st_e (by omega) st_s | exact st_e (by decide) (st_e (by decide) (by assumption)) | exact st_e (by omega) (st_e (by omega) (by assumption))) ?_)
  refine Exists.intro _ (And.intro (by first | assumption | exact st_s | exact st_e (by decide) (by assumption) | exact st_e (by omega) (by assumption) | exact st_e (by decide) st_s | exact st_e (by omega) st_s | exact st_e (by decide) (st_e (by decide) (by assumption)) | exact st_e (by omega) (st_e (by omega) (by assumption))) (And.intro rfl (ab_inv_ev (c_isSound (n := n) (len := len) (a := a) (st := st) (k := 0) (w := w) (st_e (by decide) (st_e (by decide) h1)) (rR (by omega) (by omega))) (by first | decide | omega) (Nat.le_refl _) (Nat.le_refl _) ?_)))
  rw [st_st]
  exact loop 5 0 a _ (fun _ => 2) _ (by omega) (by omega) ha (fr_st (Or.inr (Or.inl rfl))) (fun p => by decide) ⟨st, st_e (by decide) h1⟩ st_s ⟨g0, st_e (by decide) h27, fun p hp => by omega⟩ rfl
end ColText
