-- ===== the reading of names =====
/-- where the names of a text of names begin and end -/
def segL : Nat → List (Nat × Nat)
  | 0 => [(0, 5), (6, 11)]
  | 1 => [(0, 1), (2, 4)]
  | _ => [(0, 2), (3, 5), (6, 8), (9, 11), (12, 14), (15, 17), (18, 20), (21, 24), (25, 27), (28, 31), (32, 36), (37, 40), (41, 44), (45, 49), (50, 56)]
def fstI (p : Nat × Nat → Bool) : List (Nat × Nat) → Nat → Option Nat
  | [], _ => none
  | x :: xs, i => if p x then some i else fstI p xs (i + 1)
def okc (q : Nat) : Nat → List (Nat × Nat) → Bool
  | i, [] => i == ab_sl.getD q 0 + 1
  | i, (u, v) :: t => i == u && decide (u ≤ v) && (List.range (v - u)).all (fun j => ab_chr q (u + j) != 44) && (v == ab_sl.getD q 0 || ab_chr q v == 44) && decide (v ≤ ab_sl.getD q 0) && okc q (v + 1) t
theorem okc_ok : ∀ q, q < 3 → okc q 0 (segL q) = true := by decide +kernel
theorem chr_R (q j : Nat) : ab_R (ab_chr q j) := by
  unfold ab_chr
  exact rR (Int32.le_toInt _) (Int32.toInt_lt _)
theorem sl_lt : ∀ q, q < 3 → ab_sl.getD q 0 ≤ 56 := by decide
/-- the reading of a name: the fault, or (which one, where it goes on) -/
def wordP (f : Nat → Int) (len a q : Nat) : (Int × Int) ⊕ (Nat × Nat) :=
  let b := skB f len a
  let e := skL f len b
  match fstI (fun s => spl q s.1 s.2 f b (e - b)) (segL q) 0 with
  | some i => .inr (i, e)
  | none => .inl (1, (b : Nat))
section Name
variable {σ : ab_H} {f : Nat → Int} {len a : Nat} {n st k w : Int}
set_option maxRecDepth 100000 in
set_option maxHeartbeats 1000000 in
theorem c_readName0 (h1 : σ.2 1 = some (tpc n len a st k w)) (hk : ab_R k) (hk0 : k ≠ 0) (v : Nat) : ab_ev 7 yX7_readName [rf 1, .inr (.inr (.inr v))] σ (some (.inl (-1))) σ := by
  refine eX7_readName rfl (fun At hA => ?_)
  refine hA 0 _ rfl _ _ _ _ _ ?_
  refine Exists.intro _ (And.intro (by first | assumption | exact st_s | exact st_e (by decide) (by assumption) | exact st_e (by omega) (by assumption) | exact st_e (by decide) st_s | exact st_e (by omega) st_s | exact st_e (by decide) (st_e (by decide) (by assumption)) | exact st_e (by omega) (st_e (by omega) (by assumption))) (And.intro rfl (ab_inv_ev (c_isSound h1 hk) (by decide) (Nat.le_refl _) (Nat.le_refl _) ?_)))
  refine And.intro (by first | assumption | exact b2i_R _ | exact rR (by omega) (by omega) | exact rR (by simp only [Int.toNat_natCast]; omega) (by simp only [Int.toNat_natCast]; omega)) (And.intro (fun q => ?_) (fun q => ?_))
  · exact absurd (show b2i (decide (k = 0)) = 0 by rw [decide_eq_false hk0]; rfl) q
  · refine hA 1 _ rfl _ _ _ _ _ ?_
    exact ⟨rfl, rfl⟩
abbrev wordZ (P : (Int × Int) ⊕ (Nat × Nat)) : Int := match P with
  | .inl _ => -1
  | .inr (i, _) => (i : Nat)
abbrev wordT (n : Int) (len e b : Nat) (w : Int) (P : (Int × Int) ⊕ (Nat × Nat)) : ab_C := match P with
  | .inl (u, v) => tpc n len e b u v
  | .inr _ => tpc n len e b 0 w
set_option maxRecDepth 100000 in
set_option maxHeartbeats 1000000 in
theorem c_readName (h1 : σ.2 1 = some (tpc n len a st 0 w)) (h2 : σ.2 2 = some (bya f)) (hf : byR f) (hl : len ≤ 400) (ha : a ≤ len) (v : Nat) (hv : v < 3) : ab_ev 7 yX7_readName [rf 1, .inr (.inr (.inr v))] σ (some (.inl (wordZ (wordP f len a v)))) (ab_st σ 1 (wordT n len (skL f len (skB f len a)) (skB f len a) w (wordP f len a v))) := by
  have hs := skB_sp f len a ha
  have hd := skL_sp f len (skB f len a) hs.2
  have hsl := sl_lt v hv
  have hcR := chr_R v
  generalize hb : skB f len a = b at hs hd
  generalize he : skL f len b = e at hd
  have hP : wordP f len a v = match fstI (fun s => spl v s.1 s.2 f b (e - b)) (segL v) 0 with
    | some i => .inr (i, e)
    | none => .inl (1, (b : Nat)) := by
    unfold wordP
    rw [hb]
    simp only [he]
  have hdec : ∀ j, decide (97 ≤ f j) = false ∨ decide (f j ≤ 122) = false → isL (f j) = false := fun j h => by
    unfold isL
    rcases h with h | h <;> rw [h] <;> simp
  refine eX7_readName rfl (fun At hA => ?_)
  have names : ∀ (sg : List (Nat × Nat)) (c i : Nat), okc v i sg = true → fstI (fun s => spl v s.1 s.2 f b (e - b)) sg c = fstI (fun s => spl v s.1 s.2 f b (e - b)) (segL v) 0 → c + sg.length ≤ 100 → At 8 [some (rf 1), some (.inr (.inr (.inr v))), some (.inl c), some (.inl i), some (.inl i)] [] (ab_st σ 1 (tpc n len e b 0 w)) 0 0 := by
    intro sg
    induction sg with
    | nil =>
      intro c i ho hf9 hc9
      have ho : i = ab_sl.getD v 0 + 1 := by simpa [okc] using ho
      refine hA 8 _ rfl _ _ _ _ _ ?_
      refine And.intro ⟨by first | assumption | decide, by decide⟩ (And.intro rfl ?_)
      refine And.intro (And.intro (by first | assumption | exact b2i_R _ | exact rR (by omega) (by omega) | exact rR (by simp only [Int.toNat_natCast]; omega) (by simp only [Int.toNat_natCast]; omega)) (by first | assumption | exact b2i_R _ | exact rR (by omega) (by omega) | exact rR (by simp only [Int.toNat_natCast]; omega) (by simp only [Int.toNat_natCast]; omega))) (And.intro (fun q => ?_) (fun q => ?_))
      · refine hA 15 _ rfl _ _ _ _ _ ?_
        refine Exists.intro _ (And.intro (by first | assumption | exact st_s | exact st_e (by decide) (by assumption) | exact st_e (by omega) (by assumption) | exact st_e (by decide) st_s | exact st_e (by omega) st_s | exact st_e (by decide) (st_e (by decide) (by assumption)) | exact st_e (by omega) (st_e (by omega) (by assumption))) ?_)
        refine Exists.intro _ (And.intro (by first | assumption | exact st_s | exact st_e (by decide) (by assumption) | exact st_e (by omega) (by assumption) | exact st_e (by decide) st_s | exact st_e (by omega) st_s | exact st_e (by decide) (st_e (by decide) (by assumption)) | exact st_e (by omega) (st_e (by omega) (by assumption))) (And.intro rfl (ab_inv_ev (c_fail st_s (rR (by omega) (by omega)) 1 b) (by decide) (Nat.le_refl _) (Nat.le_refl _) ?_)))
        rw [st_st, hP, ← hf9]
        exact ⟨rfl, rfl⟩
      · omega
    | cons x sg ih =>
      intro c i ho hf9 hc9
      obtain ⟨u, t⟩ := x
      have hc8 := hc9
      simp only [List.length_cons] at hc8
      simp only [okc, Bool.and_eq_true, Bool.or_eq_true, decide_eq_true_eq, beq_iff_eq, List.all_eq_true, List.mem_range, bne_iff_ne] at ho
      obtain ⟨⟨⟨⟨⟨ho1, ho2⟩, ho3⟩, ho4⟩, ho5⟩, ho6⟩ := ho
      subst ho1
      have k11 : At 11 [some (rf 1), some (.inr (.inr (.inr v))), some (.inl c), some (.inl i), some (.inl t)] [] (ab_st σ 1 (tpc n len e b 0 w)) 0 0 := by
        refine hA 11 _ rfl _ _ _ _ _ ?_
        refine Exists.intro _ (And.intro (by first | assumption | exact st_s | exact st_e (by decide) (by assumption) | exact st_e (by omega) (by assumption) | exact st_e (by decide) st_s | exact st_e (by omega) st_s | exact st_e (by decide) (st_e (by decide) (by assumption)) | exact st_e (by omega) (st_e (by omega) (by assumption))) (And.intro rfl (ab_inv_ev (c_isSpelt (a := e) st_s (st_e (by decide) h2) hf hl (by omega) rfl hd.1 hv ho2 ho5 (by omega) hcR) (by decide) (Nat.le_refl _) (Nat.le_refl _) ?_)))
        refine And.intro (by first | assumption | exact b2i_R _ | exact rR (by omega) (by omega) | exact rR (by simp only [Int.toNat_natCast]; omega) (by simp only [Int.toNat_natCast]; omega)) (And.intro (fun q => ?_) (fun q => ?_))
        · have hq := b2i_0 q
          refine hA 13 _ rfl _ _ _ _ _ ?_
          refine hA 14 _ rfl _ _ _ _ _ ?_
          refine ih (c + 1) (t + 1) ho6 ?_ ?_
          · rw [← hf9]
            show _ = (if spl v i t f b (e - b) then some c else _)
            rw [hq]
            rfl
          · simp only [List.length_cons] at hc9; omega
        · have hq := b2i_1 q
          refine hA 12 _ rfl _ _ _ _ _ ?_
          rw [hP, ← hf9]
          show _ = Sum.inl (some (Sum.inl (wordZ (match (if spl v i t f b (e - b) then some c else _) with
            | some i => Sum.inr (i, e)
            | none => Sum.inl (1, (b : Int)))))) ∧ _ = ab_st σ 1 (wordT n len e b w (match (if spl v i t f b (e - b) then some c else _) with
            | some i => Sum.inr (i, e)
            | none => Sum.inl (1, (b : Int))))
          rw [hq]
          exact ⟨rfl, rfl⟩
      have inner : ∀ m j : Nat, j + m = t → i ≤ j → At 8 [some (rf 1), some (.inr (.inr (.inr v))), some (.inl c), some (.inl i), some (.inl j)] [] (ab_st σ 1 (tpc n len e b 0 w)) 0 0 := by
        intro m
        induction m with
        | zero =>
          intro j hj hij
          have hj : j = t := by omega
          subst hj
          refine hA 8 _ rfl _ _ _ _ _ ?_
          refine And.intro ⟨by first | assumption | decide, by decide⟩ (And.intro rfl ?_)
          refine And.intro (And.intro (by first | assumption | exact b2i_R _ | exact rR (by omega) (by omega) | exact rR (by simp only [Int.toNat_natCast]; omega) (by simp only [Int.toNat_natCast]; omega)) (by first | assumption | exact b2i_R _ | exact rR (by omega) (by omega) | exact rR (by simp only [Int.toNat_natCast]; omega) (by simp only [Int.toNat_natCast]; omega))) (And.intro (fun q => ?_) (fun q => ?_))
          · omega
          · refine hA 9 _ rfl _ _ _ _ _ ?_
            refine And.intro ⟨by first | assumption | decide, by decide⟩ (And.intro rfl ?_)
            refine And.intro (And.intro (by first | assumption | exact b2i_R _ | exact rR (by omega) (by omega) | exact rR (by simp only [Int.toNat_natCast]; omega) (by simp only [Int.toNat_natCast]; omega)) (by first | assumption | exact b2i_R _ | exact rR (by omega) (by omega) | exact rR (by simp only [Int.toNat_natCast]; omega) (by simp only [Int.toNat_natCast]; omega))) (And.intro (fun q => ?_) (fun q => ?_))
            · exact k11
            · refine hA 10 _ rfl _ _ _ _ _ ?_
              refine And.intro ⟨hv, by decide, by omega, by omega⟩ (And.intro rfl ?_)
              refine And.intro (And.intro (hcR _) (rR (by omega) (by omega))) (And.intro (fun q2 => ?_) (fun q2 => ?_))
              · rcases ho4 with h | h
                · exact absurd (show ((j : Nat) : Int) = ((ab_sl.getD v 0 : Nat) : Int) by rw [h]) q
                · exact absurd h q2
              · exact k11
        | succ m ih2 =>
          intro j hj hij
          refine hA 8 _ rfl _ _ _ _ _ ?_
          refine And.intro ⟨by first | assumption | decide, by decide⟩ (And.intro rfl ?_)
          refine And.intro (And.intro (by first | assumption | exact b2i_R _ | exact rR (by omega) (by omega) | exact rR (by simp only [Int.toNat_natCast]; omega) (by simp only [Int.toNat_natCast]; omega)) (by first | assumption | exact b2i_R _ | exact rR (by omega) (by omega) | exact rR (by simp only [Int.toNat_natCast]; omega) (by simp only [Int.toNat_natCast]; omega))) (And.intro (fun q => ?_) (fun q => ?_))
          · omega
          · refine hA 9 _ rfl _ _ _ _ _ ?_
            refine And.intro ⟨by first | assumption | decide, by decide⟩ (And.intro rfl ?_)
            refine And.intro (And.intro (by first | assumption | exact b2i_R _ | exact rR (by omega) (by omega) | exact rR (by simp only [Int.toNat_natCast]; omega) (by simp only [Int.toNat_natCast]; omega)) (by first | assumption | exact b2i_R _ | exact rR (by omega) (by omega) | exact rR (by simp only [Int.toNat_natCast]; omega) (by simp only [Int.toNat_natCast]; omega))) (And.intro (fun q => ?_) (fun q => ?_))
            · omega
            · refine hA 10 _ rfl _ _ _ _ _ ?_
              refine And.intro ⟨hv, by decide, by omega, by omega⟩ (And.intro rfl ?_)
              refine And.intro (And.intro (hcR _) (rR (by omega) (by omega))) (And.intro (fun q2 => ?_) (fun q2 => ?_))
              · refine hA 14 _ rfl _ _ _ _ _ ?_
                exact ih2 (j + 1) (by omega) (by omega)
              · have := ho3 (j - i) (by omega)
                rw [show i + (j - i) = j by omega] at this
                exact absurd q2 this
      exact inner (t - i) i (by omega) (Nat.le_refl _)
  have k7 : ∀ L5, L5.length = 3 → At 7 (some (rf 1) :: some (.inr (.inr (.inr v))) :: L5) [] (ab_st σ 1 (tpc n len e b 0 w)) 0 0 := fun L5 h5 => by
    match L5, h5 with
    | [_, _, _], _ =>
      refine hA 7 _ rfl _ _ _ _ _ ?_
      exact names (segL v) 0 0 (okc_ok v hv) rfl (by rcases (show v = 0 ∨ v = 1 ∨ v = 2 by omega) with h | h | h <;> subst h <;> decide)
  refine hA 0 _ rfl _ _ _ _ _ ?_
  refine Exists.intro _ (And.intro (by first | assumption | exact st_s | exact st_e (by decide) (by assumption) | exact st_e (by omega) (by assumption) | exact st_e (by decide) st_s | exact st_e (by omega) st_s | exact st_e (by decide) (st_e (by decide) (by assumption)) | exact st_e (by omega) (st_e (by omega) (by assumption))) (And.intro rfl (ab_inv_ev (c_isSound h1 (rR (by omega) (by omega))) (by decide) (Nat.le_refl _) (Nat.le_refl _) ?_)))
  refine And.intro (by first | assumption | exact b2i_R _ | exact rR (by omega) (by omega) | exact rR (by simp only [Int.toNat_natCast]; omega) (by simp only [Int.toNat_natCast]; omega)) (And.intro (fun q => ?_) (fun q => ?_))
  · refine hA 2 _ rfl _ _ _ _ _ ?_
    refine Exists.intro _ (And.intro (by first | assumption | exact st_s | exact st_e (by decide) (by assumption) | exact st_e (by omega) (by assumption) | exact st_e (by decide) st_s | exact st_e (by omega) st_s | exact st_e (by decide) (st_e (by decide) (by assumption)) | exact st_e (by omega) (st_e (by omega) (by assumption))) (And.intro rfl (ab_inv_ev (c_skipBlanks h1 h2 hf hl ha) (by decide) (Nat.le_refl _) (Nat.le_refl _) ?_)))
    refine Exists.intro _ (And.intro (by first | assumption | exact st_s | exact st_e (by decide) (by assumption) | exact st_e (by omega) (by assumption) | exact st_e (by decide) st_s | exact st_e (by omega) st_s | exact st_e (by decide) (st_e (by decide) (by assumption)) | exact st_e (by omega) (st_e (by omega) (by assumption))) ?_)
    refine Exists.intro _ (And.intro (by first | assumption | exact st_s | exact st_e (by decide) (by assumption) | exact st_e (by omega) (by assumption) | exact st_e (by decide) st_s | exact st_e (by omega) st_s | exact st_e (by decide) (st_e (by decide) (by assumption)) | exact st_e (by omega) (st_e (by omega) (by assumption))) ?_)
    rw [hb, st_st]
    have loop : ∀ m i : Nat, i + m = len → rn (fun k => isL (byt f len k)) i m = e → At 3 [some (rf 1), some (.inr (.inr (.inr v))), none, none, none] [] (ab_st σ 1 (tpc n len i b 0 w)) 0 0 := by
      intro m
      induction m with
      | zero =>
        intro i hi hr
        have hr : i = e := hr
        refine hA 3 _ rfl _ _ _ _ _ ?_
        refine Exists.intro _ (And.intro (by first | assumption | exact st_s | exact st_e (by decide) (by assumption) | exact st_e (by omega) (by assumption) | exact st_e (by decide) st_s | exact st_e (by omega) st_s | exact st_e (by decide) (st_e (by decide) (by assumption)) | exact st_e (by omega) (st_e (by omega) (by assumption))) ?_)
        refine Exists.intro _ (And.intro (by first | assumption | exact st_s | exact st_e (by decide) (by assumption) | exact st_e (by omega) (by assumption) | exact st_e (by decide) st_s | exact st_e (by omega) st_s | exact st_e (by decide) (st_e (by decide) (by assumption)) | exact st_e (by omega) (st_e (by omega) (by assumption))) ?_)
        refine And.intro (And.intro (by first | assumption | exact b2i_R _ | exact rR (by omega) (by omega) | exact rR (by simp only [Int.toNat_natCast]; omega) (by simp only [Int.toNat_natCast]; omega)) (by first | assumption | exact b2i_R _ | exact rR (by omega) (by omega) | exact rR (by simp only [Int.toNat_natCast]; omega) (by simp only [Int.toNat_natCast]; omega))) (And.intro (fun q => ?_) (fun q => ?_))
        · rw [hr]
          exact k7 _ rfl
        · omega
      | succ m ih =>
        intro i hi hr
        have hfi := hf i
        have hfi2 := hf (Int.toNat (i : Int))
        have no : isL (f i) = false → At 7 [some (rf 1), some (.inr (.inr (.inr v))), none, none, none] [] (ab_st σ 1 (tpc n len i b 0 w)) 0 0 := fun h => by
          rw [rn_no (by show isL (byt f len i) = false; rw [byt_lt (by omega)]; exact h)] at hr
          rw [hr]
          exact k7 _ rfl
        refine hA 3 _ rfl _ _ _ _ _ ?_
        refine Exists.intro _ (And.intro (by first | assumption | exact st_s | exact st_e (by decide) (by assumption) | exact st_e (by omega) (by assumption) | exact st_e (by decide) st_s | exact st_e (by omega) st_s | exact st_e (by decide) (st_e (by decide) (by assumption)) | exact st_e (by omega) (st_e (by omega) (by assumption))) ?_)
        refine Exists.intro _ (And.intro (by first | assumption | exact st_s | exact st_e (by decide) (by assumption) | exact st_e (by omega) (by assumption) | exact st_e (by decide) st_s | exact st_e (by omega) st_s | exact st_e (by decide) (st_e (by decide) (by assumption)) | exact st_e (by omega) (st_e (by omega) (by assumption))) ?_)
        refine And.intro (And.intro (by first | assumption | exact b2i_R _ | exact rR (by omega) (by omega) | exact rR (by simp only [Int.toNat_natCast]; omega) (by simp only [Int.toNat_natCast]; omega)) (by first | assumption | exact b2i_R _ | exact rR (by omega) (by omega) | exact rR (by simp only [Int.toNat_natCast]; omega) (by simp only [Int.toNat_natCast]; omega))) (And.intro (fun q => ?_) (fun q => ?_))
        · omega
        · refine hA 4 _ rfl _ _ _ _ _ ?_
          refine Exists.intro _ (And.intro (by first | assumption | exact st_s | exact st_e (by decide) (by assumption) | exact st_e (by omega) (by assumption) | exact st_e (by decide) st_s | exact st_e (by omega) st_s | exact st_e (by decide) (st_e (by decide) (by assumption)) | exact st_e (by omega) (st_e (by omega) (by assumption))) ?_)
          refine Exists.intro _ (And.intro (by first | assumption | exact st_s | exact st_e (by decide) (by assumption) | exact st_e (by omega) (by assumption) | exact st_e (by decide) st_s | exact st_e (by omega) st_s | exact st_e (by decide) (st_e (by decide) (by assumption)) | exact st_e (by omega) (st_e (by omega) (by assumption))) ?_)
          refine Exists.intro _ (Exists.intro _ (And.intro (by first | assumption | exact st_s | exact st_e (by decide) (by assumption) | exact st_e (by omega) (by assumption) | exact st_e (by decide) st_s | exact st_e (by omega) st_s | exact st_e (by decide) (st_e (by decide) (by assumption)) | exact st_e (by omega) (st_e (by omega) (by assumption))) (And.intro (by omega) ?_)))
          refine And.intro (And.intro (by first | assumption | exact b2i_R _ | exact rR (by omega) (by omega) | exact rR (by simp only [Int.toNat_natCast]; omega) (by simp only [Int.toNat_natCast]; omega)) (by first | assumption | exact b2i_R _ | exact rR (by omega) (by omega) | exact rR (by simp only [Int.toNat_natCast]; omega) (by simp only [Int.toNat_natCast]; omega))) (And.intro (fun q => ?_) (fun q => ?_))
          · exact no (hdec i (Or.inl (decide_eq_false (Int.not_le.mpr q))))
          · refine hA 5 _ rfl _ _ _ _ _ ?_
            refine Exists.intro _ (And.intro (by first | assumption | exact st_s | exact st_e (by decide) (by assumption) | exact st_e (by omega) (by assumption) | exact st_e (by decide) st_s | exact st_e (by omega) st_s | exact st_e (by decide) (st_e (by decide) (by assumption)) | exact st_e (by omega) (st_e (by omega) (by assumption))) ?_)
            refine Exists.intro _ (And.intro (by first | assumption | exact st_s | exact st_e (by decide) (by assumption) | exact st_e (by omega) (by assumption) | exact st_e (by decide) st_s | exact st_e (by omega) st_s | exact st_e (by decide) (st_e (by decide) (by assumption)) | exact st_e (by omega) (st_e (by omega) (by assumption))) ?_)
            refine Exists.intro _ (Exists.intro _ (And.intro (by first | assumption | exact st_s | exact st_e (by decide) (by assumption) | exact st_e (by omega) (by assumption) | exact st_e (by decide) st_s | exact st_e (by omega) st_s | exact st_e (by decide) (st_e (by decide) (by assumption)) | exact st_e (by omega) (st_e (by omega) (by assumption))) (And.intro (by omega) ?_)))
            refine And.intro (And.intro (by first | assumption | exact b2i_R _ | exact rR (by omega) (by omega) | exact rR (by simp only [Int.toNat_natCast]; omega) (by simp only [Int.toNat_natCast]; omega)) (by first | assumption | exact b2i_R _ | exact rR (by omega) (by omega) | exact rR (by simp only [Int.toNat_natCast]; omega) (by simp only [Int.toNat_natCast]; omega))) (And.intro (fun q => ?_) (fun q => ?_))
            · exact no (hdec i (Or.inr (decide_eq_false (Int.not_le.mpr q))))
            · have hy : isL (byt f len i) = true := by
                rw [byt_lt (by omega)]
                unfold isL
                rw [decide_eq_true (show 97 ≤ f i by assumption), decide_eq_true (show f i ≤ 122 by assumption)]
                rfl
              rw [rn_st hy] at hr
              refine hA 6 _ rfl _ _ _ _ _ ?_
              refine Exists.intro _ (And.intro (by first | assumption | exact st_s | exact st_e (by decide) (by assumption) | exact st_e (by omega) (by assumption) | exact st_e (by decide) st_s | exact st_e (by omega) st_s | exact st_e (by decide) (st_e (by decide) (by assumption)) | exact st_e (by omega) (st_e (by omega) (by assumption))) ?_)
              refine Exists.intro _ (And.intro (by first | assumption | exact st_s | exact st_e (by decide) (by assumption) | exact st_e (by omega) (by assumption) | exact st_e (by decide) st_s | exact st_e (by omega) st_s | exact st_e (by decide) (st_e (by decide) (by assumption)) | exact st_e (by omega) (st_e (by omega) (by assumption))) ?_)
              rw [st_st]
              exact ih (i + 1) (by omega) hr
    exact loop (len - b) b (by omega) he
  · exact absurd q (by decide)
end Name
