-- ===== the model: words by 27s =====
def cdx (d : Nat → Int) : Nat → Int
  | 0 => 0
  | m + 1 => 27 * cdx d m + d m
theorem cdx_ext {d e : Nat → Int} : ∀ m, (∀ j, j < m → d j = e j) → cdx d m = cdx e m := by
  intro m
  induction m with
  | zero => intro _; rfl
  | succ m ih =>
    intro h
    show 27 * cdx d m + d m = 27 * cdx e m + e m
    rw [ih (fun j hj => h j (by omega)), h m (by omega)]
theorem cdx_pos {d : Nat → Int} : ∀ m, (∀ j, j < m → 1 ≤ d j ∧ d j ≤ 26) → 0 ≤ cdx d m ∧ (0 < m → 0 < cdx d m) ∧ cdx d m < 27 ^ m := by
  intro m
  induction m with
  | zero => intro _; exact ⟨Int.le_refl _, fun h => by omega, by show (0 : Int) < 1; decide⟩
  | succ m ih =>
    intro h
    have h1 := ih (fun j hj => h j (by omega))
    have h2 := h m (by omega)
    have e : cdx d (m + 1) = 27 * cdx d m + d m := rfl
    rw [e, Int.pow_succ]
    omega
theorem cdx_inj {d e : Nat → Int} : ∀ m k, (∀ j, j < m → 1 ≤ d j ∧ d j ≤ 26) → (∀ j, j < k → 1 ≤ e j ∧ e j ≤ 26) → cdx d m = cdx e k → m = k ∧ ∀ j, j < m → d j = e j := by
  intro m
  induction m with
  | zero =>
    intro k _ he h
    cases k with
    | zero => exact ⟨rfl, fun j hj => by omega⟩
    | succ k =>
      have := (cdx_pos (k + 1) he).2.1 (by omega)
      rw [← h] at this
      exact absurd (show (0 : Int) < 0 from this) (by decide)
  | succ m ih =>
    intro k hd he h
    cases k with
    | zero =>
      have := (cdx_pos (m + 1) hd).2.1 (by omega)
      rw [h] at this
      exact absurd (show (0 : Int) < 0 from this) (by decide)
    | succ k =>
      have h : 27 * cdx d m + d m = 27 * cdx e k + e k := h
      have h1 := hd m (by omega)
      have h2 := he k (by omega)
      have h3 := ih k (fun j hj => hd j (by omega)) (fun j hj => he j (by omega)) (by omega)
      refine ⟨by omega, fun j hj => ?_⟩
      by_cases q : j = m
      · rw [q, h3.1]
        have : e k = d m := by omega
        rw [← h3.1, ← this, h3.1]
      · exact h3.2 j (by omega)
/-- the code of the word from b to e: none, where it has no letters or too many -/
def wcd (f : Nat → Int) (b m : Nat) : Int := if 1 ≤ m ∧ m ≤ 6 then cdx (fun j => f (b + j) - 96) m else -1
def nmc : Nat → List Int
  | 0 => [3007164, 9596021]
  | 1 => [24, 411]
  | _ => [329, 344, 194, 209, 152, 383, 257, 1111, 423, 17919, 240373, 10631, 1065, 286880, 261327161]
def fstC (w : Int) : List Int → Nat → Option Nat
  | [], _ => none
  | x :: xs, i => if w = x then some i else fstC w xs (i + 1)
/-- a stretch of the names with its code -/
def nmO (q : Nat) (s : Nat × Nat) (x : Int) : Bool := decide (1 ≤ s.2 - s.1 ∧ s.2 - s.1 ≤ 6) && (List.range (s.2 - s.1)).all (fun j => decide (1 ≤ ab_chr q (s.1 + j) - 96 ∧ ab_chr q (s.1 + j) - 96 ≤ 26)) && decide (cdx (fun j => ab_chr q (s.1 + j) - 96) (s.2 - s.1) = x)
def nmA (q : Nat) : List (Nat × Nat) → List Int → Bool
  | [], [] => true
  | s :: l, x :: xs => nmO q s x && nmA q l xs
  | _, _ => false
theorem nm_ok : ∀ q, q < 3 → nmA q (segL q) (nmc q) = true := by decide +kernel
theorem spl_cd {q : Nat} {s : Nat × Nat} {x : Int} (hO : nmO q s x = true) {f : Nat → Int} {b m : Nat} (hf : ∀ j, j < m → 97 ≤ f (b + j) ∧ f (b + j) ≤ 122) : spl q s.1 s.2 f b m = true ↔ wcd f b m = x := by
  unfold nmO at hO
  rw [Bool.and_eq_true, Bool.and_eq_true, decide_eq_true_iff, decide_eq_true_iff, List.all_eq_true] at hO
  obtain ⟨⟨h1, h2⟩, h3⟩ := hO
  have h2 : ∀ j, j < s.2 - s.1 → 1 ≤ ab_chr q (s.1 + j) - 96 ∧ ab_chr q (s.1 + j) - 96 ≤ 26 := fun j hj => of_decide_eq_true (h2 j (List.mem_range.mpr hj))
  have hd : ∀ j, j < m → 1 ≤ f (b + j) - 96 ∧ f (b + j) - 96 ≤ 26 := fun j hj => by have := hf j hj; omega
  have hx := (cdx_pos (s.2 - s.1) h2).2.1 (by omega)
  unfold spl wcd
  rw [Bool.and_eq_true, beq_iff_eq, List.all_eq_true]
  refine ⟨fun h => ?_, fun h => ?_⟩
  · rw [if_pos (by omega), ← h3, h.1]
    refine cdx_ext m (fun j hj => ?_)
    have := beq_iff_eq.mp (h.2 j (List.mem_range.mpr hj))
    rw [this]
  · by_cases hm : 1 ≤ m ∧ m ≤ 6
    · rw [if_pos hm, ← h3] at h
      have h4 := cdx_inj m (s.2 - s.1) hd h2 h
      refine ⟨h4.1.symm, fun j hj => beq_iff_eq.mpr ?_⟩
      have := h4.2 j (List.mem_range.mp hj)
      omega
    · rw [if_neg hm] at h
      omega
theorem fst_cd {q : Nat} {f : Nat → Int} {b m : Nat} (hf : ∀ j, j < m → 97 ≤ f (b + j) ∧ f (b + j) ≤ 122) : ∀ (l : List (Nat × Nat)) (xs : List Int) (i : Nat), nmA q l xs = true → fstI (fun s => spl q s.1 s.2 f b m) l i = fstC (wcd f b m) xs i := by
  intro l
  induction l with
  | nil =>
    intro xs i h
    cases xs with
    | nil => rfl
    | cons x xs => exact absurd (show false = true from h) Bool.false_ne_true
  | cons s l ih =>
    intro xs i h
    cases xs with
    | nil => exact absurd (show false = true from h) Bool.false_ne_true
    | cons x xs =>
      have h : (nmO q s x && nmA q l xs) = true := h
      rw [Bool.and_eq_true] at h
      have hs := spl_cd h.1 hf
      show (if spl q s.1 s.2 f b m = true then some i else fstI _ l (i + 1)) = if wcd f b m = x then some i else fstC _ xs (i + 1)
      by_cases e : wcd f b m = x
      · rw [if_pos (hs.mpr e), if_pos e]
      · rw [if_neg (fun q => e (hs.mp q)), if_neg e]
        exact ih xs (i + 1) h.2
/-- the reading of a name, by its code -/
theorem wordP_cd {f : Nat → Int} {len a q : Nat} (ha : a ≤ len) (hq : q < 3) : wordP f len a q = match fstC (wcd f (skB f len a) (skL f len (skB f len a) - skB f len a)) (nmc q) 0 with
  | some i => .inr (i, skL f len (skB f len a))
  | none => .inl (1, (skB f len a : Nat)) := by
  have hs := skB_sp f len a ha
  have hd := (rn_sp (fun k => isL (byt f len k)) (len - skB f len a) (skB f len a))
  have hl := skL_sp f len (skB f len a) hs.2
  have hf : ∀ j, j < skL f len (skB f len a) - skB f len a → 97 ≤ f (skB f len a + j) ∧ f (skB f len a + j) ≤ 122 := fun j hj => by
    have := hd.2.2.1 (skB f len a + j) (by omega) (by show _ < skL f len (skB f len a); omega)
    rw [byt_lt (by omega)] at this
    unfold isL at this
    rw [Bool.and_eq_true, decide_eq_true_iff, decide_eq_true_iff] at this
    exact this
  unfold wordP
  dsimp only
  rw [fst_cd hf (segL q) (nmc q) 0 (nm_ok q hq)]
  cases fstC (wcd f (skB f len a) (skL f len (skB f len a) - skB f len a)) (nmc q) 0 <;> rfl
section Mword
variable {σ : ab_H} {t f : Nat → Int} {len : Nat} {s : S2}
set_option maxRecDepth 100000 in
set_option maxHeartbeats 1000000 in
theorem m_wordHere (h57 : σ.2 57 = some (m10 t)) (h59 : σ.2 59 = some (bya f)) (hf : byR f) (h3 : t 3 = len) (hl : len ≤ 400) (x : Nat) (hx : x ≤ len) (h4 : t 4 = x) : ab_ev 3 yX10_wordHere [rf 57] σ (some (.inl (wcd f (skB f len x) (skL f len (skB f len x) - skB f len x)))) (ab_st σ 57 (m10 (ab_up t 4 (skB f len x)))) := by
  have hb := m_here h57 h59 hf h3 hl x hx h4
  have hs := skB_sp f len x hx
  have hRb := byt_R hf len
  generalize skB f len x = b at hb hs
  have hd := (rn_sp (fun k => isL (byt f len k)) (len - b) b)
  have hsl := skL_sp f len b hs.2
  have hlet : ∀ j, b ≤ j → j < skL f len b → isL (byt f len j) = true := fun j h1 h2 => hd.2.2.1 j h1 h2
  have hend : skL f len b < len → isL (byt f len (skL f len b)) = false := fun h => hd.2.2.2 (by show skL f len b < _; omega)
  have hlf : ∀ j, b ≤ j → j < skL f len b → 1 ≤ f j - 96 ∧ f j - 96 ≤ 26 := fun j h1 h2 => by
    have := hlet j h1 h2
    rw [byt_lt (by omega)] at this
    unfold isL at this
    rw [Bool.and_eq_true, decide_eq_true_iff, decide_eq_true_iff] at this
    omega
  have q57 : (ab_st σ 57 (m10 (ab_up t 4 (b : Nat)))).2 57 = some (m10 (ab_up t 4 (b : Nat))) := st_s
  have q59 : (ab_st σ 57 (m10 (ab_up t 4 (b : Nat)))).2 59 = some (bya f) := st_e (by omega) h59
  have q3 : ab_up t 4 ((b : Nat) : Int) 3 = len := by rw [ab_up_n (by omega)]; exact h3
  have e4 : ab_up t 4 ((b : Nat) : Int) 4 = (b : Nat) := ab_up_s
  generalize ab_up t 4 ((b : Nat) : Int) = u at hb q57 q59 q3 e4
  have hpow : ∀ m, m ≤ 6 → b + m ≤ skL f len b → 0 ≤ cdx (fun j => f (b + j) - 96) m ∧ cdx (fun j => f (b + j) - 96) m < 400000000 := fun m h1 h2 => by
    have := cdx_pos (d := fun j => f (b + j) - 96) m (fun j hj => hlf (b + j) (by omega) (by omega))
    have h3 : (27 : Int) ^ m ≤ 27 ^ 6 := by
      rcases (show m = 0 ∨ m = 1 ∨ m = 2 ∨ m = 3 ∨ m = 4 ∨ m = 5 ∨ m = 6 by omega) with rfl | rfl | rfl | rfl | rfl | rfl | rfl <;> decide
    have h4 : (27 : Int) ^ 6 = 387420489 := by decide
    omega
  refine eX10_wordHere rfl (fun At hA => ?_)
  have loop : ∀ m i : Nat, b + i + m = skL f len b → At 1 [some (rf 57), some (.inl (cdx (fun j => f (b + j) - 96) (min i 6))), some (.inl i)] [] (ab_st σ 57 (m10 u)) 0 0 := by
    intro m
    induction m with
    | zero =>
      intro i hi
      have hba := m_byteAt q57 q59 q3 hl (b + i) (by omega)
      rw [Int.natCast_add, ← e4] at hba
      have hRi := hRb (b + i)
      have hnl : isL (byt f len (b + i)) = false := by
        rcases Nat.lt_or_ge (b + i) len with h | h
        · have := hend (by omega)
          rw [show b + i = skL f len b by omega]
          exact this
        · rw [byt_ge h]; rfl
      have k8 : ¬ (1 ≤ i ∧ i ≤ 6) → At 8 [some (rf 57), some (.inl (cdx (fun j => f (b + j) - 96) (min i 6))), some (.inl i)] [] (ab_st σ 57 (m10 u)) 0 0 := fun h => by
        refine hA 8 _ rfl _ _ _ _ _ ?_
        refine hA 10 _ rfl _ _ _ _ _ ?_
        refine ⟨?_, rfl⟩
        unfold wcd
        rw [if_neg (by omega)]
      refine hA 1 _ rfl _ _ _ _ _ ?_
      refine Exists.intro _ (And.intro (q57) ?_)
      refine Exists.intro _ (And.intro q57 (And.intro rfl (ab_inv_ev hba (by first | decide | omega) (by first | exact Nat.le_refl _ | omega) (by first | exact Nat.le_refl _ | omega) ?_)))
      refine And.intro rfl (ab_inv_ev (m_isSmall (byt f len (b + i)) (rR (by omega) (by omega))) (by first | decide | omega) (by first | exact Nat.le_refl _ | omega) (by first | exact Nat.le_refl _ | omega) ?_)
      refine And.intro (b2i_R _) (And.intro (fun q => ?_) (fun q => ?_))
      · refine hA 6 _ rfl _ _ _ _ _ ?_
        refine And.intro (And.intro (by first | assumption | exact b2i_R _ | exact rR (by omega) (by omega) | exact rR (by simp only [Int.toNat_natCast]; omega) (by simp only [Int.toNat_natCast]; omega)) (by first | assumption | exact b2i_R _ | exact rR (by omega) (by omega) | exact rR (by simp only [Int.toNat_natCast]; omega) (by simp only [Int.toNat_natCast]; omega))) (And.intro (fun q => ?_) (fun q => ?_))
        · exact k8 (by omega)
        · refine hA 7 _ rfl _ _ _ _ _ ?_
          refine And.intro (by first | assumption | exact b2i_R _ | exact rR (by omega) (by omega) | exact rR (by simp only [Int.toNat_natCast]; omega) (by simp only [Int.toNat_natCast]; omega)) (And.intro (fun q => ?_) (fun q => ?_))
          · refine hA 9 _ rfl _ _ _ _ _ ?_
            refine hA 10 _ rfl _ _ _ _ _ ?_
            refine ⟨?_, rfl⟩
            unfold wcd
            rw [if_pos (by omega), show skL f len b - b = i by omega, show min i 6 = i by omega]
          · exact k8 (by omega)
      · rw [hnl] at q; exact absurd rfl q
    | succ m ih =>
      intro i hi
      have hba := m_byteAt q57 q59 q3 hl (b + i) (by omega)
      rw [Int.natCast_add, ← e4] at hba
      have hRi := hRb (b + i)
      have hli := hlet (b + i) (by omega) (by omega)
      have hbf : byt f len (b + i) = f (b + i) := byt_lt (by omega)
      have ihi := ih (i + 1) (by omega)
      refine hA 1 _ rfl _ _ _ _ _ ?_
      refine Exists.intro _ (And.intro (q57) ?_)
      refine Exists.intro _ (And.intro q57 (And.intro rfl (ab_inv_ev hba (by first | decide | omega) (by first | exact Nat.le_refl _ | omega) (by first | exact Nat.le_refl _ | omega) ?_)))
      refine And.intro rfl (ab_inv_ev (m_isSmall (byt f len (b + i)) (rR (by omega) (by omega))) (by first | decide | omega) (by first | exact Nat.le_refl _ | omega) (by first | exact Nat.le_refl _ | omega) ?_)
      refine And.intro (b2i_R _) (And.intro (fun q => ?_) (fun q => ?_))
      · rw [hli] at q; exact absurd q (by decide)
      · refine hA 2 _ rfl _ _ _ _ _ ?_
        refine And.intro (And.intro (by first | assumption | exact b2i_R _ | exact rR (by omega) (by omega) | exact rR (by simp only [Int.toNat_natCast]; omega) (by simp only [Int.toNat_natCast]; omega)) (by first | assumption | exact b2i_R _ | exact rR (by omega) (by omega) | exact rR (by simp only [Int.toNat_natCast]; omega) (by simp only [Int.toNat_natCast]; omega))) (And.intro (fun q => ?_) (fun q => ?_))
        · rw [show min (i + 1) 6 = min i 6 by omega] at ihi
          refine hA 4 _ rfl _ _ _ _ _ ?_
          refine hA 5 _ rfl _ _ _ _ _ ?_
          exact ihi
        · have e1 : min i 6 = i := by omega
          have e2 : min (i + 1) 6 = i + 1 := by omega
          rw [e1]
          have e3 : cdx (fun j => f (b + j) - 96) (i + 1) = 27 * cdx (fun j => f (b + j) - 96) i + byt f len (b + i) - 97 + 1 := by
            show 27 * cdx (fun j => f (b + j) - 96) i + (f (b + i) - 96) = _
            rw [hbf]
            omega
          rw [e2, e3] at ihi
          refine hA 3 _ rfl _ _ _ _ _ ?_
          refine Exists.intro _ (And.intro (q57) ?_)
          refine Exists.intro _ (And.intro q57 (And.intro rfl (ab_inv_ev hba (by first | decide | omega) (by first | exact Nat.le_refl _ | omega) (by first | exact Nat.le_refl _ | omega) ?_)))
          refine hA 5 _ rfl _ _ _ _ _ ?_
          exact ihi
  have l0 := loop (skL f len b - b) 0 (by omega)
  refine hA 0 _ rfl _ _ _ _ _ ?_
  refine Exists.intro _ (And.intro (by first | assumption | exact st_s | exact st_e (by decide) (by assumption) | exact st_e (by omega) (by assumption) | exact st_e (by decide) st_s | exact st_e (by omega) st_s | exact st_e (by decide) (st_e (by decide) (by assumption)) | exact st_e (by omega) (st_e (by omega) (by assumption))) (And.intro rfl (ab_inv_ev hb (by first | decide | omega) (by first | exact Nat.le_refl _ | omega) (by first | exact Nat.le_refl _ | omega) ?_)))
  exact l0
def lt6 (a b c d e g : Int) : Int :=
  let v := 27 * a + b
  let v := if c = 0 then v else 27 * v + c
  let v := if d = 0 then v else 27 * v + d
  let v := if e = 0 then v else 27 * v + e
  if g = 0 then v else 27 * v + g
set_option maxRecDepth 100000 in
set_option maxHeartbeats 1000000 in
theorem m_letters (a b c d e g : Int) (hc : ab_R c) (hd : ab_R d) (he : ab_R e) (hg : ab_R g) : ab_ev 1 yX10_letters [.inl a, .inl b, .inl c, .inl d, .inl e, .inl g] σ (some (.inl (lt6 a b c d e g))) σ := by
  unfold lt6
  dsimp only
  generalize hv1 : 27 * a + b = v1
  generalize hv2 : (if c = 0 then v1 else 27 * v1 + c) = v2
  generalize hv3 : (if d = 0 then v2 else 27 * v2 + d) = v3
  generalize hv4 : (if e = 0 then v3 else 27 * v3 + e) = v4
  generalize hv5 : (if g = 0 then v4 else 27 * v4 + g) = v5
  refine eX10_letters rfl (fun At hA => ?_)
  have k12 : At 12 [some (.inl a), some (.inl b), some (.inl c), some (.inl d), some (.inl e), some (.inl g), some (.inl v4)] [.inl v5] σ 0 0 := by
    refine hA 12 _ rfl _ _ _ _ _ ?_
    exact ⟨rfl, rfl⟩
  have k9 : At 9 [some (.inl a), some (.inl b), some (.inl c), some (.inl d), some (.inl e), some (.inl g), some (.inl v3)] [.inl v4] σ 0 0 := by
    refine hA 9 _ rfl _ _ _ _ _ ?_
    refine And.intro (by first | assumption | exact b2i_R _ | exact rR (by omega) (by omega) | exact rR (by simp only [Int.toNat_natCast]; omega) (by simp only [Int.toNat_natCast]; omega)) (And.intro (fun q => ?_) (fun q => ?_))
    · rw [if_neg (by assumption)] at hv5
      rw [← hv5] at k12
      refine hA 11 _ rfl _ _ _ _ _ ?_
      exact k12
    · rw [if_pos (by assumption)] at hv5
      rw [← hv5] at k12
      refine hA 10 _ rfl _ _ _ _ _ ?_
      exact k12
  have k6 : At 6 [some (.inl a), some (.inl b), some (.inl c), some (.inl d), some (.inl e), some (.inl g), some (.inl v2)] [.inl v3] σ 0 0 := by
    refine hA 6 _ rfl _ _ _ _ _ ?_
    refine And.intro (by first | assumption | exact b2i_R _ | exact rR (by omega) (by omega) | exact rR (by simp only [Int.toNat_natCast]; omega) (by simp only [Int.toNat_natCast]; omega)) (And.intro (fun q => ?_) (fun q => ?_))
    · rw [if_neg (by assumption)] at hv4
      rw [← hv4] at k9
      refine hA 8 _ rfl _ _ _ _ _ ?_
      exact k9
    · rw [if_pos (by assumption)] at hv4
      rw [← hv4] at k9
      refine hA 7 _ rfl _ _ _ _ _ ?_
      exact k9
  have k3 : At 3 [some (.inl a), some (.inl b), some (.inl c), some (.inl d), some (.inl e), some (.inl g), some (.inl v1)] [.inl v2] σ 0 0 := by
    refine hA 3 _ rfl _ _ _ _ _ ?_
    refine And.intro (by first | assumption | exact b2i_R _ | exact rR (by omega) (by omega) | exact rR (by simp only [Int.toNat_natCast]; omega) (by simp only [Int.toNat_natCast]; omega)) (And.intro (fun q => ?_) (fun q => ?_))
    · rw [if_neg (by assumption)] at hv3
      rw [← hv3] at k6
      refine hA 5 _ rfl _ _ _ _ _ ?_
      exact k6
    · rw [if_pos (by assumption)] at hv3
      rw [← hv3] at k6
      refine hA 4 _ rfl _ _ _ _ _ ?_
      exact k6
  rw [← hv1] at k3
  refine hA 0 _ rfl _ _ _ _ _ ?_
  refine And.intro (by first | assumption | exact b2i_R _ | exact rR (by omega) (by omega) | exact rR (by simp only [Int.toNat_natCast]; omega) (by simp only [Int.toNat_natCast]; omega)) (And.intro (fun q => ?_) (fun q => ?_))
  · rw [if_neg (by assumption)] at hv2
    rw [← hv2, ← hv1] at k3
    refine hA 2 _ rfl _ _ _ _ _ ?_
    exact k3
  · rw [if_pos (by assumption)] at hv2
    rw [← hv2, ← hv1] at k3
    refine hA 1 _ rfl _ _ _ _ _ ?_
    exact k3
/-- whether the word with this code stands here; it is taken then -/
def tkT (f : Nat → Int) (len : Nat) (s : S2) (x : Int) : Bool × S2 := match s with
  | .inl e => (false, .inl e)
  | .inr a => if wcd f (skB f len a) (skL f len (skB f len a) - skB f len a) = x then (true, .inr (skL f len (skB f len a))) else (false, .inr a)
theorem wcd_R {f : Nat → Int} {len b : Nat} (hb : b ≤ len) : ab_R (wcd f b (skL f len b - b)) := by
  have hd := (rn_sp (fun k => isL (byt f len k)) (len - b) b)
  have hsl := skL_sp f len b hb
  unfold wcd
  split
  · have := cdx_pos (d := fun j => f (b + j) - 96) (skL f len b - b) (fun j hj => by
      have := hd.2.2.1 (b + j) (by omega) (by show b + j < skL f len b; omega)
      rw [byt_lt (by omega)] at this
      unfold isL at this
      rw [Bool.and_eq_true, decide_eq_true_iff, decide_eq_true_iff] at this
      omega)
    have h3 : (27 : Int) ^ (skL f len b - b) ≤ 27 ^ 6 := by
      generalize skL f len b - b = m at *
      rcases (show m = 1 ∨ m = 2 ∨ m = 3 ∨ m = 4 ∨ m = 5 ∨ m = 6 by omega) with rfl | rfl | rfl | rfl | rfl | rfl <;> decide
    have h4 : (27 : Int) ^ 6 = 387420489 := by decide
    exact rR (by omega) (by omega)
  · exact rR (by omega) (by omega)
set_option maxRecDepth 100000 in
set_option maxHeartbeats 1000000 in
theorem m_takes (h57 : σ.2 57 = some (m10 t)) (h59 : σ.2 59 = some (bya f)) (hf : byR f) (hl : len ≤ 400) (hM : MT t f len s) (x : Int) (hx : ab_R x) : ab_call 4 0 0 yX10_takes [rf 57, .inl x] σ (fun z σ' => z = .inl (some (.inl (b2i (tkT f len s x).1))) ∧ ∃ t', σ' = ab_st σ 57 (m10 t') ∧ MT t' f len (tkT f len s x).2 ∧ MU t t' ∧ ((∃ a, s = .inr a ∧ (tkT f len s x).1 = false) → ∃ a, s = .inr a ∧ t' 4 = (skB f len a : Nat))) := by
  have hfi := m_fine h57 hM
  cases s with
  | inl e =>
    refine eX10_takes rfl (fun At hA => ?_)
    refine hA 0 _ rfl _ _ _ _ _ ?_
    refine Exists.intro _ (And.intro (by first | assumption | exact st_s | exact st_e (by decide) (by assumption) | exact st_e (by omega) (by assumption) | exact st_e (by decide) st_s | exact st_e (by omega) st_s | exact st_e (by decide) (st_e (by decide) (by assumption)) | exact st_e (by omega) (st_e (by omega) (by assumption))) (And.intro rfl (ab_inv_ev hfi (by first | decide | omega) (by first | exact Nat.le_refl _ | omega) (by first | exact Nat.le_refl _ | omega) ?_)))
    refine And.intro (by first | assumption | exact b2i_R _ | exact rR (by omega) (by omega) | exact rR (by simp only [Int.toNat_natCast]; omega) (by simp only [Int.toNat_natCast]; omega)) (And.intro (fun q => ?_) (fun q => ?_))
    · refine hA 2 _ rfl _ _ _ _ _ ?_
      refine And.intro (by first | exact Or.inl rfl | exact Or.inr rfl | exact b2i_01 _) ?_
      exact ⟨rfl, t, (st_id h57).symm, hM, MU.rf t, fun ⟨a, h, _⟩ => by cases h⟩
    · exact absurd rfl q
  | inr a =>
    obtain ⟨h3, ha, h6, h7, y, hy, hsy, h4⟩ := hM
    have hwh := m_wordHere h57 h59 hf h3 hl y hy h4
    have hs := skB_sp f len y hy
    have hsa := hsy
    rw [hsy] at hwh hs
    have hR := wcd_R (f := f) hs.2
    have e4 : ab_up t 4 ((skB f len a : Nat) : Int) 4 = (skB f len a : Nat) := ab_up_s
    have hMr : MT (ab_up t 4 ((skB f len a : Nat) : Int)) f len (.inr a) := ⟨by rw [ab_up_n (by omega)]; exact h3, ha, by rw [ab_up_n (by omega)]; exact h6, by rw [ab_up_n (by omega)]; exact h7, _, hs.2, skB_id f len a ha, e4⟩
    have q57 : (ab_st σ 57 (m10 (ab_up t 4 (skB f len a : Nat)))).2 57 = some (m10 (ab_up t 4 (skB f len a : Nat))) := st_s
    have q59 : (ab_st σ 57 (m10 (ab_up t 4 (skB f len a : Nat)))).2 59 = some (bya f) := st_e (by omega) h59
    have hsk := m_skipWord q57 q59 hf (show ab_up t 4 ((skB f len a : Nat) : Int) 3 = len by rw [ab_up_n (by omega)]; exact h3) hl (skB f len a) hs.2 e4
    rw [st_st, up_up] at hsk
    have hsl := skL_sp f len (skB f len a) hs.2
    refine eX10_takes rfl (fun At hA => ?_)
    refine hA 0 _ rfl _ _ _ _ _ ?_
    refine Exists.intro _ (And.intro (by first | assumption | exact st_s | exact st_e (by decide) (by assumption) | exact st_e (by omega) (by assumption) | exact st_e (by decide) st_s | exact st_e (by omega) st_s | exact st_e (by decide) (st_e (by decide) (by assumption)) | exact st_e (by omega) (st_e (by omega) (by assumption))) (And.intro rfl (ab_inv_ev hfi (by first | decide | omega) (by first | exact Nat.le_refl _ | omega) (by first | exact Nat.le_refl _ | omega) ?_)))
    refine And.intro (by first | assumption | exact b2i_R _ | exact rR (by omega) (by omega) | exact rR (by simp only [Int.toNat_natCast]; omega) (by simp only [Int.toNat_natCast]; omega)) (And.intro (fun q => ?_) (fun q => ?_))
    · exact absurd (show (1 : Int) = 0 from q) (by decide)
    · refine hA 1 _ rfl _ _ _ _ _ ?_
      refine Exists.intro _ (And.intro (by first | assumption | exact st_s | exact st_e (by decide) (by assumption) | exact st_e (by omega) (by assumption) | exact st_e (by decide) st_s | exact st_e (by omega) st_s | exact st_e (by decide) (st_e (by decide) (by assumption)) | exact st_e (by omega) (st_e (by omega) (by assumption))) (And.intro rfl (ab_inv_ev hwh (by first | decide | omega) (by first | exact Nat.le_refl _ | omega) (by first | exact Nat.le_refl _ | omega) ?_)))
      refine And.intro (And.intro (by first | assumption | exact b2i_R _ | exact rR (by omega) (by omega) | exact rR (by simp only [Int.toNat_natCast]; omega) (by simp only [Int.toNat_natCast]; omega)) (by first | assumption | exact b2i_R _ | exact rR (by omega) (by omega) | exact rR (by simp only [Int.toNat_natCast]; omega) (by simp only [Int.toNat_natCast]; omega))) (And.intro (fun q => ?_) (fun q => ?_))
      · have e : tkT f len (.inr a) x = (true, .inr (skL f len (skB f len a))) := if_pos (by assumption)
        refine hA 3 _ rfl _ _ _ _ _ ?_
        refine Exists.intro _ (And.intro (by first | assumption | exact st_s | exact st_e (by decide) (by assumption) | exact st_e (by omega) (by assumption) | exact st_e (by decide) st_s | exact st_e (by omega) st_s | exact st_e (by decide) (st_e (by decide) (by assumption)) | exact st_e (by omega) (st_e (by omega) (by assumption))) (And.intro rfl (ab_inv_ev hsk (by first | decide | omega) (by first | exact Nat.le_refl _ | omega) (by first | exact Nat.le_refl _ | omega) ?_)))
        refine And.intro (by first | exact Or.inl rfl | exact Or.inr rfl | exact b2i_01 _) ?_
        rw [e]
        exact ⟨rfl, _, rfl, ⟨by rw [ab_up_n (by omega)]; exact h3, hsl.2, by rw [ab_up_n (by omega)]; exact h6, by rw [ab_up_n (by omega)]; exact h7, _, hsl.2, rfl, ab_up_s⟩, (MU.rf t).a4 _, fun ⟨a, _, h⟩ => absurd (show true = false from h) (by decide)⟩
      · have e : tkT f len (.inr a) x = (false, .inr a) := if_neg (by assumption)
        refine hA 2 _ rfl _ _ _ _ _ ?_
        refine And.intro (by first | exact Or.inl rfl | exact Or.inr rfl | exact b2i_01 _) ?_
        rw [e]
        exact ⟨rfl, _, rfl, hMr, (MU.rf t).a4 _, fun _ => ⟨a, rfl, e4⟩⟩
set_option maxRecDepth 100000 in
set_option maxHeartbeats 1000000 in
theorem m_whichHere (h57 : σ.2 57 = some (m10 t)) (h59 : σ.2 59 = some (bya f)) (hf : byR f) (h3 : t 3 = len) (hl : len ≤ 400) (x : Nat) (hx : x ≤ len) (h4 : t 4 = x) : ab_ev 4 yX10_whichHere [rf 57] σ (some (.inl (match fstC (wcd f (skB f len x) (skL f len (skB f len x) - skB f len x)) (nmc 2) 0 with
    | some i => ((i : Nat) : Int)
    | none => -1))) (ab_st σ 57 (m10 (ab_up t 4 (skB f len x)))) := by
  have hwh := m_wordHere h57 h59 hf h3 hl x hx h4
  have hR := wcd_R (f := f) (skB_sp f len x hx).2
  generalize wcd f (skB f len x) (skL f len (skB f len x) - skB f len x) = w at hwh hR
  generalize ab_st σ 57 (m10 (ab_up t 4 (skB f len x))) = υ at hwh
  have hlt := fun (a b c d e g : Nat) (h : a < 100 ∧ b < 100 ∧ c < 100 ∧ d < 100 ∧ e < 100 ∧ g < 100) => m_letters (σ := υ) a b c d e g (rR (by omega) (by omega)) (rR (by omega) (by omega)) (rR (by omega) (by omega)) (rR (by omega) (by omega))
  refine eX10_whichHere rfl (fun At hA => ?_)
  have fin : ∀ z : Int, z = (match fstC w (nmc 2) 0 with
    | some i => ((i : Nat) : Int)
    | none => -1) → At 33 [some (rf 57), some (.inl w)] [.inl z] υ 0 0 := fun z hz => by
    subst hz
    refine hA 33 _ rfl _ _ _ _ _ ?_
    exact ⟨rfl, rfl⟩
  have hno : ∀ ws : Unit, fstC w (nmc 2) 0 = (if w = 329 then some 0 else (if w = 344 then some 1 else (if w = 194 then some 2 else (if w = 209 then some 3 else (if w = 152 then some 4 else (if w = 383 then some 5 else (if w = 257 then some 6 else (if w = 1111 then some 7 else (if w = 423 then some 8 else (if w = 17919 then some 9 else (if w = 240373 then some 10 else (if w = 10631 then some 11 else (if w = 1065 then some 12 else (if w = 286880 then some 13 else (if w = 261327161 then some 14 else none))))))))))))))) := fun _ => rfl
  have k30 : w ≠ 329 → w ≠ 344 → w ≠ 194 → w ≠ 209 → w ≠ 152 → w ≠ 383 → w ≠ 257 → w ≠ 1111 → w ≠ 423 → w ≠ 17919 → w ≠ 240373 → w ≠ 10631 → w ≠ 1065 → w ≠ 286880 → At 30 [some (rf 57), some (.inl w)] [] υ 0 0 := fun n0 n1 n2 n3 n4 n5 n6 n7 n8 n9 n10 n11 n12 n13 => by
    have hL := hlt 18 5 19 21 12 20 (by decide)
    have eL : lt6 ((18 : Nat) : Int) ((5 : Nat) : Int) ((19 : Nat) : Int) ((21 : Nat) : Int) ((12 : Nat) : Int) ((20 : Nat) : Int) = 261327161 := by decide
    rw [eL] at hL
    refine hA 30 _ rfl _ _ _ _ _ ?_
    refine And.intro rfl (ab_inv_ev hL (by first | decide | omega) (by first | exact Nat.le_refl _ | omega) (by first | exact Nat.le_refl _ | omega) ?_)
    refine And.intro (And.intro (by first | assumption | exact b2i_R _ | exact rR (by omega) (by omega) | exact rR (by simp only [Int.toNat_natCast]; omega) (by simp only [Int.toNat_natCast]; omega)) (by first | assumption | exact b2i_R _ | exact rR (by omega) (by omega) | exact rR (by simp only [Int.toNat_natCast]; omega) (by simp only [Int.toNat_natCast]; omega))) (And.intro (fun q => ?_) (fun q => ?_))
    · refine hA 32 _ rfl _ _ _ _ _ ?_
      refine fin _ ?_
      rw [hno (), if_neg n0, if_neg n1, if_neg n2, if_neg n3, if_neg n4, if_neg n5, if_neg n6, if_neg n7, if_neg n8, if_neg n9, if_neg n10, if_neg n11, if_neg n12, if_neg n13, if_neg (by assumption)]
    · refine hA 31 _ rfl _ _ _ _ _ ?_
      refine fin _ ?_
      rw [hno (), if_neg n0, if_neg n1, if_neg n2, if_neg n3, if_neg n4, if_neg n5, if_neg n6, if_neg n7, if_neg n8, if_neg n9, if_neg n10, if_neg n11, if_neg n12, if_neg n13, if_pos (by assumption)]
      rfl
  have k28 : w ≠ 329 → w ≠ 344 → w ≠ 194 → w ≠ 209 → w ≠ 152 → w ≠ 383 → w ≠ 257 → w ≠ 1111 → w ≠ 423 → w ≠ 17919 → w ≠ 240373 → w ≠ 10631 → w ≠ 1065 → At 28 [some (rf 57), some (.inl w)] [] υ 0 0 := fun n0 n1 n2 n3 n4 n5 n6 n7 n8 n9 n10 n11 n12 => by
    have hL := hlt 14 15 14 5 0 0 (by decide)
    have eL : lt6 ((14 : Nat) : Int) ((15 : Nat) : Int) ((14 : Nat) : Int) ((5 : Nat) : Int) ((0 : Nat) : Int) ((0 : Nat) : Int) = 286880 := by decide
    rw [eL] at hL
    refine hA 28 _ rfl _ _ _ _ _ ?_
    refine And.intro rfl (ab_inv_ev hL (by first | decide | omega) (by first | exact Nat.le_refl _ | omega) (by first | exact Nat.le_refl _ | omega) ?_)
    refine And.intro (And.intro (by first | assumption | exact b2i_R _ | exact rR (by omega) (by omega) | exact rR (by simp only [Int.toNat_natCast]; omega) (by simp only [Int.toNat_natCast]; omega)) (by first | assumption | exact b2i_R _ | exact rR (by omega) (by omega) | exact rR (by simp only [Int.toNat_natCast]; omega) (by simp only [Int.toNat_natCast]; omega))) (And.intro (fun q => ?_) (fun q => ?_))
    · exact k30 n0 n1 n2 n3 n4 n5 n6 n7 n8 n9 n10 n11 n12 (by assumption)
    · refine hA 29 _ rfl _ _ _ _ _ ?_
      refine ⟨?_, rfl⟩
      rw [hno (), if_neg n0, if_neg n1, if_neg n2, if_neg n3, if_neg n4, if_neg n5, if_neg n6, if_neg n7, if_neg n8, if_neg n9, if_neg n10, if_neg n11, if_neg n12, if_pos (by assumption)]
      rfl
  have k26 : w ≠ 329 → w ≠ 344 → w ≠ 194 → w ≠ 209 → w ≠ 152 → w ≠ 383 → w ≠ 257 → w ≠ 1111 → w ≠ 423 → w ≠ 17919 → w ≠ 240373 → w ≠ 10631 → At 26 [some (rf 57), some (.inl w)] [] υ 0 0 := fun n0 n1 n2 n3 n4 n5 n6 n7 n8 n9 n10 n11 => by
    have hL := hlt 1 12 12 0 0 0 (by decide)
    have eL : lt6 ((1 : Nat) : Int) ((12 : Nat) : Int) ((12 : Nat) : Int) ((0 : Nat) : Int) ((0 : Nat) : Int) ((0 : Nat) : Int) = 1065 := by decide
    rw [eL] at hL
    refine hA 26 _ rfl _ _ _ _ _ ?_
    refine And.intro rfl (ab_inv_ev hL (by first | decide | omega) (by first | exact Nat.le_refl _ | omega) (by first | exact Nat.le_refl _ | omega) ?_)
    refine And.intro (And.intro (by first | assumption | exact b2i_R _ | exact rR (by omega) (by omega) | exact rR (by simp only [Int.toNat_natCast]; omega) (by simp only [Int.toNat_natCast]; omega)) (by first | assumption | exact b2i_R _ | exact rR (by omega) (by omega) | exact rR (by simp only [Int.toNat_natCast]; omega) (by simp only [Int.toNat_natCast]; omega))) (And.intro (fun q => ?_) (fun q => ?_))
    · exact k28 n0 n1 n2 n3 n4 n5 n6 n7 n8 n9 n10 n11 (by assumption)
    · refine hA 27 _ rfl _ _ _ _ _ ?_
      refine ⟨?_, rfl⟩
      rw [hno (), if_neg n0, if_neg n1, if_neg n2, if_neg n3, if_neg n4, if_neg n5, if_neg n6, if_neg n7, if_neg n8, if_neg n9, if_neg n10, if_neg n11, if_pos (by assumption)]
      rfl
  have k24 : w ≠ 329 → w ≠ 344 → w ≠ 194 → w ≠ 209 → w ≠ 152 → w ≠ 383 → w ≠ 257 → w ≠ 1111 → w ≠ 423 → w ≠ 17919 → w ≠ 240373 → At 24 [some (rf 57), some (.inl w)] [] υ 0 0 := fun n0 n1 n2 n3 n4 n5 n6 n7 n8 n9 n10 => by
    have hL := hlt 14 15 20 0 0 0 (by decide)
    have eL : lt6 ((14 : Nat) : Int) ((15 : Nat) : Int) ((20 : Nat) : Int) ((0 : Nat) : Int) ((0 : Nat) : Int) ((0 : Nat) : Int) = 10631 := by decide
    rw [eL] at hL
    refine hA 24 _ rfl _ _ _ _ _ ?_
    refine And.intro rfl (ab_inv_ev hL (by first | decide | omega) (by first | exact Nat.le_refl _ | omega) (by first | exact Nat.le_refl _ | omega) ?_)
    refine And.intro (And.intro (by first | assumption | exact b2i_R _ | exact rR (by omega) (by omega) | exact rR (by simp only [Int.toNat_natCast]; omega) (by simp only [Int.toNat_natCast]; omega)) (by first | assumption | exact b2i_R _ | exact rR (by omega) (by omega) | exact rR (by simp only [Int.toNat_natCast]; omega) (by simp only [Int.toNat_natCast]; omega))) (And.intro (fun q => ?_) (fun q => ?_))
    · exact k26 n0 n1 n2 n3 n4 n5 n6 n7 n8 n9 n10 (by assumption)
    · refine hA 25 _ rfl _ _ _ _ _ ?_
      refine ⟨?_, rfl⟩
      rw [hno (), if_neg n0, if_neg n1, if_neg n2, if_neg n3, if_neg n4, if_neg n5, if_neg n6, if_neg n7, if_neg n8, if_neg n9, if_neg n10, if_pos (by assumption)]
      rfl
  have k22 : w ≠ 329 → w ≠ 344 → w ≠ 194 → w ≠ 209 → w ≠ 152 → w ≠ 383 → w ≠ 257 → w ≠ 1111 → w ≠ 423 → w ≠ 17919 → At 22 [some (rf 57), some (.inl w)] [] υ 0 0 := fun n0 n1 n2 n3 n4 n5 n6 n7 n8 n9 => by
    have hL := hlt 12 5 19 19 0 0 (by decide)
    have eL : lt6 ((12 : Nat) : Int) ((5 : Nat) : Int) ((19 : Nat) : Int) ((19 : Nat) : Int) ((0 : Nat) : Int) ((0 : Nat) : Int) = 240373 := by decide
    rw [eL] at hL
    refine hA 22 _ rfl _ _ _ _ _ ?_
    refine And.intro rfl (ab_inv_ev hL (by first | decide | omega) (by first | exact Nat.le_refl _ | omega) (by first | exact Nat.le_refl _ | omega) ?_)
    refine And.intro (And.intro (by first | assumption | exact b2i_R _ | exact rR (by omega) (by omega) | exact rR (by simp only [Int.toNat_natCast]; omega) (by simp only [Int.toNat_natCast]; omega)) (by first | assumption | exact b2i_R _ | exact rR (by omega) (by omega) | exact rR (by simp only [Int.toNat_natCast]; omega) (by simp only [Int.toNat_natCast]; omega))) (And.intro (fun q => ?_) (fun q => ?_))
    · exact k24 n0 n1 n2 n3 n4 n5 n6 n7 n8 n9 (by assumption)
    · refine hA 23 _ rfl _ _ _ _ _ ?_
      refine ⟨?_, rfl⟩
      rw [hno (), if_neg n0, if_neg n1, if_neg n2, if_neg n3, if_neg n4, if_neg n5, if_neg n6, if_neg n7, if_neg n8, if_neg n9, if_pos (by assumption)]
      rfl
  have k20 : w ≠ 329 → w ≠ 344 → w ≠ 194 → w ≠ 209 → w ≠ 152 → w ≠ 383 → w ≠ 257 → w ≠ 1111 → w ≠ 423 → At 20 [some (rf 57), some (.inl w)] [] υ 0 0 := fun n0 n1 n2 n3 n4 n5 n6 n7 n8 => by
    have hL := hlt 24 15 18 0 0 0 (by decide)
    have eL : lt6 ((24 : Nat) : Int) ((15 : Nat) : Int) ((18 : Nat) : Int) ((0 : Nat) : Int) ((0 : Nat) : Int) ((0 : Nat) : Int) = 17919 := by decide
    rw [eL] at hL
    refine hA 20 _ rfl _ _ _ _ _ ?_
    refine And.intro rfl (ab_inv_ev hL (by first | decide | omega) (by first | exact Nat.le_refl _ | omega) (by first | exact Nat.le_refl _ | omega) ?_)
    refine And.intro (And.intro (by first | assumption | exact b2i_R _ | exact rR (by omega) (by omega) | exact rR (by simp only [Int.toNat_natCast]; omega) (by simp only [Int.toNat_natCast]; omega)) (by first | assumption | exact b2i_R _ | exact rR (by omega) (by omega) | exact rR (by simp only [Int.toNat_natCast]; omega) (by simp only [Int.toNat_natCast]; omega))) (And.intro (fun q => ?_) (fun q => ?_))
    · exact k22 n0 n1 n2 n3 n4 n5 n6 n7 n8 (by assumption)
    · refine hA 21 _ rfl _ _ _ _ _ ?_
      refine ⟨?_, rfl⟩
      rw [hno (), if_neg n0, if_neg n1, if_neg n2, if_neg n3, if_neg n4, if_neg n5, if_neg n6, if_neg n7, if_neg n8, if_pos (by assumption)]
      rfl
  have k18 : w ≠ 329 → w ≠ 344 → w ≠ 194 → w ≠ 209 → w ≠ 152 → w ≠ 383 → w ≠ 257 → w ≠ 1111 → At 18 [some (rf 57), some (.inl w)] [] υ 0 0 := fun n0 n1 n2 n3 n4 n5 n6 n7 => by
    have hL := hlt 15 18 0 0 0 0 (by decide)
    have eL : lt6 ((15 : Nat) : Int) ((18 : Nat) : Int) ((0 : Nat) : Int) ((0 : Nat) : Int) ((0 : Nat) : Int) ((0 : Nat) : Int) = 423 := by decide
    rw [eL] at hL
    refine hA 18 _ rfl _ _ _ _ _ ?_
    refine And.intro rfl (ab_inv_ev hL (by first | decide | omega) (by first | exact Nat.le_refl _ | omega) (by first | exact Nat.le_refl _ | omega) ?_)
    refine And.intro (And.intro (by first | assumption | exact b2i_R _ | exact rR (by omega) (by omega) | exact rR (by simp only [Int.toNat_natCast]; omega) (by simp only [Int.toNat_natCast]; omega)) (by first | assumption | exact b2i_R _ | exact rR (by omega) (by omega) | exact rR (by simp only [Int.toNat_natCast]; omega) (by simp only [Int.toNat_natCast]; omega))) (And.intro (fun q => ?_) (fun q => ?_))
    · exact k20 n0 n1 n2 n3 n4 n5 n6 n7 (by assumption)
    · refine hA 19 _ rfl _ _ _ _ _ ?_
      refine ⟨?_, rfl⟩
      rw [hno (), if_neg n0, if_neg n1, if_neg n2, if_neg n3, if_neg n4, if_neg n5, if_neg n6, if_neg n7, if_pos (by assumption)]
      rfl
  have k16 : w ≠ 329 → w ≠ 344 → w ≠ 194 → w ≠ 209 → w ≠ 152 → w ≠ 383 → w ≠ 257 → At 16 [some (rf 57), some (.inl w)] [] υ 0 0 := fun n0 n1 n2 n3 n4 n5 n6 => by
    have hL := hlt 1 14 4 0 0 0 (by decide)
    have eL : lt6 ((1 : Nat) : Int) ((14 : Nat) : Int) ((4 : Nat) : Int) ((0 : Nat) : Int) ((0 : Nat) : Int) ((0 : Nat) : Int) = 1111 := by decide
    rw [eL] at hL
    refine hA 16 _ rfl _ _ _ _ _ ?_
    refine And.intro rfl (ab_inv_ev hL (by first | decide | omega) (by first | exact Nat.le_refl _ | omega) (by first | exact Nat.le_refl _ | omega) ?_)
    refine And.intro (And.intro (by first | assumption | exact b2i_R _ | exact rR (by omega) (by omega) | exact rR (by simp only [Int.toNat_natCast]; omega) (by simp only [Int.toNat_natCast]; omega)) (by first | assumption | exact b2i_R _ | exact rR (by omega) (by omega) | exact rR (by simp only [Int.toNat_natCast]; omega) (by simp only [Int.toNat_natCast]; omega))) (And.intro (fun q => ?_) (fun q => ?_))
    · exact k18 n0 n1 n2 n3 n4 n5 n6 (by assumption)
    · refine hA 17 _ rfl _ _ _ _ _ ?_
      refine ⟨?_, rfl⟩
      rw [hno (), if_neg n0, if_neg n1, if_neg n2, if_neg n3, if_neg n4, if_neg n5, if_neg n6, if_pos (by assumption)]
      rfl
  have k14 : w ≠ 329 → w ≠ 344 → w ≠ 194 → w ≠ 209 → w ≠ 152 → w ≠ 383 → At 14 [some (rf 57), some (.inl w)] [] υ 0 0 := fun n0 n1 n2 n3 n4 n5 => by
    have hL := hlt 9 14 0 0 0 0 (by decide)
    have eL : lt6 ((9 : Nat) : Int) ((14 : Nat) : Int) ((0 : Nat) : Int) ((0 : Nat) : Int) ((0 : Nat) : Int) ((0 : Nat) : Int) = 257 := by decide
    rw [eL] at hL
    refine hA 14 _ rfl _ _ _ _ _ ?_
    refine And.intro rfl (ab_inv_ev hL (by first | decide | omega) (by first | exact Nat.le_refl _ | omega) (by first | exact Nat.le_refl _ | omega) ?_)
    refine And.intro (And.intro (by first | assumption | exact b2i_R _ | exact rR (by omega) (by omega) | exact rR (by simp only [Int.toNat_natCast]; omega) (by simp only [Int.toNat_natCast]; omega)) (by first | assumption | exact b2i_R _ | exact rR (by omega) (by omega) | exact rR (by simp only [Int.toNat_natCast]; omega) (by simp only [Int.toNat_natCast]; omega))) (And.intro (fun q => ?_) (fun q => ?_))
    · exact k16 n0 n1 n2 n3 n4 n5 (by assumption)
    · refine hA 15 _ rfl _ _ _ _ _ ?_
      refine ⟨?_, rfl⟩
      rw [hno (), if_neg n0, if_neg n1, if_neg n2, if_neg n3, if_neg n4, if_neg n5, if_pos (by assumption)]
      rfl
  have k12 : w ≠ 329 → w ≠ 344 → w ≠ 194 → w ≠ 209 → w ≠ 152 → At 12 [some (rf 57), some (.inl w)] [] υ 0 0 := fun n0 n1 n2 n3 n4 => by
    have hL := hlt 14 5 0 0 0 0 (by decide)
    have eL : lt6 ((14 : Nat) : Int) ((5 : Nat) : Int) ((0 : Nat) : Int) ((0 : Nat) : Int) ((0 : Nat) : Int) ((0 : Nat) : Int) = 383 := by decide
    rw [eL] at hL
    refine hA 12 _ rfl _ _ _ _ _ ?_
    refine And.intro rfl (ab_inv_ev hL (by first | decide | omega) (by first | exact Nat.le_refl _ | omega) (by first | exact Nat.le_refl _ | omega) ?_)
    refine And.intro (And.intro (by first | assumption | exact b2i_R _ | exact rR (by omega) (by omega) | exact rR (by simp only [Int.toNat_natCast]; omega) (by simp only [Int.toNat_natCast]; omega)) (by first | assumption | exact b2i_R _ | exact rR (by omega) (by omega) | exact rR (by simp only [Int.toNat_natCast]; omega) (by simp only [Int.toNat_natCast]; omega))) (And.intro (fun q => ?_) (fun q => ?_))
    · exact k14 n0 n1 n2 n3 n4 (by assumption)
    · refine hA 13 _ rfl _ _ _ _ _ ?_
      refine ⟨?_, rfl⟩
      rw [hno (), if_neg n0, if_neg n1, if_neg n2, if_neg n3, if_neg n4, if_pos (by assumption)]
      rfl
  have k10 : w ≠ 329 → w ≠ 344 → w ≠ 194 → w ≠ 209 → At 10 [some (rf 57), some (.inl w)] [] υ 0 0 := fun n0 n1 n2 n3 => by
    have hL := hlt 5 17 0 0 0 0 (by decide)
    have eL : lt6 ((5 : Nat) : Int) ((17 : Nat) : Int) ((0 : Nat) : Int) ((0 : Nat) : Int) ((0 : Nat) : Int) ((0 : Nat) : Int) = 152 := by decide
    rw [eL] at hL
    refine hA 10 _ rfl _ _ _ _ _ ?_
    refine And.intro rfl (ab_inv_ev hL (by first | decide | omega) (by first | exact Nat.le_refl _ | omega) (by first | exact Nat.le_refl _ | omega) ?_)
    refine And.intro (And.intro (by first | assumption | exact b2i_R _ | exact rR (by omega) (by omega) | exact rR (by simp only [Int.toNat_natCast]; omega) (by simp only [Int.toNat_natCast]; omega)) (by first | assumption | exact b2i_R _ | exact rR (by omega) (by omega) | exact rR (by simp only [Int.toNat_natCast]; omega) (by simp only [Int.toNat_natCast]; omega))) (And.intro (fun q => ?_) (fun q => ?_))
    · exact k12 n0 n1 n2 n3 (by assumption)
    · refine hA 11 _ rfl _ _ _ _ _ ?_
      refine ⟨?_, rfl⟩
      rw [hno (), if_neg n0, if_neg n1, if_neg n2, if_neg n3, if_pos (by assumption)]
      rfl
  have k8 : w ≠ 329 → w ≠ 344 → w ≠ 194 → At 8 [some (rf 57), some (.inl w)] [] υ 0 0 := fun n0 n1 n2 => by
    have hL := hlt 7 20 0 0 0 0 (by decide)
    have eL : lt6 ((7 : Nat) : Int) ((20 : Nat) : Int) ((0 : Nat) : Int) ((0 : Nat) : Int) ((0 : Nat) : Int) ((0 : Nat) : Int) = 209 := by decide
    rw [eL] at hL
    refine hA 8 _ rfl _ _ _ _ _ ?_
    refine And.intro rfl (ab_inv_ev hL (by first | decide | omega) (by first | exact Nat.le_refl _ | omega) (by first | exact Nat.le_refl _ | omega) ?_)
    refine And.intro (And.intro (by first | assumption | exact b2i_R _ | exact rR (by omega) (by omega) | exact rR (by simp only [Int.toNat_natCast]; omega) (by simp only [Int.toNat_natCast]; omega)) (by first | assumption | exact b2i_R _ | exact rR (by omega) (by omega) | exact rR (by simp only [Int.toNat_natCast]; omega) (by simp only [Int.toNat_natCast]; omega))) (And.intro (fun q => ?_) (fun q => ?_))
    · exact k10 n0 n1 n2 (by assumption)
    · refine hA 9 _ rfl _ _ _ _ _ ?_
      refine ⟨?_, rfl⟩
      rw [hno (), if_neg n0, if_neg n1, if_neg n2, if_pos (by assumption)]
      rfl
  have k6 : w ≠ 329 → w ≠ 344 → At 6 [some (rf 57), some (.inl w)] [] υ 0 0 := fun n0 n1 => by
    have hL := hlt 7 5 0 0 0 0 (by decide)
    have eL : lt6 ((7 : Nat) : Int) ((5 : Nat) : Int) ((0 : Nat) : Int) ((0 : Nat) : Int) ((0 : Nat) : Int) ((0 : Nat) : Int) = 194 := by decide
    rw [eL] at hL
    refine hA 6 _ rfl _ _ _ _ _ ?_
    refine And.intro rfl (ab_inv_ev hL (by first | decide | omega) (by first | exact Nat.le_refl _ | omega) (by first | exact Nat.le_refl _ | omega) ?_)
    refine And.intro (And.intro (by first | assumption | exact b2i_R _ | exact rR (by omega) (by omega) | exact rR (by simp only [Int.toNat_natCast]; omega) (by simp only [Int.toNat_natCast]; omega)) (by first | assumption | exact b2i_R _ | exact rR (by omega) (by omega) | exact rR (by simp only [Int.toNat_natCast]; omega) (by simp only [Int.toNat_natCast]; omega))) (And.intro (fun q => ?_) (fun q => ?_))
    · exact k8 n0 n1 (by assumption)
    · refine hA 7 _ rfl _ _ _ _ _ ?_
      refine ⟨?_, rfl⟩
      rw [hno (), if_neg n0, if_neg n1, if_pos (by assumption)]
      rfl
  have k4 : w ≠ 329 → At 4 [some (rf 57), some (.inl w)] [] υ 0 0 := fun n0 => by
    have hL := hlt 12 20 0 0 0 0 (by decide)
    have eL : lt6 ((12 : Nat) : Int) ((20 : Nat) : Int) ((0 : Nat) : Int) ((0 : Nat) : Int) ((0 : Nat) : Int) ((0 : Nat) : Int) = 344 := by decide
    rw [eL] at hL
    refine hA 4 _ rfl _ _ _ _ _ ?_
    refine And.intro rfl (ab_inv_ev hL (by first | decide | omega) (by first | exact Nat.le_refl _ | omega) (by first | exact Nat.le_refl _ | omega) ?_)
    refine And.intro (And.intro (by first | assumption | exact b2i_R _ | exact rR (by omega) (by omega) | exact rR (by simp only [Int.toNat_natCast]; omega) (by simp only [Int.toNat_natCast]; omega)) (by first | assumption | exact b2i_R _ | exact rR (by omega) (by omega) | exact rR (by simp only [Int.toNat_natCast]; omega) (by simp only [Int.toNat_natCast]; omega))) (And.intro (fun q => ?_) (fun q => ?_))
    · exact k6 n0 (by assumption)
    · refine hA 5 _ rfl _ _ _ _ _ ?_
      refine ⟨?_, rfl⟩
      rw [hno (), if_neg n0, if_pos (by assumption)]
      rfl
  have k2 : At 2 [some (rf 57), some (.inl w)] [] υ 0 0 := by
    have hL := hlt 12 5 0 0 0 0 (by decide)
    have eL : lt6 ((12 : Nat) : Int) ((5 : Nat) : Int) ((0 : Nat) : Int) ((0 : Nat) : Int) ((0 : Nat) : Int) ((0 : Nat) : Int) = 329 := by decide
    rw [eL] at hL
    refine hA 2 _ rfl _ _ _ _ _ ?_
    refine And.intro rfl (ab_inv_ev hL (by first | decide | omega) (by first | exact Nat.le_refl _ | omega) (by first | exact Nat.le_refl _ | omega) ?_)
    refine And.intro (And.intro (by first | assumption | exact b2i_R _ | exact rR (by omega) (by omega) | exact rR (by simp only [Int.toNat_natCast]; omega) (by simp only [Int.toNat_natCast]; omega)) (by first | assumption | exact b2i_R _ | exact rR (by omega) (by omega) | exact rR (by simp only [Int.toNat_natCast]; omega) (by simp only [Int.toNat_natCast]; omega))) (And.intro (fun q => ?_) (fun q => ?_))
    · exact k4  (by assumption)
    · refine hA 3 _ rfl _ _ _ _ _ ?_
      refine ⟨?_, rfl⟩
      rw [hno (), if_pos (by assumption)]
      rfl
  refine hA 0 _ rfl _ _ _ _ _ ?_
  refine Exists.intro _ (And.intro (by first | assumption | exact st_s | exact st_e (by decide) (by assumption) | exact st_e (by omega) (by assumption) | exact st_e (by decide) st_s | exact st_e (by omega) st_s | exact st_e (by decide) (st_e (by decide) (by assumption)) | exact st_e (by omega) (st_e (by omega) (by assumption))) (And.intro rfl (ab_inv_ev hwh (by first | decide | omega) (by first | exact Nat.le_refl _ | omega) (by first | exact Nat.le_refl _ | omega) ?_)))
  refine And.intro (And.intro (by first | assumption | exact b2i_R _ | exact rR (by omega) (by omega) | exact rR (by simp only [Int.toNat_natCast]; omega) (by simp only [Int.toNat_natCast]; omega)) (by first | assumption | exact b2i_R _ | exact rR (by omega) (by omega) | exact rR (by simp only [Int.toNat_natCast]; omega) (by simp only [Int.toNat_natCast]; omega))) (And.intro (fun q => ?_) (fun q => ?_))
  · exact k2
  · refine hA 1 _ rfl _ _ _ _ _ ?_
    have hw : w = -1 := by assumption
    refine ⟨?_, rfl⟩
    rw [hno (), hw]
    rfl
end Mword
