-- ===== the tape and the reading of texts =====
abbrev bya (f : Nat → Int) : ab_C := .inr (.inl (0, 400, f))
abbrev tpc (n len a st k w : Int) : ab_C := .inl (7, [rf 2, .inl n, .inl len, .inl a, .inl st, .inl k, .inl w])
/-- the byte at place k of a text of so many; -1 behind it -/
def byt (f : Nat → Int) (len k : Nat) : Int := if k < len then f k else -1
/-- on while p holds, n looked at -/
def rn (p : Nat → Bool) : Nat → Nat → Nat
  | i, 0 => i
  | i, n + 1 => if p i then rn p (i + 1) n else i
theorem rn_sp (p : Nat → Bool) : ∀ (n i : Nat), i ≤ rn p i n ∧ rn p i n ≤ i + n ∧ (∀ k, i ≤ k → k < rn p i n → p k = true) ∧ (rn p i n < i + n → p (rn p i n) = false) := by
  intro n
  induction n with
  | zero => intro i; exact ⟨Nat.le_refl _, Nat.le_refl _, fun k h1 h2 => by unfold rn at h2; omega, fun h => by unfold rn at h; omega⟩
  | succ n ih =>
    intro i
    unfold rn
    by_cases h : p i = true
    · rw [if_pos h]
      obtain ⟨a, b, c, d⟩ := ih (i + 1)
      refine ⟨by omega, by omega, fun k h1 h2 => ?_, fun h3 => d (by omega)⟩
      by_cases e : k = i
      · rw [e]; exact h
      · exact c k (by omega) h2
    · rw [if_neg h]
      exact ⟨Nat.le_refl _, by omega, fun k h1 h2 => by omega, fun _ => by simpa using h⟩
theorem rn_st {p : Nat → Bool} {i n : Nat} (h : p i = true) : rn p i (n + 1) = rn p (i + 1) n := by show (if p i then _ else _) = _; rw [if_pos h]
theorem rn_no {p : Nat → Bool} {i n : Nat} (h : p i = false) : rn p i n = i := by
  cases n with
  | zero => rfl
  | succ n => show (if p i then _ else _) = _; rw [h]; rfl
def skB (f : Nat → Int) (len a : Nat) : Nat := rn (fun k => byt f len k == 32) a (len - a)
def isD (c : Int) : Bool := decide (48 ≤ c) && decide (c ≤ 57)
def isL (c : Int) : Bool := decide (97 ≤ c) && decide (c ≤ 122)
def skD (f : Nat → Int) (len a : Nat) : Nat := rn (fun k => isD (byt f len k)) a (len - a)
def skL (f : Nat → Int) (len a : Nat) : Nat := rn (fun k => isL (byt f len k)) a (len - a)
theorem skB_sp (f : Nat → Int) (len a : Nat) (h : a ≤ len) : a ≤ skB f len a ∧ skB f len a ≤ len := by
  have := rn_sp (fun k => byt f len k == 32) (len - a) a
  unfold skB
  omega
theorem skD_sp (f : Nat → Int) (len a : Nat) (h : a ≤ len) : a ≤ skD f len a ∧ skD f len a ≤ len := by
  have := rn_sp (fun k => isD (byt f len k)) (len - a) a
  unfold skD
  omega
theorem skL_sp (f : Nat → Int) (len a : Nat) (h : a ≤ len) : a ≤ skL f len a ∧ skL f len a ≤ len := by
  have := rn_sp (fun k => isL (byt f len k)) (len - a) a
  unfold skL
  omega
theorem byt_lt {f : Nat → Int} {len k : Nat} (h : k < len) : byt f len k = f k := if_pos h
theorem byt_ge {f : Nat → Int} {len k : Nat} (h : len ≤ k) : byt f len k = -1 := if_neg (by omega)
abbrev byR (f : Nat → Int) : Prop := ∀ j, 0 ≤ f j ∧ f j < 256
section Tape
variable {σ : ab_H} {f : Nat → Int} {len a : Nat} {n st k w : Int}
set_option maxRecDepth 100000 in
set_option maxHeartbeats 1000000 in
theorem c_isSound (h1 : σ.2 1 = some (tpc n len a st k w)) (hk : ab_R k) : ab_ev 1 yX7_isSound [rf 1] σ (some (.inl (b2i (decide (k = 0))))) σ := by
  refine eX7_isSound rfl (fun At hA => ?_)
  have k3 : ∀ z : Int, z = b2i (decide (k = 0)) → At 3 [some (rf 1)] [.inl z] σ 0 0 := fun z hz => by
    subst hz
    refine hA 3 _ rfl _ _ _ _ _ ?_
    refine And.intro (by first | exact Or.inl rfl | exact Or.inr rfl | exact b2i_01 _) ?_
    exact ⟨rfl, rfl⟩
  refine hA 0 _ rfl _ _ _ _ _ ?_
  refine Exists.intro _ (And.intro (by first | assumption | exact st_s | exact st_e (by decide) (by assumption) | exact st_e (by omega) (by assumption) | exact st_e (by decide) st_s | exact st_e (by omega) st_s | exact st_e (by decide) (st_e (by decide) (by assumption)) | exact st_e (by omega) (st_e (by omega) (by assumption))) ?_)
  refine And.intro (by first | assumption | exact b2i_R _ | exact rR (by omega) (by omega) | exact rR (by simp only [Int.toNat_natCast]; omega) (by simp only [Int.toNat_natCast]; omega)) (And.intro (fun q => ?_) (fun q => ?_))
  · refine hA 2 _ rfl _ _ _ _ _ ?_
    exact k3 _ (by rw [decide_eq_false q]; rfl)
  · refine hA 1 _ rfl _ _ _ _ _ ?_
    exact k3 _ (by rw [decide_eq_true q]; rfl)
set_option maxRecDepth 100000 in
set_option maxHeartbeats 1000000 in
theorem c_fail (h1 : σ.2 1 = some (tpc n len a st k w)) (hk : ab_R k) (x y : Int) : ab_ev 1 yX7_fail [rf 1, .inl x, .inl y] σ none (ab_st σ 1 (tpc n len a st (if k = 0 then x else k) (if k = 0 then y else w))) := by
  refine eX7_fail rfl (fun At hA => ?_)
  refine hA 0 _ rfl _ _ _ _ _ ?_
  refine Exists.intro _ (And.intro (by first | assumption | exact st_s | exact st_e (by decide) (by assumption) | exact st_e (by omega) (by assumption) | exact st_e (by decide) st_s | exact st_e (by omega) st_s | exact st_e (by decide) (st_e (by decide) (by assumption)) | exact st_e (by omega) (st_e (by omega) (by assumption))) ?_)
  refine And.intro (by first | assumption | exact b2i_R _ | exact rR (by omega) (by omega) | exact rR (by simp only [Int.toNat_natCast]; omega) (by simp only [Int.toNat_natCast]; omega)) (And.intro (fun q => ?_) (fun q => ?_))
  · refine hA 2 _ rfl _ _ _ _ _ ?_
    rw [if_neg q, if_neg q, st_id h1]
    exact ⟨rfl, rfl⟩
  · refine hA 1 _ rfl _ _ _ _ _ ?_
    refine Exists.intro _ (And.intro (by first | assumption | exact st_s | exact st_e (by decide) (by assumption) | exact st_e (by omega) (by assumption) | exact st_e (by decide) st_s | exact st_e (by omega) st_s | exact st_e (by decide) (st_e (by decide) (by assumption)) | exact st_e (by omega) (st_e (by omega) (by assumption))) ?_)
    refine Exists.intro _ (And.intro (by first | assumption | exact st_s | exact st_e (by decide) (by assumption) | exact st_e (by omega) (by assumption) | exact st_e (by decide) st_s | exact st_e (by omega) st_s | exact st_e (by decide) (st_e (by decide) (by assumption)) | exact st_e (by omega) (st_e (by omega) (by assumption))) ?_)
    refine hA 2 _ rfl _ _ _ _ _ ?_
    rw [st_st, if_pos q, if_pos q]
    exact ⟨rfl, rfl⟩
set_option maxRecDepth 100000 in
set_option maxHeartbeats 1000000 in
theorem c_skipBlanks (h1 : σ.2 1 = some (tpc n len a st k w)) (h2 : σ.2 2 = some (bya f)) (hf : byR f) (hl : len ≤ 400) (ha : a ≤ len) : ab_ev 1 yX7_skipBlanks [rf 1] σ none (ab_st σ 1 (tpc n len (skB f len a) st k w)) := by
  refine eX7_skipBlanks rfl (fun At hA => ?_)
  have loop : ∀ m i : Nat, i + m = len → rn (fun k => byt f len k == 32) i m = skB f len a → At 0 [some (rf 1)] [] (ab_st σ 1 (tpc n len i st k w)) 0 0 := by
    intro m
    induction m with
    | zero =>
      intro i hi hr
      refine hA 0 _ rfl _ _ _ _ _ ?_
      refine Exists.intro _ (And.intro (by first | assumption | exact st_s | exact st_e (by decide) (by assumption) | exact st_e (by omega) (by assumption) | exact st_e (by decide) st_s | exact st_e (by omega) st_s | exact st_e (by decide) (st_e (by decide) (by assumption)) | exact st_e (by omega) (st_e (by omega) (by assumption))) ?_)
      refine Exists.intro _ (And.intro (by first | assumption | exact st_s | exact st_e (by decide) (by assumption) | exact st_e (by omega) (by assumption) | exact st_e (by decide) st_s | exact st_e (by omega) st_s | exact st_e (by decide) (st_e (by decide) (by assumption)) | exact st_e (by omega) (st_e (by omega) (by assumption))) ?_)
      refine And.intro (And.intro (by first | assumption | exact b2i_R _ | exact rR (by omega) (by omega) | exact rR (by simp only [Int.toNat_natCast]; omega) (by simp only [Int.toNat_natCast]; omega)) (by first | assumption | exact b2i_R _ | exact rR (by omega) (by omega) | exact rR (by simp only [Int.toNat_natCast]; omega) (by simp only [Int.toNat_natCast]; omega))) (And.intro (fun q => ?_) (fun q => ?_))
      · refine hA 3 _ rfl _ _ _ _ _ ?_
        exact ⟨rfl, by rw [← hr]; rfl⟩
      · omega
    | succ m ih =>
      intro i hi hr
      have hfi := hf i
      refine hA 0 _ rfl _ _ _ _ _ ?_
      refine Exists.intro _ (And.intro (by first | assumption | exact st_s | exact st_e (by decide) (by assumption) | exact st_e (by omega) (by assumption) | exact st_e (by decide) st_s | exact st_e (by omega) st_s | exact st_e (by decide) (st_e (by decide) (by assumption)) | exact st_e (by omega) (st_e (by omega) (by assumption))) ?_)
      refine Exists.intro _ (And.intro (by first | assumption | exact st_s | exact st_e (by decide) (by assumption) | exact st_e (by omega) (by assumption) | exact st_e (by decide) st_s | exact st_e (by omega) st_s | exact st_e (by decide) (st_e (by decide) (by assumption)) | exact st_e (by omega) (st_e (by omega) (by assumption))) ?_)
      refine And.intro (And.intro (by first | assumption | exact b2i_R _ | exact rR (by omega) (by omega) | exact rR (by simp only [Int.toNat_natCast]; omega) (by simp only [Int.toNat_natCast]; omega)) (by first | assumption | exact b2i_R _ | exact rR (by omega) (by omega) | exact rR (by simp only [Int.toNat_natCast]; omega) (by simp only [Int.toNat_natCast]; omega))) (And.intro (fun q => ?_) (fun q => ?_))
      · omega
      · refine hA 1 _ rfl _ _ _ _ _ ?_
        refine Exists.intro _ (And.intro (by first | assumption | exact st_s | exact st_e (by decide) (by assumption) | exact st_e (by omega) (by assumption) | exact st_e (by decide) st_s | exact st_e (by omega) st_s | exact st_e (by decide) (st_e (by decide) (by assumption)) | exact st_e (by omega) (st_e (by omega) (by assumption))) ?_)
        refine Exists.intro _ (And.intro (by first | assumption | exact st_s | exact st_e (by decide) (by assumption) | exact st_e (by omega) (by assumption) | exact st_e (by decide) st_s | exact st_e (by omega) st_s | exact st_e (by decide) (st_e (by decide) (by assumption)) | exact st_e (by omega) (st_e (by omega) (by assumption))) ?_)
        refine Exists.intro _ (Exists.intro _ (And.intro (by first | assumption | exact st_s | exact st_e (by decide) (by assumption) | exact st_e (by omega) (by assumption) | exact st_e (by decide) st_s | exact st_e (by omega) st_s | exact st_e (by decide) (st_e (by decide) (by assumption)) | exact st_e (by omega) (st_e (by omega) (by assumption))) (And.intro (by omega) ?_)))
        refine And.intro (And.intro (by first | assumption | exact b2i_R _ | exact rR (by omega) (by omega) | exact rR (by simp only [Int.toNat_natCast]; omega) (by simp only [Int.toNat_natCast]; omega)) (by first | assumption | exact b2i_R _ | exact rR (by omega) (by omega) | exact rR (by simp only [Int.toNat_natCast]; omega) (by simp only [Int.toNat_natCast]; omega))) (And.intro (fun q => ?_) (fun q => ?_))
        · refine hA 3 _ rfl _ _ _ _ _ ?_
          refine ⟨rfl, ?_⟩
          rw [← hr, rn_no]
          show (byt f len i == 32) = false
          rw [byt_lt (by omega)]
          exact beq_eq_false_iff_ne.mpr q
        · refine hA 2 _ rfl _ _ _ _ _ ?_
          refine Exists.intro _ (And.intro (by first | assumption | exact st_s | exact st_e (by decide) (by assumption) | exact st_e (by omega) (by assumption) | exact st_e (by decide) st_s | exact st_e (by omega) st_s | exact st_e (by decide) (st_e (by decide) (by assumption)) | exact st_e (by omega) (st_e (by omega) (by assumption))) ?_)
          refine Exists.intro _ (And.intro (by first | assumption | exact st_s | exact st_e (by decide) (by assumption) | exact st_e (by omega) (by assumption) | exact st_e (by decide) st_s | exact st_e (by omega) st_s | exact st_e (by decide) (st_e (by decide) (by assumption)) | exact st_e (by omega) (st_e (by omega) (by assumption))) ?_)
          rw [st_st]
          refine ih (i + 1) (by omega) ?_
          rw [← hr, rn_st]
          show (byt f len i == 32) = true
          rw [byt_lt (by omega)]
          exact beq_iff_eq.mpr q
  have := loop (len - a) a (by omega) rfl
  rw [st_id h1] at this
  exact this
theorem byt_R {f : Nat → Int} (hf : byR f) (len k : Nat) : -1 ≤ byt f len k ∧ byt f len k < 256 := by
  unfold byt
  have := hf k
  split <;> omega
set_option maxRecDepth 100000 in
set_option maxHeartbeats 1000000 in
theorem c_isNext (h1 : σ.2 1 = some (tpc n len a st k w)) (h2 : σ.2 2 = some (bya f)) (hf : byR f) (hl : len ≤ 400) (ha : a ≤ len) (x : Nat) (hx : x < 256) : ab_ev 2 yX7_isNext [rf 1, .inl x] σ (some (.inl (b2i (byt f len (skB f len a) == (x : Int))))) (ab_st σ 1 (tpc n len (skB f len a) st k w)) := by
  have hs := skB_sp f len a ha
  have hfb := hf (skB f len a)
  generalize hr : (byt f len (skB f len a) == (x : Int)) = r
  refine eX7_isNext rfl (fun At hA => ?_)
  have k4 : ∀ z : Int, z = b2i r → At 4 [some (rf 1), some (.inl x)] [.inl z] (ab_st σ 1 (tpc n len (skB f len a) st k w)) 0 0 := fun z hz => by
    subst hz
    refine hA 4 _ rfl _ _ _ _ _ ?_
    refine And.intro (by first | exact Or.inl rfl | exact Or.inr rfl | exact b2i_01 _) ?_
    exact ⟨rfl, rfl⟩
  have k3 : r = false → At 3 [some (rf 1), some (.inl x)] [] (ab_st σ 1 (tpc n len (skB f len a) st k w)) 0 0 := fun h => by
    subst h
    refine hA 3 _ rfl _ _ _ _ _ ?_
    exact k4 _ rfl
  refine hA 0 _ rfl _ _ _ _ _ ?_
  refine Exists.intro _ (And.intro (by first | assumption | exact st_s | exact st_e (by decide) (by assumption) | exact st_e (by omega) (by assumption) | exact st_e (by decide) st_s | exact st_e (by omega) st_s | exact st_e (by decide) (st_e (by decide) (by assumption)) | exact st_e (by omega) (st_e (by omega) (by assumption))) (And.intro rfl (ab_inv_ev (c_skipBlanks h1 h2 hf hl ha) (by decide) (Nat.le_refl _) (Nat.le_refl _) ?_)))
  refine Exists.intro _ (And.intro (by first | assumption | exact st_s | exact st_e (by decide) (by assumption) | exact st_e (by omega) (by assumption) | exact st_e (by decide) st_s | exact st_e (by omega) st_s | exact st_e (by decide) (st_e (by decide) (by assumption)) | exact st_e (by omega) (st_e (by omega) (by assumption))) ?_)
  refine Exists.intro _ (And.intro (by first | assumption | exact st_s | exact st_e (by decide) (by assumption) | exact st_e (by omega) (by assumption) | exact st_e (by decide) st_s | exact st_e (by omega) st_s | exact st_e (by decide) (st_e (by decide) (by assumption)) | exact st_e (by omega) (st_e (by omega) (by assumption))) ?_)
  refine And.intro (And.intro (by first | assumption | exact b2i_R _ | exact rR (by omega) (by omega) | exact rR (by simp only [Int.toNat_natCast]; omega) (by simp only [Int.toNat_natCast]; omega)) (by first | assumption | exact b2i_R _ | exact rR (by omega) (by omega) | exact rR (by simp only [Int.toNat_natCast]; omega) (by simp only [Int.toNat_natCast]; omega))) (And.intro (fun q => ?_) (fun q => ?_))
  · exact k3 (by rw [← hr, byt_ge (by omega)]; exact beq_eq_false_iff_ne.mpr (by omega))
  · refine hA 1 _ rfl _ _ _ _ _ ?_
    refine Exists.intro _ (And.intro (by first | assumption | exact st_s | exact st_e (by decide) (by assumption) | exact st_e (by omega) (by assumption) | exact st_e (by decide) st_s | exact st_e (by omega) st_s | exact st_e (by decide) (st_e (by decide) (by assumption)) | exact st_e (by omega) (st_e (by omega) (by assumption))) ?_)
    refine Exists.intro _ (And.intro (by first | assumption | exact st_s | exact st_e (by decide) (by assumption) | exact st_e (by omega) (by assumption) | exact st_e (by decide) st_s | exact st_e (by omega) st_s | exact st_e (by decide) (st_e (by decide) (by assumption)) | exact st_e (by omega) (st_e (by omega) (by assumption))) ?_)
    refine Exists.intro _ (Exists.intro _ (And.intro (by first | assumption | exact st_s | exact st_e (by decide) (by assumption) | exact st_e (by omega) (by assumption) | exact st_e (by decide) st_s | exact st_e (by omega) st_s | exact st_e (by decide) (st_e (by decide) (by assumption)) | exact st_e (by omega) (st_e (by omega) (by assumption))) (And.intro (by omega) ?_)))
    refine And.intro (And.intro (by first | assumption | exact b2i_R _ | exact rR (by omega) (by omega) | exact rR (by simp only [Int.toNat_natCast]; omega) (by simp only [Int.toNat_natCast]; omega)) (by first | assumption | exact b2i_R _ | exact rR (by omega) (by omega) | exact rR (by simp only [Int.toNat_natCast]; omega) (by simp only [Int.toNat_natCast]; omega))) (And.intro (fun q => ?_) (fun q => ?_))
    · exact k3 (by rw [← hr, byt_lt (by omega)]; exact beq_eq_false_iff_ne.mpr q)
    · refine hA 2 _ rfl _ _ _ _ _ ?_
      exact k4 _ (by rw [← hr, byt_lt (by omega), show f (skB f len a) = (x : Int) from q, beq_self_eq_true]; rfl)
set_option maxRecDepth 100000 in
set_option maxHeartbeats 1000000 in
theorem c_need0 (h1 : σ.2 1 = some (tpc n len a st k w)) (hk : ab_R k) (hk0 : k ≠ 0) (x : Int) : ab_ev 3 yX7_need [rf 1, .inl x] σ none σ := by
  refine eX7_need rfl (fun At hA => ?_)
  refine hA 0 _ rfl _ _ _ _ _ ?_
  refine Exists.intro _ (And.intro (by first | assumption | exact st_s | exact st_e (by decide) (by assumption) | exact st_e (by omega) (by assumption) | exact st_e (by decide) st_s | exact st_e (by omega) st_s | exact st_e (by decide) (st_e (by decide) (by assumption)) | exact st_e (by omega) (st_e (by omega) (by assumption))) (And.intro rfl (ab_inv_ev (c_isSound h1 hk) (by decide) (Nat.le_refl _) (Nat.le_refl _) ?_)))
  refine And.intro (by first | assumption | exact b2i_R _ | exact rR (by omega) (by omega) | exact rR (by simp only [Int.toNat_natCast]; omega) (by simp only [Int.toNat_natCast]; omega)) (And.intro (fun q => ?_) (fun q => ?_))
  · exact absurd (show b2i (decide (k = 0)) = 0 by rw [decide_eq_false hk0]; rfl) q
  · refine hA 1 _ rfl _ _ _ _ _ ?_
    exact ⟨rfl, rfl⟩
/-- what comes of the reading of a sign: where it goes on, or the fault -/
def signP (f : Nat → Int) (len a x : Nat) : (Int × Int) ⊕ Nat := if byt f len (skB f len a) == (x : Int) then .inr (skB f len a + 1) else .inl (1, (skB f len a : Nat))
set_option maxRecDepth 100000 in
set_option maxHeartbeats 1000000 in
theorem c_need (h1 : σ.2 1 = some (tpc n len a st 0 w)) (h2 : σ.2 2 = some (bya f)) (hf : byR f) (hl : len ≤ 400) (ha : a ≤ len) (x : Nat) (hx : x < 256) : ab_ev 3 yX7_need [rf 1, .inl x] σ none (ab_st σ 1 (match signP f len a x with
    | .inr q => tpc n len q st 0 w
    | .inl (u, v) => tpc n len (skB f len a) st u v)) := by
  have hs := skB_sp f len a ha
  refine eX7_need rfl (fun At hA => ?_)
  refine hA 0 _ rfl _ _ _ _ _ ?_
  refine Exists.intro _ (And.intro (by first | assumption | exact st_s | exact st_e (by decide) (by assumption) | exact st_e (by omega) (by assumption) | exact st_e (by decide) st_s | exact st_e (by omega) st_s | exact st_e (by decide) (st_e (by decide) (by assumption)) | exact st_e (by omega) (st_e (by omega) (by assumption))) (And.intro rfl (ab_inv_ev (c_isSound h1 (rR (by omega) (by omega))) (by decide) (Nat.le_refl _) (Nat.le_refl _) ?_)))
  refine And.intro (by first | assumption | exact b2i_R _ | exact rR (by omega) (by omega) | exact rR (by simp only [Int.toNat_natCast]; omega) (by simp only [Int.toNat_natCast]; omega)) (And.intro (fun q => ?_) (fun q => ?_))
  · refine hA 2 _ rfl _ _ _ _ _ ?_
    refine Exists.intro _ (And.intro (by first | assumption | exact st_s | exact st_e (by decide) (by assumption) | exact st_e (by omega) (by assumption) | exact st_e (by decide) st_s | exact st_e (by omega) st_s | exact st_e (by decide) (st_e (by decide) (by assumption)) | exact st_e (by omega) (st_e (by omega) (by assumption))) (And.intro rfl (ab_inv_ev (c_isNext h1 h2 hf hl ha x hx) (by decide) (Nat.le_refl _) (Nat.le_refl _) ?_)))
    refine And.intro (by first | assumption | exact b2i_R _ | exact rR (by omega) (by omega) | exact rR (by simp only [Int.toNat_natCast]; omega) (by simp only [Int.toNat_natCast]; omega)) (And.intro (fun q => ?_) (fun q => ?_))
    · have hP : signP f len a x = .inl (1, (skB f len a : Nat)) := by
        unfold signP
        rw [b2i_0 q]
        rfl
      refine hA 4 _ rfl _ _ _ _ _ ?_
      refine Exists.intro _ (And.intro (by first | assumption | exact st_s | exact st_e (by decide) (by assumption) | exact st_e (by omega) (by assumption) | exact st_e (by decide) st_s | exact st_e (by omega) st_s | exact st_e (by decide) (st_e (by decide) (by assumption)) | exact st_e (by omega) (st_e (by omega) (by assumption))) ?_)
      refine Exists.intro _ (And.intro (by first | assumption | exact st_s | exact st_e (by decide) (by assumption) | exact st_e (by omega) (by assumption) | exact st_e (by decide) st_s | exact st_e (by omega) st_s | exact st_e (by decide) (st_e (by decide) (by assumption)) | exact st_e (by omega) (st_e (by omega) (by assumption))) (And.intro rfl (ab_inv_ev (c_fail st_s (rR (by omega) (by omega)) 1 (skB f len a)) (by decide) (Nat.le_refl _) (Nat.le_refl _) ?_)))
      rw [st_st]
      refine hA 5 _ rfl _ _ _ _ _ ?_
      rw [hP]
      exact ⟨rfl, rfl⟩
    · have hP : signP f len a x = .inr (skB f len a + 1) := by
        unfold signP
        rw [b2i_1 q]
        rfl
      refine hA 3 _ rfl _ _ _ _ _ ?_
      refine Exists.intro _ (And.intro (by first | assumption | exact st_s | exact st_e (by decide) (by assumption) | exact st_e (by omega) (by assumption) | exact st_e (by decide) st_s | exact st_e (by omega) st_s | exact st_e (by decide) (st_e (by decide) (by assumption)) | exact st_e (by omega) (st_e (by omega) (by assumption))) ?_)
      refine Exists.intro _ (And.intro (by first | assumption | exact st_s | exact st_e (by decide) (by assumption) | exact st_e (by omega) (by assumption) | exact st_e (by decide) st_s | exact st_e (by omega) st_s | exact st_e (by decide) (st_e (by decide) (by assumption)) | exact st_e (by omega) (st_e (by omega) (by assumption))) ?_)
      rw [st_st]
      refine hA 5 _ rfl _ _ _ _ _ ?_
      rw [hP]
      exact ⟨rfl, rfl⟩
  · exact absurd q (by decide)
set_option maxRecDepth 100000 in
set_option maxHeartbeats 1000000 in
theorem c_needEnd (h1 : σ.2 1 = some (tpc n len a st k w)) (h2 : σ.2 2 = some (bya f)) (hf : byR f) (hl : len ≤ 400) (ha : a ≤ len) (hk : ab_R k) : ab_ev 2 yX7_needEnd [rf 1] σ none (ab_st σ 1 (tpc n len (skB f len a) st (if skB f len a < len ∧ k = 0 then 1 else k) (if skB f len a < len ∧ k = 0 then (skB f len a : Nat) else w))) := by
  have hs := skB_sp f len a ha
  refine eX7_needEnd rfl (fun At hA => ?_)
  refine hA 0 _ rfl _ _ _ _ _ ?_
  refine Exists.intro _ (And.intro (by first | assumption | exact st_s | exact st_e (by decide) (by assumption) | exact st_e (by omega) (by assumption) | exact st_e (by decide) st_s | exact st_e (by omega) st_s | exact st_e (by decide) (st_e (by decide) (by assumption)) | exact st_e (by omega) (st_e (by omega) (by assumption))) (And.intro rfl (ab_inv_ev (c_skipBlanks h1 h2 hf hl ha) (by decide) (Nat.le_refl _) (Nat.le_refl _) ?_)))
  refine Exists.intro _ (And.intro (by first | assumption | exact st_s | exact st_e (by decide) (by assumption) | exact st_e (by omega) (by assumption) | exact st_e (by decide) st_s | exact st_e (by omega) st_s | exact st_e (by decide) (st_e (by decide) (by assumption)) | exact st_e (by omega) (st_e (by omega) (by assumption))) ?_)
  refine Exists.intro _ (And.intro (by first | assumption | exact st_s | exact st_e (by decide) (by assumption) | exact st_e (by omega) (by assumption) | exact st_e (by decide) st_s | exact st_e (by omega) st_s | exact st_e (by decide) (st_e (by decide) (by assumption)) | exact st_e (by omega) (st_e (by omega) (by assumption))) ?_)
  refine And.intro (And.intro (by first | assumption | exact b2i_R _ | exact rR (by omega) (by omega) | exact rR (by simp only [Int.toNat_natCast]; omega) (by simp only [Int.toNat_natCast]; omega)) (by first | assumption | exact b2i_R _ | exact rR (by omega) (by omega) | exact rR (by simp only [Int.toNat_natCast]; omega) (by simp only [Int.toNat_natCast]; omega))) (And.intro (fun q => ?_) (fun q => ?_))
  · refine hA 2 _ rfl _ _ _ _ _ ?_
    rw [if_neg (by omega), if_neg (by omega)]
    exact ⟨rfl, rfl⟩
  · refine hA 1 _ rfl _ _ _ _ _ ?_
    refine Exists.intro _ (And.intro (by first | assumption | exact st_s | exact st_e (by decide) (by assumption) | exact st_e (by omega) (by assumption) | exact st_e (by decide) st_s | exact st_e (by omega) st_s | exact st_e (by decide) (st_e (by decide) (by assumption)) | exact st_e (by omega) (st_e (by omega) (by assumption))) ?_)
    refine Exists.intro _ (And.intro (by first | assumption | exact st_s | exact st_e (by decide) (by assumption) | exact st_e (by omega) (by assumption) | exact st_e (by decide) st_s | exact st_e (by omega) st_s | exact st_e (by decide) (st_e (by decide) (by assumption)) | exact st_e (by omega) (st_e (by omega) (by assumption))) (And.intro rfl (ab_inv_ev (c_fail st_s hk 1 (skB f len a)) (by decide) (Nat.le_refl _) (Nat.le_refl _) ?_)))
    rw [st_st]
    refine hA 2 _ rfl _ _ _ _ _ ?_
    have q2 : skB f len a < len := by omega
    refine ⟨rfl, ?_⟩
    by_cases e : k = 0
    · rw [if_pos e, if_pos e, if_pos ⟨q2, e⟩, if_pos ⟨q2, e⟩]
    · rw [if_neg e, if_neg e, if_neg (fun h => e h.2), if_neg (fun h => e h.2)]
set_option maxRecDepth 100000 in
set_option maxHeartbeats 1000000 in
theorem c_isDigitNext (h1 : σ.2 1 = some (tpc n len a st k w)) (h2 : σ.2 2 = some (bya f)) (hf : byR f) (hl : len ≤ 400) (ha : a ≤ len) : ab_ev 2 yX7_isDigitNext [rf 1] σ (some (.inl (b2i (isD (byt f len (skB f len a)))))) (ab_st σ 1 (tpc n len (skB f len a) st k w)) := by
  have hs := skB_sp f len a ha
  have hfb := hf (skB f len a)
  generalize hr : isD (byt f len (skB f len a)) = r
  unfold isD at hr
  refine eX7_isDigitNext rfl (fun At hA => ?_)
  have k5 : ∀ z : Int, z = b2i r → At 5 [some (rf 1)] [.inl z] (ab_st σ 1 (tpc n len (skB f len a) st k w)) 0 0 := fun z hz => by
    subst hz
    refine hA 5 _ rfl _ _ _ _ _ ?_
    refine And.intro (by first | exact Or.inl rfl | exact Or.inr rfl | exact b2i_01 _) ?_
    exact ⟨rfl, rfl⟩
  have k4 : r = false → At 4 [some (rf 1)] [] (ab_st σ 1 (tpc n len (skB f len a) st k w)) 0 0 := fun h => by
    subst h
    refine hA 4 _ rfl _ _ _ _ _ ?_
    exact k5 _ rfl
  refine hA 0 _ rfl _ _ _ _ _ ?_
  refine Exists.intro _ (And.intro (by first | assumption | exact st_s | exact st_e (by decide) (by assumption) | exact st_e (by omega) (by assumption) | exact st_e (by decide) st_s | exact st_e (by omega) st_s | exact st_e (by decide) (st_e (by decide) (by assumption)) | exact st_e (by omega) (st_e (by omega) (by assumption))) (And.intro rfl (ab_inv_ev (c_skipBlanks h1 h2 hf hl ha) (by decide) (Nat.le_refl _) (Nat.le_refl _) ?_)))
  refine Exists.intro _ (And.intro (by first | assumption | exact st_s | exact st_e (by decide) (by assumption) | exact st_e (by omega) (by assumption) | exact st_e (by decide) st_s | exact st_e (by omega) st_s | exact st_e (by decide) (st_e (by decide) (by assumption)) | exact st_e (by omega) (st_e (by omega) (by assumption))) ?_)
  refine Exists.intro _ (And.intro (by first | assumption | exact st_s | exact st_e (by decide) (by assumption) | exact st_e (by omega) (by assumption) | exact st_e (by decide) st_s | exact st_e (by omega) st_s | exact st_e (by decide) (st_e (by decide) (by assumption)) | exact st_e (by omega) (st_e (by omega) (by assumption))) ?_)
  refine And.intro (And.intro (by first | assumption | exact b2i_R _ | exact rR (by omega) (by omega) | exact rR (by simp only [Int.toNat_natCast]; omega) (by simp only [Int.toNat_natCast]; omega)) (by first | assumption | exact b2i_R _ | exact rR (by omega) (by omega) | exact rR (by simp only [Int.toNat_natCast]; omega) (by simp only [Int.toNat_natCast]; omega))) (And.intro (fun q => ?_) (fun q => ?_))
  · exact k4 (by rw [← hr, byt_ge (by omega)]; rfl)
  · refine hA 1 _ rfl _ _ _ _ _ ?_
    refine Exists.intro _ (And.intro (by first | assumption | exact st_s | exact st_e (by decide) (by assumption) | exact st_e (by omega) (by assumption) | exact st_e (by decide) st_s | exact st_e (by omega) st_s | exact st_e (by decide) (st_e (by decide) (by assumption)) | exact st_e (by omega) (st_e (by omega) (by assumption))) ?_)
    refine Exists.intro _ (And.intro (by first | assumption | exact st_s | exact st_e (by decide) (by assumption) | exact st_e (by omega) (by assumption) | exact st_e (by decide) st_s | exact st_e (by omega) st_s | exact st_e (by decide) (st_e (by decide) (by assumption)) | exact st_e (by omega) (st_e (by omega) (by assumption))) ?_)
    refine Exists.intro _ (Exists.intro _ (And.intro (by first | assumption | exact st_s | exact st_e (by decide) (by assumption) | exact st_e (by omega) (by assumption) | exact st_e (by decide) st_s | exact st_e (by omega) st_s | exact st_e (by decide) (st_e (by decide) (by assumption)) | exact st_e (by omega) (st_e (by omega) (by assumption))) (And.intro (by omega) ?_)))
    refine And.intro (And.intro (by first | assumption | exact b2i_R _ | exact rR (by omega) (by omega) | exact rR (by simp only [Int.toNat_natCast]; omega) (by simp only [Int.toNat_natCast]; omega)) (by first | assumption | exact b2i_R _ | exact rR (by omega) (by omega) | exact rR (by simp only [Int.toNat_natCast]; omega) (by simp only [Int.toNat_natCast]; omega))) (And.intro (fun q => ?_) (fun q => ?_))
    · exact k4 (by rw [← hr, byt_lt (by omega), decide_eq_false (show ¬ 48 ≤ f (skB f len a) from Int.not_le.mpr q)]; rfl)
    · refine hA 2 _ rfl _ _ _ _ _ ?_
      refine Exists.intro _ (And.intro (by first | assumption | exact st_s | exact st_e (by decide) (by assumption) | exact st_e (by omega) (by assumption) | exact st_e (by decide) st_s | exact st_e (by omega) st_s | exact st_e (by decide) (st_e (by decide) (by assumption)) | exact st_e (by omega) (st_e (by omega) (by assumption))) ?_)
      refine Exists.intro _ (And.intro (by first | assumption | exact st_s | exact st_e (by decide) (by assumption) | exact st_e (by omega) (by assumption) | exact st_e (by decide) st_s | exact st_e (by omega) st_s | exact st_e (by decide) (st_e (by decide) (by assumption)) | exact st_e (by omega) (st_e (by omega) (by assumption))) ?_)
      refine Exists.intro _ (Exists.intro _ (And.intro (by first | assumption | exact st_s | exact st_e (by decide) (by assumption) | exact st_e (by omega) (by assumption) | exact st_e (by decide) st_s | exact st_e (by omega) st_s | exact st_e (by decide) (st_e (by decide) (by assumption)) | exact st_e (by omega) (st_e (by omega) (by assumption))) (And.intro (by omega) ?_)))
      refine And.intro (And.intro (by first | assumption | exact b2i_R _ | exact rR (by omega) (by omega) | exact rR (by simp only [Int.toNat_natCast]; omega) (by simp only [Int.toNat_natCast]; omega)) (by first | assumption | exact b2i_R _ | exact rR (by omega) (by omega) | exact rR (by simp only [Int.toNat_natCast]; omega) (by simp only [Int.toNat_natCast]; omega))) (And.intro (fun q => ?_) (fun q => ?_))
      · exact k4 (by rw [← hr, byt_lt (by omega), decide_eq_false (show ¬ f (skB f len a) ≤ 57 from Int.not_le.mpr q), Bool.and_false])
      · refine hA 3 _ rfl _ _ _ _ _ ?_
        exact k5 _ (by rw [← hr, byt_lt (by omega), decide_eq_true (show 48 ≤ f (skB f len a) by assumption), decide_eq_true (show f (skB f len a) ≤ 57 by assumption)]; rfl)
/-- the number that m digits from i on tell behind v; above the cap: the cap -/
def nvl (c : Int) (f : Nat → Int) : Nat → Nat → Int → Int
  | _, 0, v => v
  | i, m + 1, v => nvl c f (i + 1) m (min (v * 10 + f i - 48) c)
/-- the reading of a number: (kind, place) of the fault, or (the number, where it goes on) -/
def numP (f : Nat → Int) (len a : Nat) (lo hi : Int) : (Int × Int) ⊕ (Int × Nat) :=
  let b := skB f len a
  if isD (byt f len b) then
    let v := nvl 1000 f b (skD f len b - b) 0
    if v < lo ∨ hi < v then .inl (2, (b : Nat)) else .inr (v, skD f len b)
  else .inl (1, (b : Nat))
set_option maxRecDepth 100000 in
set_option maxHeartbeats 1000000 in
theorem c_readNumber0 (h1 : σ.2 1 = some (tpc n len a st k w)) (hk : ab_R k) (hk0 : k ≠ 0) (x y : Int) : ab_ev 3 yX7_readNumber [rf 1, .inl x, .inl y] σ (some (.inl (-1))) σ := by
  refine eX7_readNumber rfl (fun At hA => ?_)
  refine hA 0 _ rfl _ _ _ _ _ ?_
  refine Exists.intro _ (And.intro (by first | assumption | exact st_s | exact st_e (by decide) (by assumption) | exact st_e (by omega) (by assumption) | exact st_e (by decide) st_s | exact st_e (by omega) st_s | exact st_e (by decide) (st_e (by decide) (by assumption)) | exact st_e (by omega) (st_e (by omega) (by assumption))) (And.intro rfl (ab_inv_ev (c_isSound h1 hk) (by decide) (Nat.le_refl _) (Nat.le_refl _) ?_)))
  refine And.intro (by first | assumption | exact b2i_R _ | exact rR (by omega) (by omega) | exact rR (by simp only [Int.toNat_natCast]; omega) (by simp only [Int.toNat_natCast]; omega)) (And.intro (fun q => ?_) (fun q => ?_))
  · exact absurd (show b2i (decide (k = 0)) = 0 by rw [decide_eq_false hk0]; rfl) q
  · refine hA 1 _ rfl _ _ _ _ _ ?_
    exact ⟨rfl, rfl⟩
/-- how a reading of a number ends: what it answers, the tape -/
def numQ (σ : ab_H) (n : Int) (len : Nat) (w : Int) (P : (Int × Int) ⊕ (Int × Nat)) (r : ab_O) (σ' : ab_H) : Prop := match P with
  | .inl (u, v) => r = .inl (some (.inl (-1))) ∧ ∃ (a' : Nat) (st' : Int), a' ≤ len ∧ σ' = ab_st σ 1 (tpc n len a' st' u v)
  | .inr (z, a') => r = .inl (some (.inl z)) ∧ a' ≤ len ∧ ∃ st' : Int, σ' = ab_st σ 1 (tpc n len a' st' 0 w)
set_option maxRecDepth 100000 in
set_option maxHeartbeats 1000000 in
theorem c_readNumber (h1 : σ.2 1 = some (tpc n len a st 0 w)) (h2 : σ.2 2 = some (bya f)) (hf : byR f) (hl : len ≤ 400) (ha : a ≤ len) (lo hi : Int) (hlo : ab_R lo) (hhi : ab_R hi) : ab_call 3 0 0 yX7_readNumber [rf 1, .inl lo, .inl hi] σ (fun r σ' => numQ σ n len w (numP f len a lo hi) r σ' ∧ (isD (byt f len (skB f len a)) = true → ∃ a' k' w' : Int, σ' = ab_st σ 1 (tpc n len a' (skB f len a : Nat) k' w'))) := by
  have hs := skB_sp f len a ha
  have hd := skD_sp f len (skB f len a) hs.2
  have hsR : ab_R ((skB f len a : Nat) : Int) := rR (by omega) (by omega)
  refine eX7_readNumber rfl (fun At hA => ?_)
  refine hA 0 _ rfl _ _ _ _ _ ?_
  refine Exists.intro _ (And.intro (by first | assumption | exact st_s | exact st_e (by decide) (by assumption) | exact st_e (by omega) (by assumption) | exact st_e (by decide) st_s | exact st_e (by omega) st_s | exact st_e (by decide) (st_e (by decide) (by assumption)) | exact st_e (by omega) (st_e (by omega) (by assumption))) (And.intro rfl (ab_inv_ev (c_isSound h1 (rR (by omega) (by omega))) (by decide) (Nat.le_refl _) (Nat.le_refl _) ?_)))
  refine And.intro (by first | assumption | exact b2i_R _ | exact rR (by omega) (by omega) | exact rR (by simp only [Int.toNat_natCast]; omega) (by simp only [Int.toNat_natCast]; omega)) (And.intro (fun q => ?_) (fun q => ?_))
  · refine hA 2 _ rfl _ _ _ _ _ ?_
    refine Exists.intro _ (And.intro (by first | assumption | exact st_s | exact st_e (by decide) (by assumption) | exact st_e (by omega) (by assumption) | exact st_e (by decide) st_s | exact st_e (by omega) st_s | exact st_e (by decide) (st_e (by decide) (by assumption)) | exact st_e (by omega) (st_e (by omega) (by assumption))) (And.intro rfl (ab_inv_ev (c_isDigitNext h1 h2 hf hl ha) (by decide) (Nat.le_refl _) (Nat.le_refl _) ?_)))
    refine And.intro (by first | assumption | exact b2i_R _ | exact rR (by omega) (by omega) | exact rR (by simp only [Int.toNat_natCast]; omega) (by simp only [Int.toNat_natCast]; omega)) (And.intro (fun q => ?_) (fun q => ?_))
    · have hdg := b2i_1 q
      have fin : ∀ (i : Nat) (v : Int), i = skD f len (skB f len a) → 0 ≤ v → v ≤ 1000 → nvl 1000 f i (skD f len (skB f len a) - i) v = nvl 1000 f (skB f len a) (skD f len (skB f len a) - skB f len a) 0 → At 9 [some (rf 1), some (.inl lo), some (.inl hi), some (.inl v)] [] (ab_st σ 1 (tpc n len i (skB f len a : Nat) 0 w)) 0 0 := by
        intro i v hi0 hv0 hv1 hn
        subst hi0
        rw [Nat.sub_self] at hn
        have hvR : ab_R v := rR (by omega) (by omega)
        have hn : v = nvl 1000 f (skB f len a) (skD f len (skB f len a) - skB f len a) 0 := hn
        have k11 : v < lo ∨ hi < v → At 11 [some (rf 1), some (.inl lo), some (.inl hi), some (.inl v)] [] (ab_st σ 1 (tpc n len (skD f len (skB f len a)) (skB f len a : Nat) 0 w)) 0 0 := fun hq => by
          refine hA 11 _ rfl _ _ _ _ _ ?_
          refine Exists.intro _ (And.intro (by first | assumption | exact st_s | exact st_e (by decide) (by assumption) | exact st_e (by omega) (by assumption) | exact st_e (by decide) st_s | exact st_e (by omega) st_s | exact st_e (by decide) (st_e (by decide) (by assumption)) | exact st_e (by omega) (st_e (by omega) (by assumption))) ?_)
          refine Exists.intro _ (And.intro (by first | assumption | exact st_s | exact st_e (by decide) (by assumption) | exact st_e (by omega) (by assumption) | exact st_e (by decide) st_s | exact st_e (by omega) st_s | exact st_e (by decide) (st_e (by decide) (by assumption)) | exact st_e (by omega) (st_e (by omega) (by assumption))) (And.intro rfl (ab_inv_ev (c_fail st_s (rR (by omega) (by omega)) 2 (skB f len a)) (by decide) (Nat.le_refl _) (Nat.le_refl _) ?_)))
          rw [st_st]
          refine ⟨?_, fun _ => ⟨_, _, _, rfl⟩⟩
          unfold numP
          rw [if_pos hdg, ← hn, if_pos hq]
          exact ⟨rfl, _, _, hd.2, rfl⟩
        refine hA 9 _ rfl _ _ _ _ _ ?_
        refine And.intro (And.intro (by first | assumption | exact b2i_R _ | exact rR (by omega) (by omega) | exact rR (by simp only [Int.toNat_natCast]; omega) (by simp only [Int.toNat_natCast]; omega)) (by first | assumption | exact b2i_R _ | exact rR (by omega) (by omega) | exact rR (by simp only [Int.toNat_natCast]; omega) (by simp only [Int.toNat_natCast]; omega))) (And.intro (fun q => ?_) (fun q => ?_))
        · exact k11 (Or.inl q)
        · refine hA 10 _ rfl _ _ _ _ _ ?_
          refine And.intro (And.intro (by first | assumption | exact b2i_R _ | exact rR (by omega) (by omega) | exact rR (by simp only [Int.toNat_natCast]; omega) (by simp only [Int.toNat_natCast]; omega)) (by first | assumption | exact b2i_R _ | exact rR (by omega) (by omega) | exact rR (by simp only [Int.toNat_natCast]; omega) (by simp only [Int.toNat_natCast]; omega))) (And.intro (fun q => ?_) (fun q => ?_))
          · refine hA 12 _ rfl _ _ _ _ _ ?_
            refine ⟨?_, fun _ => ⟨_, _, _, rfl⟩⟩
            unfold numP
            rw [if_pos hdg, ← hn, if_neg (by omega)]
            exact ⟨rfl, hd.2, _, rfl⟩
          · exact k11 (Or.inr q)
      have loop : ∀ (m i : Nat) (v : Int), i + m = len → i ≤ skD f len (skB f len a) → 0 ≤ v → v ≤ 1000 → rn (fun k => isD (byt f len k)) i m = skD f len (skB f len a) → nvl 1000 f i (skD f len (skB f len a) - i) v = nvl 1000 f (skB f len a) (skD f len (skB f len a) - skB f len a) 0 → At 5 [some (rf 1), some (.inl lo), some (.inl hi), some (.inl v)] [] (ab_st σ 1 (tpc n len i (skB f len a : Nat) 0 w)) 0 0 := by
        intro m
        induction m with
        | zero =>
          intro i v hi0 hle hv0 hv1 hr hn
          refine hA 5 _ rfl _ _ _ _ _ ?_
          refine Exists.intro _ (And.intro (by first | assumption | exact st_s | exact st_e (by decide) (by assumption) | exact st_e (by omega) (by assumption) | exact st_e (by decide) st_s | exact st_e (by omega) st_s | exact st_e (by decide) (st_e (by decide) (by assumption)) | exact st_e (by omega) (st_e (by omega) (by assumption))) ?_)
          refine Exists.intro _ (And.intro (by first | assumption | exact st_s | exact st_e (by decide) (by assumption) | exact st_e (by omega) (by assumption) | exact st_e (by decide) st_s | exact st_e (by omega) st_s | exact st_e (by decide) (st_e (by decide) (by assumption)) | exact st_e (by omega) (st_e (by omega) (by assumption))) ?_)
          refine And.intro (And.intro (by first | assumption | exact b2i_R _ | exact rR (by omega) (by omega) | exact rR (by simp only [Int.toNat_natCast]; omega) (by simp only [Int.toNat_natCast]; omega)) (by first | assumption | exact b2i_R _ | exact rR (by omega) (by omega) | exact rR (by simp only [Int.toNat_natCast]; omega) (by simp only [Int.toNat_natCast]; omega))) (And.intro (fun q => ?_) (fun q => ?_))
          · exact fin i v hr hv0 hv1 hn
          · omega
        | succ m ih =>
          intro i v hi0 hle hv0 hv1 hr hn
          have hfi := hf i
          have hfi2 := hf (Int.toNat (i : Int))
          have no : isD (f i) = false → At 9 [some (rf 1), some (.inl lo), some (.inl hi), some (.inl v)] [] (ab_st σ 1 (tpc n len i (skB f len a : Nat) 0 w)) 0 0 := fun h =>
            fin i v (by rw [← hr, rn_no (by show isD (byt f len i) = false; rw [byt_lt (by omega)]; exact h)]) hv0 hv1 hn
          refine hA 5 _ rfl _ _ _ _ _ ?_
          refine Exists.intro _ (And.intro (by first | assumption | exact st_s | exact st_e (by decide) (by assumption) | exact st_e (by omega) (by assumption) | exact st_e (by decide) st_s | exact st_e (by omega) st_s | exact st_e (by decide) (st_e (by decide) (by assumption)) | exact st_e (by omega) (st_e (by omega) (by assumption))) ?_)
          refine Exists.intro _ (And.intro (by first | assumption | exact st_s | exact st_e (by decide) (by assumption) | exact st_e (by omega) (by assumption) | exact st_e (by decide) st_s | exact st_e (by omega) st_s | exact st_e (by decide) (st_e (by decide) (by assumption)) | exact st_e (by omega) (st_e (by omega) (by assumption))) ?_)
          refine And.intro (And.intro (by first | assumption | exact b2i_R _ | exact rR (by omega) (by omega) | exact rR (by simp only [Int.toNat_natCast]; omega) (by simp only [Int.toNat_natCast]; omega)) (by first | assumption | exact b2i_R _ | exact rR (by omega) (by omega) | exact rR (by simp only [Int.toNat_natCast]; omega) (by simp only [Int.toNat_natCast]; omega))) (And.intro (fun q => ?_) (fun q => ?_))
          · omega
          · refine hA 6 _ rfl _ _ _ _ _ ?_
            refine Exists.intro _ (And.intro (by first | assumption | exact st_s | exact st_e (by decide) (by assumption) | exact st_e (by omega) (by assumption) | exact st_e (by decide) st_s | exact st_e (by omega) st_s | exact st_e (by decide) (st_e (by decide) (by assumption)) | exact st_e (by omega) (st_e (by omega) (by assumption))) ?_)
            refine Exists.intro _ (And.intro (by first | assumption | exact st_s | exact st_e (by decide) (by assumption) | exact st_e (by omega) (by assumption) | exact st_e (by decide) st_s | exact st_e (by omega) st_s | exact st_e (by decide) (st_e (by decide) (by assumption)) | exact st_e (by omega) (st_e (by omega) (by assumption))) ?_)
            refine Exists.intro _ (Exists.intro _ (And.intro (by first | assumption | exact st_s | exact st_e (by decide) (by assumption) | exact st_e (by omega) (by assumption) | exact st_e (by decide) st_s | exact st_e (by omega) st_s | exact st_e (by decide) (st_e (by decide) (by assumption)) | exact st_e (by omega) (st_e (by omega) (by assumption))) (And.intro (by omega) ?_)))
            refine And.intro (And.intro (by first | assumption | exact b2i_R _ | exact rR (by omega) (by omega) | exact rR (by simp only [Int.toNat_natCast]; omega) (by simp only [Int.toNat_natCast]; omega)) (by first | assumption | exact b2i_R _ | exact rR (by omega) (by omega) | exact rR (by simp only [Int.toNat_natCast]; omega) (by simp only [Int.toNat_natCast]; omega))) (And.intro (fun q => ?_) (fun q => ?_))
            · exact no (by unfold isD; rw [decide_eq_false (show ¬ 48 ≤ f i from Int.not_le.mpr q)]; rfl)
            · refine hA 7 _ rfl _ _ _ _ _ ?_
              refine Exists.intro _ (And.intro (by first | assumption | exact st_s | exact st_e (by decide) (by assumption) | exact st_e (by omega) (by assumption) | exact st_e (by decide) st_s | exact st_e (by omega) st_s | exact st_e (by decide) (st_e (by decide) (by assumption)) | exact st_e (by omega) (st_e (by omega) (by assumption))) ?_)
              refine Exists.intro _ (And.intro (by first | assumption | exact st_s | exact st_e (by decide) (by assumption) | exact st_e (by omega) (by assumption) | exact st_e (by decide) st_s | exact st_e (by omega) st_s | exact st_e (by decide) (st_e (by decide) (by assumption)) | exact st_e (by omega) (st_e (by omega) (by assumption))) ?_)
              refine Exists.intro _ (Exists.intro _ (And.intro (by first | assumption | exact st_s | exact st_e (by decide) (by assumption) | exact st_e (by omega) (by assumption) | exact st_e (by decide) st_s | exact st_e (by omega) st_s | exact st_e (by decide) (st_e (by decide) (by assumption)) | exact st_e (by omega) (st_e (by omega) (by assumption))) (And.intro (by omega) ?_)))
              refine And.intro (And.intro (by first | assumption | exact b2i_R _ | exact rR (by omega) (by omega) | exact rR (by simp only [Int.toNat_natCast]; omega) (by simp only [Int.toNat_natCast]; omega)) (by first | assumption | exact b2i_R _ | exact rR (by omega) (by omega) | exact rR (by simp only [Int.toNat_natCast]; omega) (by simp only [Int.toNat_natCast]; omega))) (And.intro (fun q => ?_) (fun q => ?_))
              · exact no (by unfold isD; rw [decide_eq_false (show ¬ f i ≤ 57 from Int.not_le.mpr q), Bool.and_false])
              · have hy : isD (byt f len i) = true := by
                  rw [byt_lt (by omega)]
                  unfold isD
                  rw [decide_eq_true (show 48 ≤ f i by assumption), decide_eq_true (show f i ≤ 57 by assumption)]
                  rfl
                rw [rn_st hy] at hr
                have hge : i + 1 ≤ skD f len (skB f len a) := by
                  rw [← hr]
                  exact (rn_sp _ m (i + 1)).1
                have hv2 : 0 ≤ min (v * 10 + f i - 48) 1000 := by
                  have : 48 ≤ f i := by assumption
                  omega
                refine hA 8 _ rfl _ _ _ _ _ ?_
                refine Exists.intro _ (And.intro (by first | assumption | exact st_s | exact st_e (by decide) (by assumption) | exact st_e (by omega) (by assumption) | exact st_e (by decide) st_s | exact st_e (by omega) st_s | exact st_e (by decide) (st_e (by decide) (by assumption)) | exact st_e (by omega) (st_e (by omega) (by assumption))) ?_)
                refine Exists.intro _ (And.intro (by first | assumption | exact st_s | exact st_e (by decide) (by assumption) | exact st_e (by omega) (by assumption) | exact st_e (by decide) st_s | exact st_e (by omega) st_s | exact st_e (by decide) (st_e (by decide) (by assumption)) | exact st_e (by omega) (st_e (by omega) (by assumption))) ?_)
                refine Exists.intro _ (Exists.intro _ (And.intro (by first | assumption | exact st_s | exact st_e (by decide) (by assumption) | exact st_e (by omega) (by assumption) | exact st_e (by decide) st_s | exact st_e (by omega) st_s | exact st_e (by decide) (st_e (by decide) (by assumption)) | exact st_e (by omega) (st_e (by omega) (by assumption))) (And.intro (by omega) ?_)))
                refine And.intro ⟨by first | assumption | exact b2i_R _ | exact rR (by omega) (by omega) | exact rR (by simp only [Int.toNat_natCast]; omega) (by simp only [Int.toNat_natCast]; omega), by first | assumption | exact b2i_R _ | exact rR (by omega) (by omega) | exact rR (by simp only [Int.toNat_natCast]; omega) (by simp only [Int.toNat_natCast]; omega), by decide⟩ (And.intro rfl ?_)
                refine Exists.intro _ (And.intro (by first | assumption | exact st_s | exact st_e (by decide) (by assumption) | exact st_e (by omega) (by assumption) | exact st_e (by decide) st_s | exact st_e (by omega) st_s | exact st_e (by decide) (st_e (by decide) (by assumption)) | exact st_e (by omega) (st_e (by omega) (by assumption))) ?_)
                refine Exists.intro _ (And.intro (by first | assumption | exact st_s | exact st_e (by decide) (by assumption) | exact st_e (by omega) (by assumption) | exact st_e (by decide) st_s | exact st_e (by omega) st_s | exact st_e (by decide) (st_e (by decide) (by assumption)) | exact st_e (by omega) (st_e (by omega) (by assumption))) ?_)
                rw [st_st]
                refine ih (i + 1) (min (v * 10 + f i - 48) 1000) (by omega) hge hv2 (by omega) hr ?_
                rw [← hn, show skD f len (skB f len a) - i = (skD f len (skB f len a) - (i + 1)) + 1 by omega]
                rfl
      refine hA 4 _ rfl _ _ _ _ _ ?_
      refine Exists.intro _ (And.intro (by first | assumption | exact st_s | exact st_e (by decide) (by assumption) | exact st_e (by omega) (by assumption) | exact st_e (by decide) st_s | exact st_e (by omega) st_s | exact st_e (by decide) (st_e (by decide) (by assumption)) | exact st_e (by omega) (st_e (by omega) (by assumption))) ?_)
      refine Exists.intro _ (And.intro (by first | assumption | exact st_s | exact st_e (by decide) (by assumption) | exact st_e (by omega) (by assumption) | exact st_e (by decide) st_s | exact st_e (by omega) st_s | exact st_e (by decide) (st_e (by decide) (by assumption)) | exact st_e (by omega) (st_e (by omega) (by assumption))) ?_)
      rw [st_st]
      exact loop (len - skB f len a) (skB f len a) 0 (by omega) hd.1 (by omega) (by omega) rfl rfl
    · have hq := b2i_0 q
      refine hA 3 _ rfl _ _ _ _ _ ?_
      refine Exists.intro _ (And.intro (by first | assumption | exact st_s | exact st_e (by decide) (by assumption) | exact st_e (by omega) (by assumption) | exact st_e (by decide) st_s | exact st_e (by omega) st_s | exact st_e (by decide) (st_e (by decide) (by assumption)) | exact st_e (by omega) (st_e (by omega) (by assumption))) ?_)
      refine Exists.intro _ (And.intro (by first | assumption | exact st_s | exact st_e (by decide) (by assumption) | exact st_e (by omega) (by assumption) | exact st_e (by decide) st_s | exact st_e (by omega) st_s | exact st_e (by decide) (st_e (by decide) (by assumption)) | exact st_e (by omega) (st_e (by omega) (by assumption))) (And.intro rfl (ab_inv_ev (c_fail st_s (rR (by omega) (by omega)) 1 (skB f len a)) (by decide) (Nat.le_refl _) (Nat.le_refl _) ?_)))
      rw [st_st]
      refine ⟨?_, fun h => absurd h (by rw [hq]; decide)⟩
      have hP : numP f len a lo hi = .inl (1, (skB f len a : Nat)) := by
        unfold numP
        exact if_neg (by rw [hq]; decide)
      rw [hP]
      exact ⟨rfl, _, _, hs.2, rfl⟩
  · exact absurd q (by decide)
/-- the stretch of the names that ends here is what stands on the tape from b on, so long -/
def spl (q u v : Nat) (f : Nat → Int) (b m : Nat) : Bool := (v - u == m) && (List.range m).all (fun j => ab_chr q (u + j) == f (b + j))
set_option maxRecDepth 100000 in
set_option maxHeartbeats 1000000 in
theorem c_isSpelt (h1 : σ.2 1 = some (tpc n len a st k w)) (h2 : σ.2 2 = some (bya f)) (hf : byR f) (hl : len ≤ 400) (ha : a ≤ len) {b : Nat} (hb : st = (b : Int)) (hba : b ≤ a) {z u v : Nat} (hz : z < 3) (huv : u ≤ v) (hv : v ≤ ab_sl.getD z 0) (hv2 : v < 10000) (hc : ∀ j, ab_R (ab_chr z j)) : ab_ev 6 yX7_isSpelt [rf 1, .inr (.inr (.inr z)), .inl u, .inl v] σ (some (.inl (b2i (spl z u v f b (a - b))))) σ := by
  subst hb
  have hq' : ∀ j : Nat, ab_R (f j) := fun j => by have := hf j; exact rR (by omega) (by omega)
  refine eX7_isSpelt rfl (fun At hA => ?_)
  have k5 : spl z u v f b (a - b) = false → ∀ L, At 5 L [] σ 0 0 := fun h L => by
    refine hA 5 _ rfl _ _ _ _ _ ?_
    refine And.intro (by first | exact Or.inl rfl | exact Or.inr rfl | exact b2i_01 _) ?_
    exact ⟨by rw [h]; rfl, rfl⟩
  have loop : ∀ m i : Nat, i + m = v - u → v - u = a - b → (∀ j, j < i → ab_chr z (u + j) = f (b + j)) → At 3 [some (rf 1), some (.inr (.inr (.inr z))), some (.inl u), some (.inl v), some (.inl i)] [] σ 0 0 := by
    intro m
    induction m with
    | zero =>
      intro i hi hm hj
      refine hA 3 _ rfl _ _ _ _ _ ?_
      refine And.intro (And.intro (by first | assumption | exact b2i_R _ | exact rR (by omega) (by omega) | exact rR (by simp only [Int.toNat_natCast]; omega) (by simp only [Int.toNat_natCast]; omega)) (by first | assumption | exact b2i_R _ | exact rR (by omega) (by omega) | exact rR (by simp only [Int.toNat_natCast]; omega) (by simp only [Int.toNat_natCast]; omega))) (And.intro (fun q => ?_) (fun q => ?_))
      · refine hA 7 _ rfl _ _ _ _ _ ?_
        refine And.intro (by first | exact Or.inl rfl | exact Or.inr rfl | exact b2i_01 _) ?_
        refine ⟨?_, rfl⟩
        have : spl z u v f b (a - b) = true := by
          unfold spl
          rw [Bool.and_eq_true, beq_iff_eq, List.all_eq_true]
          exact ⟨hm, fun j hj2 => beq_iff_eq.mpr (hj j (by have := List.mem_range.mp hj2; omega))⟩
        rw [this]
        rfl
      · omega
    | succ m ih =>
      intro i hi hm hj
      refine hA 3 _ rfl _ _ _ _ _ ?_
      refine And.intro (And.intro (by first | assumption | exact b2i_R _ | exact rR (by omega) (by omega) | exact rR (by simp only [Int.toNat_natCast]; omega) (by simp only [Int.toNat_natCast]; omega)) (by first | assumption | exact b2i_R _ | exact rR (by omega) (by omega) | exact rR (by simp only [Int.toNat_natCast]; omega) (by simp only [Int.toNat_natCast]; omega))) (And.intro (fun q => ?_) (fun q => ?_))
      · omega
      · refine hA 4 _ rfl _ _ _ _ _ ?_
        refine And.intro ⟨hz, by decide, by omega, by omega⟩ (And.intro rfl ?_)
        refine Exists.intro _ (And.intro h1 ?_)
        refine Exists.intro _ (And.intro h1 ?_)
        refine Exists.intro _ (Exists.intro _ (And.intro h2 (And.intro (by omega) ?_)))
        have e1 : ((u : Int) + (i : Int)).toNat = u + i := by omega
        have e2 : ((b : Int) + (i : Int)).toNat = b + i := by omega
        rw [e1, e2]
        refine And.intro (And.intro (hc _) (hq' _)) (And.intro (fun q => ?_) (fun q => ?_))
        · refine hA 6 _ rfl _ _ _ _ _ ?_
          refine ih (i + 1) (by omega) hm (fun j hj2 => ?_)
          by_cases e : j = i
          · rw [e]; exact q
          · exact hj j (by omega)
        · refine k5 ?_ _
          unfold spl
          rw [Bool.and_eq_false_iff]
          refine Or.inr ?_
          rw [List.all_eq_false]
          exact ⟨i, List.mem_range.mpr (by omega), by rw [beq_iff_eq]; exact q⟩
  refine hA 0 _ rfl _ _ _ _ _ ?_
  refine Exists.intro _ (And.intro (by first | assumption | exact st_s | exact st_e (by decide) (by assumption) | exact st_e (by omega) (by assumption) | exact st_e (by decide) st_s | exact st_e (by omega) st_s | exact st_e (by decide) (st_e (by decide) (by assumption)) | exact st_e (by omega) (st_e (by omega) (by assumption))) ?_)
  refine Exists.intro _ (And.intro (by first | assumption | exact st_s | exact st_e (by decide) (by assumption) | exact st_e (by omega) (by assumption) | exact st_e (by decide) st_s | exact st_e (by omega) st_s | exact st_e (by decide) (st_e (by decide) (by assumption)) | exact st_e (by omega) (st_e (by omega) (by assumption))) ?_)
  refine And.intro (And.intro (by first | assumption | exact b2i_R _ | exact rR (by omega) (by omega) | exact rR (by simp only [Int.toNat_natCast]; omega) (by simp only [Int.toNat_natCast]; omega)) (by first | assumption | exact b2i_R _ | exact rR (by omega) (by omega) | exact rR (by simp only [Int.toNat_natCast]; omega) (by simp only [Int.toNat_natCast]; omega))) (And.intro (fun q => ?_) (fun q => ?_))
  · refine hA 2 _ rfl _ _ _ _ _ ?_
    exact loop (v - u) 0 (by omega) (by omega) (fun j hj => by omega)
  · refine hA 1 _ rfl _ _ _ _ _ ?_
    refine And.intro (by first | exact Or.inl rfl | exact Or.inr rfl | exact b2i_01 _) ?_
    refine ⟨?_, rfl⟩
    have : spl z u v f b (a - b) = false := by
      unfold spl
      rw [Bool.and_eq_false_iff]
      exact Or.inl (beq_eq_false_iff_ne.mpr (by omega))
    rw [this]
    rfl
end Tape
