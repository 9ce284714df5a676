-- ===== the tape's readings as steps from status to status =====
/-- where a reading stands: at a fault (its kind, its place), or at a place -/
abbrev S2 : Type := (Int × Int) ⊕ Nat
section Stat
variable (f : Nat → Int) (len : Nat)
def sgnT (s : S2) (x : Nat) : S2 := match s with
  | .inl e => .inl e
  | .inr a => signP f len a x
def numT (s : S2) (lo hi : Int) : Int × S2 := match s with
  | .inl e => (-1, .inl e)
  | .inr a => match numP f len a lo hi with
    | .inl e => (-1, .inl e)
    | .inr (z, a') => (z, .inr a')
def wrdT (s : S2) (q : Nat) : Int × S2 := match s with
  | .inl e => (-1, .inl e)
  | .inr a => match wordP f len a q with
    | .inl e => (-1, .inl e)
    | .inr (i, a') => ((i : Nat), .inr a')
def endT (s : S2) : S2 := match s with
  | .inl e => .inl e
  | .inr a => if skB f len a < len then .inl (1, (skB f len a : Nat)) else .inr a
end Stat
def isR (s : S2) : Bool := match s with
  | .inl _ => false
  | .inr _ => true
/-- the tape's cells at a status -/
def TT (σ : ab_H) (n : Int) (f : Nat → Int) (len : Nat) (s : S2) : Prop := match s with
  | .inl (u, v) => u ≠ 0 ∧ ab_R u ∧ T1 σ n len u v
  | .inr a => a ≤ len ∧ ∃ (x : Nat) (st : Int), x ≤ len ∧ skB f len x = skB f len a ∧ σ.2 1 = some (tpc n len x st 0 (-1))
def tA (a : Nat) : Prop := a = 1
theorem TT.cell {σ : ab_H} {n : Int} {f : Nat → Int} {len : Nat} {s : S2} (h : TT σ n f len s) : ∃ (x : Nat) (st k w : Int), x ≤ len ∧ ab_R k ∧ σ.2 1 = some (tpc n len x st k w) := by
  match s, h with
  | .inl (u, v), ⟨_, h2, a, st, h3, h4⟩ => exact ⟨a, st, u, v, h3, h2, h4⟩
  | .inr a, ⟨_, x, st, h2, _, h4⟩ => exact ⟨x, st, 0, -1, h2, rR (by omega) (by omega), h4⟩
theorem TT.fr {σ σ' : ab_H} {n : Int} {f : Nat → Int} {len : Nat} {s : S2} {A : Nat → Prop} (h : TT σ n f len s) (hf : fr A σ σ') (hA : ¬ A 1) : TT σ' n f len s := by
  match s, h with
  | .inl (u, v), ⟨h1, h2, a, st, h3, h4⟩ => exact ⟨h1, h2, a, st, h3, (hf.2 1 hA).trans h4⟩
  | .inr a, ⟨h1, x, st, h2, h3, h4⟩ => exact ⟨h1, x, st, h2, h3, (hf.2 1 hA).trans h4⟩
theorem signP_sk {f : Nat → Int} {len a b : Nat} (h : skB f len a = skB f len b) (x : Nat) : signP f len a x = signP f len b x := by unfold signP; rw [h]
theorem numP_sk2 {f : Nat → Int} {len a b : Nat} (h : skB f len a = skB f len b) (lo hi : Int) : numP f len a lo hi = numP f len b lo hi := by unfold numP; rw [h]
theorem wordP_sk {f : Nat → Int} {len a b : Nat} (h : skB f len a = skB f len b) (q : Nat) : wordP f len a q = wordP f len b q := by unfold wordP; rw [h]
theorem signP_ok {f : Nat → Int} {len a x a' : Nat} (ha : a ≤ len) (h : signP f len a x = .inr a') : a < a' ∧ a' ≤ len := by
  have hs := skB_sp f len a ha
  unfold signP at h
  by_cases e : (byt f len (skB f len a) == (x : Int)) = true
  · rw [if_pos e] at h
    cases h
    have : skB f len a < len := by
      rcases Nat.lt_or_ge (skB f len a) len with h1 | h1
      · exact h1
      · rw [byt_ge h1] at e
        have := beq_iff_eq.mp e
        omega
    omega
  · rw [if_neg e] at h
    cases h
theorem signP_no {f : Nat → Int} {len a x : Nat} {u v : Int} (h : signP f len a x = .inl (u, v)) : u = 1 ∧ v = (skB f len a : Nat) := by
  unfold signP at h
  split at h
  · cases h
  · cases h; exact ⟨rfl, rfl⟩
section StatC
variable {σ : ab_H} {f : Nat → Int} {len : Nat} {n : Int} {s : S2}
theorem q_sound (h : TT σ n f len s) : ab_ev 1 yX7_isSound [rf 1] σ (some (.inl (b2i (isR s)))) σ := by
  match s, h with
  | .inl (u, v), ⟨h1, h2, a, st, h3, h4⟩ =>
    have := c_isSound h4 h2
    rw [decide_eq_false h1] at this
    exact this
  | .inr a, ⟨h1, x, st, h2, h3, h4⟩ => exact c_isSound h4 (rR (by omega) (by omega))
theorem q_need (h : TT σ n f len s) (h2 : σ.2 2 = some (bya f)) (hf : byR f) (hl : len ≤ 400) (x : Nat) (hx : x < 256) : ab_call 3 0 0 yX7_need [rf 1, .inl x] σ (fun r σ' => r = .inl none ∧ fr tA σ σ' ∧ TT σ' n f len (sgnT f len s x)) := by
  match s, h with
  | .inl (u, v), ⟨k1, k2, a, st, k3, k4⟩ =>
    refine ab_call_mono (c_need0 k4 k2 k1 x) (fun r σ' q => ?_)
    obtain ⟨rfl, rfl⟩ := q
    exact ⟨rfl, fr_rf _ _, k1, k2, a, st, k3, k4⟩
  | .inr a, ⟨k1, y, st, k2, k3, k4⟩ =>
    refine ab_call_mono (c_need k4 h2 hf hl k2 x hx) (fun r σ' q => ?_)
    obtain ⟨rfl, rfl⟩ := q
    refine ⟨rfl, fr_st rfl, ?_⟩
    rw [signP_sk k3]
    show TT _ n f len (signP f len a x)
    rcases hP : signP f len a x with ⟨u, v⟩ | a'
    · have := signP_no hP
      exact ⟨by omega, rR (by omega) (by omega), _, _, (skB_sp f len y k2).2, st_s⟩
    · have := signP_ok k1 hP
      exact ⟨this.2, a', st, this.2, rfl, st_s⟩
theorem q_num (h : TT σ n f len s) (h2 : σ.2 2 = some (bya f)) (hf : byR f) (hl : len ≤ 400) (lo hi : Int) (hlo : ab_R lo) (hhi : ab_R hi) : ab_call 3 0 0 yX7_readNumber [rf 1, .inl lo, .inl hi] σ (fun r σ' => r = .inl (some (.inl (numT f len s lo hi).1)) ∧ fr tA σ σ' ∧ TT σ' n f len (numT f len s lo hi).2) := by
  match s, h with
  | .inl (u, v), ⟨k1, k2, a, st, k3, k4⟩ =>
    refine ab_call_mono (c_readNumber0 k4 k2 k1 lo hi) (fun r σ' q => ?_)
    obtain ⟨rfl, rfl⟩ := q
    exact ⟨rfl, fr_rf _ _, k1, k2, a, st, k3, k4⟩
  | .inr a, ⟨k1, y, st, k2, k3, k4⟩ =>
    refine ab_call_mono (c_readNumber k4 h2 hf hl k2 lo hi hlo hhi) (fun r σ' q => ?_)
    obtain ⟨hq, -⟩ := q
    rw [numP_sk2 k3] at hq
    unfold numT
    dsimp only
    rcases hP : numP f len a lo hi with ⟨u, v⟩ | ⟨z, a'⟩
    · rw [hP] at hq
      obtain ⟨rfl, a', st', ha', rfl⟩ := hq
      have := numP_no hP
      exact ⟨rfl, fr_st rfl, by omega, rR (by omega) (by omega), a', st', ha', st_s⟩
    · rw [hP] at hq
      obtain ⟨rfl, ha', st', rfl⟩ := hq
      exact ⟨rfl, fr_st rfl, ha', a', st', ha', rfl, st_s⟩
theorem q_word (h : TT σ n f len s) (h2 : σ.2 2 = some (bya f)) (hf : byR f) (hl : len ≤ 400) (v : Nat) (hv : v < 3) : ab_call 7 0 0 yX7_readName [rf 1, .inr (.inr (.inr v))] σ (fun r σ' => r = .inl (some (.inl (wrdT f len s v).1)) ∧ fr tA σ σ' ∧ TT σ' n f len (wrdT f len s v).2) := by
  match s, h with
  | .inl (u, w), ⟨k1, k2, a, st, k3, k4⟩ =>
    refine ab_call_mono (c_readName0 k4 k2 k1 v) (fun r σ' q => ?_)
    obtain ⟨rfl, rfl⟩ := q
    exact ⟨rfl, fr_rf _ _, k1, k2, a, st, k3, k4⟩
  | .inr a, ⟨k1, y, st, k2, k3, k4⟩ =>
    refine ab_call_mono (c_readName k4 h2 hf hl k2 v hv) (fun r σ' q => ?_)
    obtain ⟨rfl, rfl⟩ := q
    have hd := skL_sp f len (skB f len y) (skB_sp f len y k2).2
    have he : ∀ i a', wordP f len a v = .inr (i, a') → skL f len (skB f len y) = a' := fun i a' hW => by
      rw [k3]
      unfold wordP at hW
      dsimp only at hW
      split at hW
      · cases hW; rfl
      · cases hW
    rw [wordP_sk k3]
    unfold wrdT
    dsimp only
    rcases hP : wordP f len a v with ⟨u, w⟩ | ⟨i, a'⟩
    · have := wordP_no hP
      exact ⟨rfl, fr_st rfl, by omega, rR (by omega) (by omega), _, _, hd.2, st_s⟩
    · have := he i a' hP
      exact ⟨rfl, fr_st rfl, by rw [← this]; exact hd.2, a', _, by rw [← this]; exact hd.2, rfl, by rw [← this]; exact st_s⟩
theorem q_next (h : TT σ n f len s) (h2 : σ.2 2 = some (bya f)) (hf : byR f) (hl : len ≤ 400) (x : Nat) (hx : x < 256) {a : Nat} (hs : s = .inr a) : ab_call 2 0 0 yX7_isNext [rf 1, .inl x] σ (fun r σ' => r = .inl (some (.inl (b2i (byt f len (skB f len a) == (x : Int))))) ∧ fr tA σ σ' ∧ TT σ' n f len s ∧ ∃ st : Int, σ'.2 1 = some (tpc n len (skB f len a) st 0 (-1))) := by
  subst hs
  obtain ⟨k1, y, st, k2, k3, k4⟩ := h
  refine ab_call_mono (c_isNext k4 h2 hf hl k2 x hx) (fun r σ' q => ?_)
  obtain ⟨rfl, rfl⟩ := q
  have hs := skB_sp f len a k1
  rw [k3]
  exact ⟨rfl, fr_st rfl, ⟨k1, skB f len a, st, hs.2, skB_id f len a k1, st_s⟩, st, st_s⟩
theorem q_end (h : TT σ n f len s) (h2 : σ.2 2 = some (bya f)) (hf : byR f) (hl : len ≤ 400) : ab_call 2 0 0 yX7_needEnd [rf 1] σ (fun r σ' => r = .inl none ∧ fr tA σ σ' ∧ TT σ' n f len (endT f len s)) := by
  match s, h with
  | .inl (u, v), ⟨k1, k2, a, st, k3, k4⟩ =>
    refine ab_call_mono (c_needEnd k4 h2 hf hl k3 k2) (fun r σ' q => ?_)
    obtain ⟨rfl, rfl⟩ := q
    refine ⟨rfl, fr_st rfl, k1, k2, skB f len a, st, (skB_sp f len a k3).2, ?_⟩
    rw [st_s, if_neg (fun h => k1 h.2), if_neg (fun h => k1 h.2)]
  | .inr a, ⟨k1, y, st, k2, k3, k4⟩ =>
    refine ab_call_mono (c_needEnd k4 h2 hf hl k2 (rR (by omega) (by omega))) (fun r σ' q => ?_)
    obtain ⟨rfl, rfl⟩ := q
    have hs := skB_sp f len a k1
    refine ⟨rfl, fr_st rfl, ?_⟩
    unfold endT
    dsimp only
    rw [k3]
    by_cases e : skB f len a < len
    · rw [if_pos e, if_pos ⟨e, rfl⟩, if_pos ⟨e, rfl⟩]
      exact ⟨by decide, rR (by omega) (by omega), skB f len a, st, hs.2, st_s⟩
    · rw [if_neg e, if_neg (fun h => e h.1), if_neg (fun h => e h.1)]
      exact ⟨k1, skB f len a, st, hs.2, skB_id f len a k1, st_s⟩
theorem q_fail (h : TT σ n f len s) (x y : Int) (hx : x ≠ 0) (hR : ab_R x) : ab_call 1 0 0 yX7_fail [rf 1, .inl x, .inl y] σ (fun r σ' => r = .inl none ∧ fr tA σ σ' ∧ TT σ' n f len (match s with
    | .inl e => .inl e
    | .inr _ => .inl (x, y))) := by
  match s, h with
  | .inl (u, v), ⟨k1, k2, a, st, k3, k4⟩ =>
    refine ab_call_mono (c_fail k4 k2 x y) (fun r σ' q => ?_)
    obtain ⟨rfl, rfl⟩ := q
    rw [if_neg k1, if_neg k1, st_id k4]
    exact ⟨rfl, fr_rf _ _, k1, k2, a, st, k3, k4⟩
  | .inr a, ⟨k1, z, st, k2, k3, k4⟩ =>
    refine ab_call_mono (c_fail k4 (rR (by omega) (by omega)) x y) (fun r σ' q => ?_)
    obtain ⟨rfl, rfl⟩ := q
    exact ⟨rfl, fr_st rfl, hx, hR, z, st, k2, st_s⟩
end StatC
