-- ===== the tape: bytes that come =====
/-- a byte of a number -/
def byZ (z : Int) (s : Nat) : Int := ab_and (ab_ushr z s) 255
theorem by_bits (x : BitVec 32) : (x &&& 255#32).toNat ≤ 255 := by
  rw [BitVec.toNat_and]
  exact Nat.and_le_right
theorem byZ_R (z : Int) (s : Nat) : 0 ≤ byZ z s ∧ byZ z s < 256 := by
  unfold byZ ab_and
  have h1 : (Int32.ofInt (ab_ushr z s) &&& Int32.ofInt 255).toBitVec = (Int32.ofInt (ab_ushr z s)).toBitVec &&& 255#32 := rfl
  have h2 := by_bits (Int32.ofInt (ab_ushr z s)).toBitVec
  rw [← h1] at h2
  have h3 : (Int32.ofInt (ab_ushr z s) &&& Int32.ofInt 255).toInt = (((Int32.ofInt (ab_ushr z s) &&& Int32.ofInt 255).toBitVec.toNat : Nat) : Int) := by
    show BitVec.toInt _ = _
    rw [BitVec.toInt_eq_toNat_of_lt]
    omega
  rw [h3]
  omega
theorem sh_k : ∀ k, k < 32 → ((Int32.ofInt (k : Nat)).toUInt32 &&& Int32.toUInt32 31).toBitVec % 32 = BitVec.ofNat 32 k := by decide +kernel
theorem sh_j : ∀ k, k < 32 → ((Int32.ofInt (k : Nat) &&& 31).toBitVec.smod 32) = BitVec.ofNat 32 k := by decide +kernel
theorem byZ_s (z : Int) (s : Nat) (hs : s ≤ 24) : ab_and (ab_shr z s) 255 = byZ z s := by
  unfold byZ ab_and ab_shr ab_ushr
  rw [ab_of, ab_of]
  congr 1
  apply Int32.toBitVec_inj.mp
  rw [Int32.toBitVec_and, Int32.toBitVec_and]
  apply BitVec.eq_of_getLsbD_eq
  intro i hi
  rw [BitVec.getLsbD_and, BitVec.getLsbD_and]
  by_cases h8 : i < 8
  · congr 1
    have e1 : (Int32.ofInt z >>> (Int32.ofInt (s : Nat) &&& 31)).toBitVec = (Int32.ofInt z).toBitVec.sshiftRight s := by
      rw [Int32.toBitVec_shiftRight]
      have := sh_j s (by omega)
      show (Int32.ofInt z).toBitVec.sshiftRight' ((Int32.ofInt (s : Nat) &&& 31).toBitVec.smod 32) = _
      rw [this]
      show (Int32.ofInt z).toBitVec.sshiftRight (BitVec.ofNat 32 s).toNat = _
      rw [BitVec.toNat_ofNat, Nat.mod_eq_of_lt (by omega)]
    have e2 : ((Int32.ofInt z).toUInt32 >>> ((Int32.ofInt (s : Nat)).toUInt32 &&& Int32.toUInt32 31)).toInt32.toBitVec = (Int32.ofInt z).toBitVec >>> s := by
      show ((Int32.ofInt z).toUInt32 >>> ((Int32.ofInt (s : Nat)).toUInt32 &&& Int32.toUInt32 31)).toBitVec = _
      rw [UInt32.toBitVec_shiftRight]
      have := sh_k s (by omega)
      show (Int32.ofInt z).toBitVec >>> (((Int32.ofInt (s : Nat)).toUInt32 &&& Int32.toUInt32 31).toBitVec % 32) = _
      rw [this]
      show (Int32.ofInt z).toBitVec >>> (BitVec.ofNat 32 s).toNat = _
      rw [BitVec.toNat_ofNat, Nat.mod_eq_of_lt (by omega)]
    rw [e1, e2, BitVec.getLsbD_sshiftRight, BitVec.getLsbD_ushiftRight]
    rw [show decide (32 ≤ i) = false from decide_eq_false (by omega), if_pos (by omega)]
    rfl
  · have : (Int32.ofInt 255).toBitVec.getLsbD i = false := by
      show (BitVec.ofNat 32 255).getLsbD i = false
      rw [BitVec.getLsbD_ofNat]
      rw [show (255 : Nat) = 2 ^ 8 - 1 from rfl, Nat.testBit_two_pow_sub_one, decide_eq_false h8, Bool.and_false]
    rw [this, Bool.and_false, Bool.and_false]
/-- four bytes more -/
def put4 (f : Nat → Int) (n : Nat) (z : Int) : Nat → Int := ab_up (ab_up (ab_up (ab_up f n (byZ z 24)) (n + 1) (byZ z 16)) (n + 2) (byZ z 8)) (n + 3) (byZ z 0)
theorem byR_up {f : Nat → Int} (hf : byR f) (n : Nat) (z : Int) (s : Nat) : byR (ab_up f n (byZ z s)) := fun j => by
  unfold ab_up
  split
  · exact byZ_R z s
  · exact hf j
theorem byR_put {f : Nat → Int} (hf : byR f) (n : Nat) (z : Int) : byR (put4 f n z) := byR_up (byR_up (byR_up (byR_up hf _ _ _) _ _ _) _ _ _) _ _ _
def taA (a : Nat) : Prop := a = 1 ∨ a = 2
section Tape2
variable {σ : ab_H} {f : Nat → Int}
set_option maxRecDepth 100000 in
set_option maxHeartbeats 1000000 in
theorem c_put4 {n : Nat} {len a st k w : Int} (h1 : σ.2 1 = some (tpc n len a st k w)) (h2 : σ.2 2 = some (bya f)) (hn : n + 4 ≤ 400) (z : Int) : ab_call 1 0 0 yX7_put [rf 1, .inl z] σ (fun r σ' => r = .inl none ∧ fr taA σ σ' ∧ σ'.2 1 = some (tpc ((n + 4 : Nat) : Int) len a st k w) ∧ σ'.2 2 = some (bya (put4 f n z))) := by
  refine eX7_put rfl (fun At hA => ?_)
  have step : ∀ (τ : ab_H) (j : Nat) (g : Nat → Int) (s : Nat), n + j < 400 → s ≤ 24 → fr taA σ τ → τ.2 1 = some (tpc ((n + j : Nat) : Int) len a st k w) → τ.2 2 = some (bya g) → (∀ τ', fr taA σ τ' → τ'.2 1 = some (tpc ((n + j + 1 : Nat) : Int) len a st k w) → τ'.2 2 = some (bya (ab_up g (n + j) (byZ z s))) → At 1 [some (rf 1), some (.inl z), some (.inl ((s : Int) + -8))] [] τ' 0 0) → At 1 [some (rf 1), some (.inl z), some (.inl s)] [] τ 0 0 := fun τ j g s hj hs hf q1 q2 hk => by
    refine hA 1 _ rfl _ _ _ _ _ ?_
    refine And.intro (by first | assumption | exact b2i_R _ | exact rR (by omega) (by omega) | exact rR (by simp only [Int.toNat_natCast]; omega) (by simp only [Int.toNat_natCast]; omega)) (And.intro (fun q => ?_) (fun q => ?_))
    · omega
    · refine hA 2 _ rfl _ _ _ _ _ ?_
      refine Exists.intro _ (And.intro (by first | assumption | exact st_s | exact st_e (by decide) (by assumption) | exact st_e (by omega) (by assumption) | exact st_e (by decide) st_s | exact st_e (by omega) st_s | exact st_e (by decide) (st_e (by decide) (by assumption)) | exact st_e (by omega) (st_e (by omega) (by assumption))) ?_)
      refine And.intro (And.intro (by first | assumption | exact b2i_R _ | exact rR (by omega) (by omega) | exact rR (by simp only [Int.toNat_natCast]; omega) (by simp only [Int.toNat_natCast]; omega)) (by first | assumption | exact b2i_R _ | exact rR (by omega) (by omega) | exact rR (by simp only [Int.toNat_natCast]; omega) (by simp only [Int.toNat_natCast]; omega))) (And.intro (fun q => ?_) (fun q => ?_))
      · omega
      · refine hA 3 _ rfl _ _ _ _ _ ?_
        refine Exists.intro _ (And.intro (by first | assumption | exact st_s | exact st_e (by decide) (by assumption) | exact st_e (by omega) (by assumption) | exact st_e (by decide) st_s | exact st_e (by omega) st_s | exact st_e (by decide) (st_e (by decide) (by assumption)) | exact st_e (by omega) (st_e (by omega) (by assumption))) ?_)
        refine Exists.intro _ (And.intro (by first | assumption | exact st_s | exact st_e (by decide) (by assumption) | exact st_e (by omega) (by assumption) | exact st_e (by decide) st_s | exact st_e (by omega) st_s | exact st_e (by decide) (st_e (by decide) (by assumption)) | exact st_e (by omega) (st_e (by omega) (by assumption))) ?_)
        refine Exists.intro _ (Exists.intro _ (And.intro (by first | assumption | exact st_s | exact st_e (by decide) (by assumption) | exact st_e (by omega) (by assumption) | exact st_e (by decide) st_s | exact st_e (by omega) st_s | exact st_e (by decide) (st_e (by decide) (by assumption)) | exact st_e (by omega) (st_e (by omega) (by assumption))) (And.intro (by first | omega | (simp only [Int.toNat_natCast]; omega)) ?_)))
        refine Exists.intro _ (And.intro (by first | assumption | exact st_s | exact st_e (by decide) (by assumption) | exact st_e (by omega) (by assumption) | exact st_e (by decide) st_s | exact st_e (by omega) st_s | exact st_e (by decide) (st_e (by decide) (by assumption)) | exact st_e (by omega) (st_e (by omega) (by assumption))) ?_)
        refine Exists.intro _ (And.intro (by first | assumption | exact st_s | exact st_e (by decide) (by assumption) | exact st_e (by omega) (by assumption) | exact st_e (by decide) st_s | exact st_e (by omega) st_s | exact st_e (by decide) (st_e (by decide) (by assumption)) | exact st_e (by omega) (st_e (by omega) (by assumption))) ?_)
        exact hk _ ((hf.st (Or.inr rfl)).st (Or.inl rfl)) st_s (st_e (by decide) st_s)
  refine hA 0 _ rfl _ _ _ _ _ ?_
  refine step σ 0 f 24 (by omega) (by omega) (fr_rf _ _) h1 h2 (fun τ1 f1 a1 b1 => ?_)
  refine step τ1 1 _ 16 (by omega) (by omega) f1 a1 b1 (fun τ2 f2 a2 b2 => ?_)
  refine step τ2 2 _ 8 (by omega) (by omega) f2 a2 b2 (fun τ3 f3 a3 b3 => ?_)
  refine step τ3 3 _ 0 (by omega) (by omega) f3 a3 b3 (fun τ4 f4 a4 b4 => ?_)
  refine hA 1 _ rfl _ _ _ _ _ ?_
  refine And.intro (by first | assumption | exact b2i_R _ | exact rR (by omega) (by omega) | exact rR (by simp only [Int.toNat_natCast]; omega) (by simp only [Int.toNat_natCast]; omega)) (And.intro (fun q => ?_) (fun q => ?_))
  · refine hA 4 _ rfl _ _ _ _ _ ?_
    exact ⟨rfl, f4, a4, b4⟩
  · exact absurd (show (0 : Int) ≤ 0 + -8 from q) (by decide)
set_option maxRecDepth 100000 in
set_option maxHeartbeats 1000000 in
theorem c_take {n len a st k w : Int} (h1 : σ.2 1 = some (tpc n len a st k w)) (x : Int) : ab_ev 1 yX7_take [rf 1, .inl x] σ none (ab_st σ 1 (tpc 0 x 0 0 0 (-1))) := by
  refine eX7_take rfl (fun At hA => ?_)
  refine hA 0 _ rfl _ _ _ _ _ ?_
  refine Exists.intro _ (And.intro (by first | assumption | exact st_s | exact st_e (by decide) (by assumption) | exact st_e (by omega) (by assumption) | exact st_e (by decide) st_s | exact st_e (by omega) st_s | exact st_e (by decide) (st_e (by decide) (by assumption)) | exact st_e (by omega) (st_e (by omega) (by assumption))) ?_)
  refine Exists.intro _ (And.intro (by first | assumption | exact st_s | exact st_e (by decide) (by assumption) | exact st_e (by omega) (by assumption) | exact st_e (by decide) st_s | exact st_e (by omega) st_s | exact st_e (by decide) (st_e (by decide) (by assumption)) | exact st_e (by omega) (st_e (by omega) (by assumption))) ?_)
  refine Exists.intro _ (And.intro (by first | assumption | exact st_s | exact st_e (by decide) (by assumption) | exact st_e (by omega) (by assumption) | exact st_e (by decide) st_s | exact st_e (by omega) st_s | exact st_e (by decide) (st_e (by decide) (by assumption)) | exact st_e (by omega) (st_e (by omega) (by assumption))) ?_)
  refine Exists.intro _ (And.intro (by first | assumption | exact st_s | exact st_e (by decide) (by assumption) | exact st_e (by omega) (by assumption) | exact st_e (by decide) st_s | exact st_e (by omega) st_s | exact st_e (by decide) (st_e (by decide) (by assumption)) | exact st_e (by omega) (st_e (by omega) (by assumption))) ?_)
  refine Exists.intro _ (And.intro (by first | assumption | exact st_s | exact st_e (by decide) (by assumption) | exact st_e (by omega) (by assumption) | exact st_e (by decide) st_s | exact st_e (by omega) st_s | exact st_e (by decide) (st_e (by decide) (by assumption)) | exact st_e (by omega) (st_e (by omega) (by assumption))) ?_)
  refine Exists.intro _ (And.intro (by first | assumption | exact st_s | exact st_e (by decide) (by assumption) | exact st_e (by omega) (by assumption) | exact st_e (by decide) st_s | exact st_e (by omega) st_s | exact st_e (by decide) (st_e (by decide) (by assumption)) | exact st_e (by omega) (st_e (by omega) (by assumption))) ?_)
  refine ⟨rfl, ?_⟩
  rw [st_st, st_st, st_st, st_st, st_st]
  rfl
set_option maxRecDepth 100000 in
set_option maxHeartbeats 1000000 in
theorem c_refusal {n len a st k w : Int} (h1 : σ.2 1 = some (tpc n len a st k w)) : ab_ev 1 yX7_refusal [rf 1] σ (some (.inl (k - 10))) σ := by
  refine eX7_refusal rfl (fun At hA => ?_)
  refine hA 0 _ rfl _ _ _ _ _ ?_
  refine Exists.intro _ (And.intro (by first | assumption | exact st_s | exact st_e (by decide) (by assumption) | exact st_e (by omega) (by assumption) | exact st_e (by decide) st_s | exact st_e (by omega) st_s | exact st_e (by decide) (st_e (by decide) (by assumption)) | exact st_e (by omega) (st_e (by omega) (by assumption))) ?_)
  exact ⟨rfl, rfl⟩
end Tape2
-- ===== the search: what calls it =====
def B0 : B3 := (0, 1000000, fun _ => 0)
def tellF (B : B3) (what : Nat) : Int := if B.1 < what ∨ B.1 = 0 then -1 else if what = 0 then (B.2.1 : Nat) else (B.2.2 (what - 1) : Nat)
def swB (card bud : Nat) : Nat → B3
  | 0 => B0
  | n + 1 => enS (n + 1) card (n + 1) 0 1 bud 0 (fun _ => 0) (swB card bud n)
/-- the search's cells, whatever they hold -/
def SE0 (σ : ab_H) : Prop := (∃ c k b p s : Nat, σ.2 50 = some (sec c k b p s)) ∧ (∃ tt : Nat → Int, σ.2 51 = some (.inr (.inl (0, 4, tt)))) ∧ ∃ gg : Nat → Int, σ.2 52 = some (.inr (.inl (0, 4, gg)))
theorem SE.z {σ : ab_H} {card k bud i : Nat} {t : Nat → Nat} {B : B3} (h : SE σ card k bud i t B) : SE0 σ := by
  obtain ⟨h1, ⟨tt, h2, -⟩, ⟨gg, h3, -⟩, -⟩ := h
  exact ⟨⟨_, _, _, _, _, h1⟩, ⟨tt, h2⟩, gg, h3⟩
section Search2
variable {σ : ab_H}
set_option maxRecDepth 100000 in
set_option maxHeartbeats 1000000 in
theorem c_start {c k b p s : Int} (h50 : σ.2 50 = some (sec c k b p s)) (card : Nat) : ab_ev 1 yX1_start [rf 50, .inl card] σ none (ab_st σ 50 (sec card k b 0 1000000)) := by
  refine eX1_start rfl (fun At hA => ?_)
  refine hA 0 _ rfl _ _ _ _ _ ?_
  refine Exists.intro _ (And.intro (by first | assumption | exact st_s | exact st_e (by decide) (by assumption) | exact st_e (by omega) (by assumption) | exact st_e (by decide) st_s | exact st_e (by omega) st_s | exact st_e (by decide) (st_e (by decide) (by assumption)) | exact st_e (by omega) (st_e (by omega) (by assumption))) ?_)
  refine Exists.intro _ (And.intro (by first | assumption | exact st_s | exact st_e (by decide) (by assumption) | exact st_e (by omega) (by assumption) | exact st_e (by decide) st_s | exact st_e (by omega) st_s | exact st_e (by decide) (st_e (by decide) (by assumption)) | exact st_e (by omega) (st_e (by omega) (by assumption))) ?_)
  refine Exists.intro _ (And.intro (by first | assumption | exact st_s | exact st_e (by decide) (by assumption) | exact st_e (by omega) (by assumption) | exact st_e (by decide) st_s | exact st_e (by omega) st_s | exact st_e (by decide) (st_e (by decide) (by assumption)) | exact st_e (by omega) (st_e (by omega) (by assumption))) ?_)
  refine ⟨rfl, ?_⟩
  rw [st_st, st_st]
  rfl
set_option maxRecDepth 100000 in
set_option maxHeartbeats 1000000 in
theorem c_tell {card k bud i : Nat} {t : Nat → Nat} {B : B3} (h : SE σ card k bud i t B) (what : Nat) (hw : what ≤ 4) : ab_ev 1 yX1_tell [rf 50, .inl what] σ (some (.inl (tellF B what))) σ := by
  obtain ⟨h50, -, ⟨gg, h52, hg⟩, h4, h5⟩ := h
  refine eX1_tell rfl (fun At hA => ?_)
  have k2 : (B.1 < what ∨ B.1 = 0) → At 2 [some (rf 50), some (.inl what)] [] σ 0 0 := fun hq => by
    refine hA 2 _ rfl _ _ _ _ _ ?_
    refine ⟨?_, rfl⟩
    unfold tellF
    rw [if_pos hq]
  refine hA 0 _ rfl _ _ _ _ _ ?_
  refine Exists.intro _ (And.intro (by first | assumption | exact st_s | exact st_e (by decide) (by assumption) | exact st_e (by omega) (by assumption) | exact st_e (by decide) st_s | exact st_e (by omega) st_s | exact st_e (by decide) (st_e (by decide) (by assumption)) | exact st_e (by omega) (st_e (by omega) (by assumption))) ?_)
  refine And.intro (And.intro (by first | assumption | exact b2i_R _ | exact rR (by omega) (by omega) | exact rR (by simp only [Int.toNat_natCast]; omega) (by simp only [Int.toNat_natCast]; omega)) (by first | assumption | exact b2i_R _ | exact rR (by omega) (by omega) | exact rR (by simp only [Int.toNat_natCast]; omega) (by simp only [Int.toNat_natCast]; omega))) (And.intro (fun q => ?_) (fun q => ?_))
  · exact k2 (Or.inl (by omega))
  · refine hA 1 _ rfl _ _ _ _ _ ?_
    refine Exists.intro _ (And.intro (by first | assumption | exact st_s | exact st_e (by decide) (by assumption) | exact st_e (by omega) (by assumption) | exact st_e (by decide) st_s | exact st_e (by omega) st_s | exact st_e (by decide) (st_e (by decide) (by assumption)) | exact st_e (by omega) (st_e (by omega) (by assumption))) ?_)
    refine And.intro (by first | assumption | exact b2i_R _ | exact rR (by omega) (by omega) | exact rR (by simp only [Int.toNat_natCast]; omega) (by simp only [Int.toNat_natCast]; omega)) (And.intro (fun q => ?_) (fun q => ?_))
    · have hn : ¬ (B.1 < what ∨ B.1 = 0) := by omega
      refine hA 3 _ rfl _ _ _ _ _ ?_
      refine And.intro (by first | assumption | exact b2i_R _ | exact rR (by omega) (by omega) | exact rR (by simp only [Int.toNat_natCast]; omega) (by simp only [Int.toNat_natCast]; omega)) (And.intro (fun q => ?_) (fun q => ?_))
      · have e1 : ((what : Int) - 1).toNat = what - 1 := by omega
        have e2 := hg (what - 1) (by omega)
        refine hA 5 _ rfl _ _ _ _ _ ?_
        refine Exists.intro _ (And.intro (by first | assumption | exact st_s | exact st_e (by decide) (by assumption) | exact st_e (by omega) (by assumption) | exact st_e (by decide) st_s | exact st_e (by omega) st_s | exact st_e (by decide) (st_e (by decide) (by assumption)) | exact st_e (by omega) (st_e (by omega) (by assumption))) ?_)
        refine Exists.intro _ (Exists.intro _ (And.intro (by first | assumption | exact st_s | exact st_e (by decide) (by assumption) | exact st_e (by omega) (by assumption) | exact st_e (by decide) st_s | exact st_e (by omega) st_s | exact st_e (by decide) (st_e (by decide) (by assumption)) | exact st_e (by omega) (st_e (by omega) (by assumption))) (And.intro (by first | omega | (simp only [Int.toNat_natCast]; omega)) ?_)))
        refine hA 6 _ rfl _ _ _ _ _ ?_
        refine ⟨?_, rfl⟩
        unfold tellF
        rw [if_neg hn, if_neg (by omega), ← e2, e1]
      · refine hA 4 _ rfl _ _ _ _ _ ?_
        refine Exists.intro _ (And.intro (by first | assumption | exact st_s | exact st_e (by decide) (by assumption) | exact st_e (by omega) (by assumption) | exact st_e (by decide) st_s | exact st_e (by omega) st_s | exact st_e (by decide) (st_e (by decide) (by assumption)) | exact st_e (by omega) (st_e (by omega) (by assumption))) ?_)
        refine hA 6 _ rfl _ _ _ _ _ ?_
        refine ⟨?_, rfl⟩
        unfold tellF
        rw [if_neg hn, if_pos (by omega)]
    · exact k2 (Or.inr (by omega))
set_option maxRecDepth 100000 in
set_option maxHeartbeats 1000000 in
theorem c_findBitmaps (h : SE0 σ) (card k : Nat) (hc : card ≤ 200) (hk1 : 1 ≤ k) (hk : k ≤ 4) : ab_call 11 0 0 yX1_findFewestBitmaps [rf 50, .inl card, .inl k] σ (fun r σ' => r = .inl none ∧ fr seA σ σ' ∧ ∃ bud : Nat, SE σ' card k bud 0 (fun _ => 0) (enF k card k 0 1 0 (fun _ => 0) B0)) := by
  obtain ⟨⟨c, k0, b, p, s, h50⟩, ⟨tt, h51⟩, gg, h52⟩ := h
  refine eX1_findFewestBitmaps rfl (fun At hA => ?_)
  have hS : SE (ab_st (ab_st σ 50 (sec card k0 b 0 1000000)) 50 (sec card k b 0 1000000)) card k b 0 (fun _ => 0) B0 := ⟨st_s, ⟨tt, st_e (by decide) (st_e (by decide) h51), fun j hj => by omega⟩, ⟨gg, st_e (by decide) (st_e (by decide) h52), fun j hj => by
    have hj : j < 0 := hj
    omega⟩, Nat.zero_le _, by decide⟩
  have hcall := c_tryFewer hc hk (k - 1) 0 (by omega) _ 1 0 (fun _ => 0) B0 (by decide) (by decide) hS
  rw [show k - 1 + 1 = k by omega] at hcall
  refine hA 0 _ rfl _ _ _ _ _ ?_
  refine Exists.intro _ (And.intro (by first | assumption | exact st_s | exact st_e (by decide) (by assumption) | exact st_e (by omega) (by assumption) | exact st_e (by decide) st_s | exact st_e (by omega) st_s | exact st_e (by decide) (st_e (by decide) (by assumption)) | exact st_e (by omega) (st_e (by omega) (by assumption))) (And.intro rfl (ab_inv_ev (c_start h50 card) (by first | decide | omega) (by first | exact Nat.le_refl _ | omega) (by first | exact Nat.le_refl _ | omega) ?_)))
  refine Exists.intro _ (And.intro (by first | assumption | exact st_s | exact st_e (by decide) (by assumption) | exact st_e (by omega) (by assumption) | exact st_e (by decide) st_s | exact st_e (by omega) st_s | exact st_e (by decide) (st_e (by decide) (by assumption)) | exact st_e (by omega) (st_e (by omega) (by assumption))) ?_)
  refine Exists.intro _ (And.intro (by first | assumption | exact st_s | exact st_e (by decide) (by assumption) | exact st_e (by omega) (by assumption) | exact st_e (by decide) st_s | exact st_e (by omega) st_s | exact st_e (by decide) (st_e (by decide) (by assumption)) | exact st_e (by omega) (st_e (by omega) (by assumption))) (And.intro rfl (ab_inv_of hcall (by first | decide | omega) (by omega) (by omega) ?_)))
  intro r τ hpost
  obtain ⟨rfl, h1, h2⟩ := hpost
  exact ⟨rfl, (((fr_rf _ _).st (Or.inl rfl)).st (Or.inl rfl)).tr h1, b, h2⟩
set_option maxRecDepth 100000 in
set_option maxHeartbeats 1000000 in
theorem c_findReadings (h : SE0 σ) (card bud : Nat) (hc : 2 ≤ card ∧ card ≤ 200) (hb : bud ≤ 24) : ab_call 11 0 0 yX1_findFewestReadings [rf 50, .inl card, .inl bud] σ (fun r σ' => r = .inl none ∧ fr seA σ σ' ∧ ∃ k : Nat, SE σ' card k bud 0 (fun _ => 0) (swB card bud 4)) := by
  obtain ⟨⟨c, k0, b, p, s, h50⟩, ⟨tt, h51⟩, gg, h52⟩ := h
  refine eX1_findFewestReadings rfl (fun At hA => ?_)
  have loop : ∀ (m i k : Nat) (τ : ab_H), i + m = 4 → fr seA σ τ → SE τ card k bud 0 (fun _ => 0) (swB card bud i) → At 1 [some (rf 50), some (.inl card), some (.inl bud), some (.inl ((i + 1 : Nat) : Int))] [] τ 0 0 := by
    intro m
    induction m with
    | zero =>
      intro i k τ hi hf hS
      have hi : i = 4 := by omega
      subst hi
      refine hA 1 _ rfl _ _ _ _ _ ?_
      refine And.intro (And.intro (by first | assumption | exact b2i_R _ | exact rR (by omega) (by omega) | exact rR (by simp only [Int.toNat_natCast]; omega) (by simp only [Int.toNat_natCast]; omega)) (by first | assumption | exact b2i_R _ | exact rR (by omega) (by omega) | exact rR (by simp only [Int.toNat_natCast]; omega) (by simp only [Int.toNat_natCast]; omega))) (And.intro (fun q => ?_) (fun q => ?_))
      · refine hA 3 _ rfl _ _ _ _ _ ?_
        exact ⟨rfl, hf, k, hS⟩
      · exact absurd (show (5 : Int) ≤ 4 from q) (by decide)
    | succ m ih =>
      intro i k τ hi hf hS
      obtain ⟨q50, ⟨tt, q51, q1⟩, ⟨gg, q52, q2⟩, q4, q5⟩ := id hS
      have hS2 : SE (ab_st τ 50 (sec card ((i + 1 : Nat) : Int) bud (swB card bud i).1 (swB card bud i).2.1)) card (i + 1) bud 0 (fun _ => 0) (swB card bud i) := ⟨st_s, ⟨tt, st_e (by decide) q51, q1⟩, ⟨gg, st_e (by decide) q52, q2⟩, q4, q5⟩
      have hcall := c_trySwifter hc (show i + 1 ≤ 4 by omega) hb i 0 (by omega) _ 1 0 0 (fun _ => 0) (swB card bud i) (by decide) (by decide) (by omega) (by decide) hS2
      refine hA 1 _ rfl _ _ _ _ _ ?_
      refine And.intro (And.intro (by first | assumption | exact b2i_R _ | exact rR (by omega) (by omega) | exact rR (by simp only [Int.toNat_natCast]; omega) (by simp only [Int.toNat_natCast]; omega)) (by first | assumption | exact b2i_R _ | exact rR (by omega) (by omega) | exact rR (by simp only [Int.toNat_natCast]; omega) (by simp only [Int.toNat_natCast]; omega))) (And.intro (fun q => ?_) (fun q => ?_))
      · omega
      · refine hA 2 _ rfl _ _ _ _ _ ?_
        refine Exists.intro _ (And.intro (by first | assumption | exact st_s | exact st_e (by decide) (by assumption) | exact st_e (by omega) (by assumption) | exact st_e (by decide) st_s | exact st_e (by omega) st_s | exact st_e (by decide) (st_e (by decide) (by assumption)) | exact st_e (by omega) (st_e (by omega) (by assumption))) ?_)
        refine Exists.intro _ (And.intro (by first | assumption | exact st_s | exact st_e (by decide) (by assumption) | exact st_e (by omega) (by assumption) | exact st_e (by decide) st_s | exact st_e (by omega) st_s | exact st_e (by decide) (st_e (by decide) (by assumption)) | exact st_e (by omega) (st_e (by omega) (by assumption))) (And.intro rfl (ab_inv_of hcall (by first | decide | omega) (by omega) (by omega) ?_)))
        intro r υ hpost
        obtain ⟨rfl, h1, h2⟩ := hpost
        exact ih (i + 1) (i + 1) υ (by omega) ((hf.st (Or.inl rfl)).tr h1) h2
  refine hA 0 _ rfl _ _ _ _ _ ?_
  refine Exists.intro _ (And.intro (by first | assumption | exact st_s | exact st_e (by decide) (by assumption) | exact st_e (by omega) (by assumption) | exact st_e (by decide) st_s | exact st_e (by omega) st_s | exact st_e (by decide) (st_e (by decide) (by assumption)) | exact st_e (by omega) (st_e (by omega) (by assumption))) (And.intro rfl (ab_inv_ev (c_start h50 card) (by first | decide | omega) (by first | exact Nat.le_refl _ | omega) (by first | exact Nat.le_refl _ | omega) ?_)))
  refine Exists.intro _ (And.intro (by first | assumption | exact st_s | exact st_e (by decide) (by assumption) | exact st_e (by omega) (by assumption) | exact st_e (by decide) st_s | exact st_e (by omega) st_s | exact st_e (by decide) (st_e (by decide) (by assumption)) | exact st_e (by omega) (st_e (by omega) (by assumption))) ?_)
  exact loop 4 0 k0 _ rfl (((fr_rf _ _).st (Or.inl rfl)).st (Or.inl rfl)) ⟨st_s, ⟨tt, st_e (by decide) (st_e (by decide) h51), fun j hj => by omega⟩, ⟨gg, st_e (by decide) (st_e (by decide) h52), fun j hj => by
    have hj : j < 0 := hj
    omega⟩, Nat.zero_le _, show (1000000 : Nat) ≤ 2147483647 by decide⟩
end Search2
section ColRead
variable {σ : ab_H} {f : Nat → Int} {len : Nat}
/-- what the reading of a column leaves: a column made, or none -/
def colQ (σ : ab_H) (len : Nat) (P : (Int × Int) ⊕ (Bool × Nat × Nat × (Nat → Nat))) (r : ab_O) (σ' : ab_H) : Prop := match P with
  | .inl (u, v) => r = .inl (some (.inr (.inl none))) ∧ u ≠ 0 ∧ ab_R u ∧ T1 σ' 0 len u v ∧ fr ctA σ σ'
  | .inr (ρ, card, parts, b) => r = .inl (some (rf σ.1)) ∧ T1 σ' 0 len 0 (-1) ∧ okb card parts b ∧ σ'.1 = σ.1 + 6 + 2 * fsp ρ b parts ∧ IsC σ' σ.1 ρ card parts b (fun _ => 0) (fun _ _ => 0) ∧ ∀ a, a < σ.1 → ¬ ctA a → σ'.2 a = σ.2 a
def colM (P : (Int × Int) ⊕ (Bool × Nat × Nat × (Nat → Nat))) : Nat := match P with
  | .inl _ => 0
  | .inr (ρ, _, parts, b) => 7 + 2 * fsp ρ b parts
def colN (P : (Int × Int) ⊕ (Bool × Nat × Nat × (Nat → Nat))) : Nat := match P with
  | .inl _ => 0
  | .inr (ρ, _, parts, b) => 1520 + 102 * fsp ρ b parts
set_option maxRecDepth 100000 in
set_option maxHeartbeats 1000000 in
theorem c_readColumn {st : Int} (hs : 320 ≤ σ.1) (h1 : σ.2 1 = some (tpc 0 len 0 st 0 (-1))) (h2 : σ.2 2 = some (bya f)) (hf : byR f) (hl : len ≤ 400) (h26 : C26 σ) : ab_call 9 (colM (colP f len)) (colN (colP f len)) yX4_readColumn [rf 26] σ (fun r σ' => C26 σ' ∧ colQ σ len (colP f len) r σ') := by
  obtain ⟨p0, q0, g0, k26, k27⟩ := id h26
  have n2 : ¬ ctA 2 := by unfold ctA; omega
  generalize hP : colP f len = P
  refine eX4_readColumn rfl (fun At hA => ?_)
  -- a fault: nothing is made
  have tail : ∀ (τ : ab_H) (e : Int × Int) (y1 y2 : Option ab_V), fr ctA σ τ → TT τ 0 f len (.inl e) → C26 τ → P = .inl e → At 3 [some (rf 26), y1, y2] [] τ 0 0 := fun τ e y1 y2 hf1 hT h26' hPe => by
    subst hPe
    obtain ⟨p1, q1, g1, r26, r27⟩ := id h26'
    have r2 := (hf1.2 2 n2).trans h2
    obtain ⟨_, _, _, _, -, -, t1⟩ := hT.cell
    refine hA 3 _ rfl _ _ _ _ _ ?_
    refine Exists.intro _ (And.intro (by first | assumption | exact st_s | exact st_e (by decide) (by assumption) | exact st_e (by omega) (by assumption) | exact st_e (by decide) st_s | exact st_e (by omega) st_s | exact st_e (by decide) (st_e (by decide) (by assumption)) | exact st_e (by omega) (st_e (by omega) (by assumption))) ?_)
    refine Exists.intro _ (And.intro (by first | assumption | exact st_s | exact st_e (by decide) (by assumption) | exact st_e (by omega) (by assumption) | exact st_e (by decide) st_s | exact st_e (by omega) st_s | exact st_e (by decide) (st_e (by decide) (by assumption)) | exact st_e (by omega) (st_e (by omega) (by assumption))) (And.intro rfl (ab_inv_of (q_end hT r2 hf hl) (by first | decide | omega) (by omega) (by omega) ?_)))
    intro r υ hpost
    obtain ⟨rfl, f2, T2⟩ := hpost
    have hf2 : fr ctA σ υ := hf1.tr (f2.mono (fun a h => Or.inl h))
    have u26 : υ.2 26 = _ := (f2.2 26 (by unfold tA; omega)).trans r26
    have u27 : υ.2 27 = _ := (f2.2 27 (by unfold tA; omega)).trans r27
    obtain ⟨_, _, _, _, -, -, t1⟩ := T2.cell
    refine Exists.intro _ (And.intro (by first | assumption | exact st_s | exact st_e (by decide) (by assumption) | exact st_e (by omega) (by assumption) | exact st_e (by decide) st_s | exact st_e (by omega) st_s | exact st_e (by decide) (st_e (by decide) (by assumption)) | exact st_e (by omega) (st_e (by omega) (by assumption))) ?_)
    refine Exists.intro _ (And.intro (by first | assumption | exact st_s | exact st_e (by decide) (by assumption) | exact st_e (by omega) (by assumption) | exact st_e (by decide) st_s | exact st_e (by omega) st_s | exact st_e (by decide) (st_e (by decide) (by assumption)) | exact st_e (by omega) (st_e (by omega) (by assumption))) (And.intro rfl (ab_inv_ev (q_sound T2) (by first | decide | omega) (by first | exact Nat.le_refl _ | omega) (by first | exact Nat.le_refl _ | omega) ?_)))
    refine And.intro (by first | assumption | exact b2i_R _ | exact rR (by omega) (by omega) | exact rR (by simp only [Int.toNat_natCast]; omega) (by simp only [Int.toNat_natCast]; omega)) (And.intro (fun q => ?_) (fun q => ?_))
    · refine hA 8 _ rfl _ _ _ _ _ ?_
      refine hA 9 _ rfl _ _ _ _ _ ?_
      exact ⟨⟨p1, q1, g1, u26, u27⟩, rfl, T2.1, T2.2.1, T2.2.2, hf2⟩
    · exact absurd rfl q
  have tail0 : ∀ (τ : ab_H) (e : Int × Int) (y1 : Option ab_V) (r26 : ∃ p q : Int, τ.2 26 = some (ctc p q)), fr ctA σ τ → TT τ 0 f len (.inl e) → C26 τ → P = .inl e → True := fun _ _ _ _ _ _ _ _ => trivial
  have hN := c_readName (σ := σ) (n := 0) (len := len) (a := 0) (st := st) (w := -1) h1 h2 hf hl (Nat.zero_le _) 0 (by omega)
  have hd := skL_sp f len (skB f len 0) (skB_sp f len 0 (Nat.zero_le _)).2
  have hP0 : colP f len = match wordP f len 0 0 with
    | .inl e => .inl e
    | .inr (i, a) => match basP f len 5 0 a (fun _ => 2) with
      | .inl e => .inl e
      | .inr (a1, k, bs) => match numP f len a1 2 200 with
        | .inl e => .inl e
        | .inr (z, a2) => if wtp bs k < z.toNat then .inl (4, (skB f len a1 : Nat)) else if skB f len a2 < len then .inl (1, (skB f len a2 : Nat)) else .inr (i == 1, z.toNat, k, bs) := rfl
  rw [hP] at hP0
  rcases hW : wordP f len 0 0 with ⟨u, v⟩ | ⟨i, a⟩
  · rw [hW] at hP0 hN
    have hu := wordP_no hW
    have t1 : (ab_st σ 1 (tpc 0 len (skL f len (skB f len 0)) (skB f len 0) u v)).2 1 = some (tpc 0 len (skL f len (skB f len 0)) (skB f len 0) u v) := st_s
    have hT : TT (ab_st (ab_st σ 1 (tpc 0 len (skL f len (skB f len 0)) (skB f len 0) u v)) 26 (ctc 0 1)) 0 f len (.inl (u, v)) := ⟨by omega, rR (by omega) (by omega), _, _, hd.2, st_e (by decide) t1⟩
    have hf1 : fr ctA σ (ab_st (ab_st σ 1 (tpc 0 len (skL f len (skB f len 0)) (skB f len 0) u v)) 26 (ctc 0 1)) := ((fr_rf _ _).st (Or.inl rfl)).st (Or.inr (Or.inl rfl))
    refine hA 0 _ rfl _ _ _ _ _ ?_
    refine Exists.intro _ (And.intro (by first | assumption | exact st_s | exact st_e (by decide) (by assumption) | exact st_e (by omega) (by assumption) | exact st_e (by decide) st_s | exact st_e (by omega) st_s | exact st_e (by decide) (st_e (by decide) (by assumption)) | exact st_e (by omega) (st_e (by omega) (by assumption))) ?_)
    refine Exists.intro _ (And.intro (by first | assumption | exact st_s | exact st_e (by decide) (by assumption) | exact st_e (by omega) (by assumption) | exact st_e (by decide) st_s | exact st_e (by omega) st_s | exact st_e (by decide) (st_e (by decide) (by assumption)) | exact st_e (by omega) (st_e (by omega) (by assumption))) (And.intro rfl (ab_inv_ev hN (by first | decide | omega) (by first | exact Nat.le_refl _ | omega) (by first | exact Nat.le_refl _ | omega) ?_)))
    refine Exists.intro _ (And.intro (by first | assumption | exact st_s | exact st_e (by decide) (by assumption) | exact st_e (by omega) (by assumption) | exact st_e (by decide) st_s | exact st_e (by omega) st_s | exact st_e (by decide) (st_e (by decide) (by assumption)) | exact st_e (by omega) (st_e (by omega) (by assumption))) (And.intro rfl (ab_inv_ev (c_readBases0 (len := len) t1 (rR (by omega) (by omega)) (by omega) (st_e (by decide) k26)) (by first | decide | omega) (by first | exact Nat.le_refl _ | omega) (by first | exact Nat.le_refl _ | omega) ?_)))
    refine Exists.intro _ (And.intro (by first | assumption | exact st_s | exact st_e (by decide) (by assumption) | exact st_e (by omega) (by assumption) | exact st_e (by decide) st_s | exact st_e (by omega) st_s | exact st_e (by decide) (st_e (by decide) (by assumption)) | exact st_e (by omega) (st_e (by omega) (by assumption))) ?_)
    refine Exists.intro _ (And.intro (by first | assumption | exact st_s | exact st_e (by decide) (by assumption) | exact st_e (by omega) (by assumption) | exact st_e (by decide) st_s | exact st_e (by omega) st_s | exact st_e (by decide) (st_e (by decide) (by assumption)) | exact st_e (by omega) (st_e (by omega) (by assumption))) (And.intro rfl (ab_inv_of (q_num hT (st_e (by decide) (st_e (by decide) h2)) hf hl 2 200 (rR (by omega) (by omega)) (rR (by omega) (by omega))) (by first | decide | omega) (by omega) (by omega) ?_)))
    intro r τ hpost
    obtain ⟨rfl, f2, T2⟩ := hpost
    have hf2 := hf1.tr (f2.mono (fun a h => Or.inl h))
    have u26 : τ.2 26 = some (ctc 0 1) := (f2.2 26 (by unfold tA; omega)).trans st_s
    have u27 : τ.2 27 = _ := (f2.2 27 (by unfold tA; omega)).trans (st_e (by decide) (st_e (by decide) k27))
    obtain ⟨_, _, _, _, -, -, t1⟩ := T2.cell
    refine Exists.intro _ (And.intro (by first | assumption | exact st_s | exact st_e (by decide) (by assumption) | exact st_e (by omega) (by assumption) | exact st_e (by decide) st_s | exact st_e (by omega) st_s | exact st_e (by decide) (st_e (by decide) (by assumption)) | exact st_e (by omega) (st_e (by omega) (by assumption))) ?_)
    refine Exists.intro _ (And.intro (by first | assumption | exact st_s | exact st_e (by decide) (by assumption) | exact st_e (by omega) (by assumption) | exact st_e (by decide) st_s | exact st_e (by omega) st_s | exact st_e (by decide) (st_e (by decide) (by assumption)) | exact st_e (by omega) (st_e (by omega) (by assumption))) (And.intro rfl (ab_inv_ev (q_sound T2) (by first | decide | omega) (by first | exact Nat.le_refl _ | omega) (by first | exact Nat.le_refl _ | omega) ?_)))
    refine And.intro (by first | assumption | exact b2i_R _ | exact rR (by omega) (by omega) | exact rR (by simp only [Int.toNat_natCast]; omega) (by simp only [Int.toNat_natCast]; omega)) (And.intro (fun q => ?_) (fun q => ?_))
    · exact tail τ (u, v) _ _ hf2 T2 ⟨0, 1, g0, u26, u27⟩ hP0
    · exact absurd rfl q
  · rw [hW] at hP0 hN
    dsimp only at hP0
    have hwo := wordP_ok (Nat.zero_le _) hW
    have hi2 : i < 2 := hwo.1
    have he : skL f len (skB f len 0) = a := by
      unfold wordP at hW
      dsimp only at hW
      split at hW
      · cases hW; rfl
      · cases hW
    rw [he] at hN
    have t1 : (ab_st σ 1 (tpc 0 len a (skB f len 0) 0 (-1))).2 1 = some (tpc 0 len a (skB f len 0) 0 (-1)) := st_s
    have s26 : (ab_st σ 1 (tpc 0 len a (skB f len 0) 0 (-1))).2 26 = some (ctc p0 q0) := st_e (by decide) k26
    have hB := c_readBases t1 (st_e (by decide) h2) hf hl hwo.2.2.1 ⟨p0, q0, g0, s26, st_e (by decide) k27⟩
    have hf1 : fr ctA σ (ab_st σ 1 (tpc 0 len a (skB f len 0) 0 (-1))) := fr_st (Or.inl rfl)
    refine hA 0 _ rfl _ _ _ _ _ ?_
    refine Exists.intro _ (And.intro (by first | assumption | exact st_s | exact st_e (by decide) (by assumption) | exact st_e (by omega) (by assumption) | exact st_e (by decide) st_s | exact st_e (by omega) st_s | exact st_e (by decide) (st_e (by decide) (by assumption)) | exact st_e (by omega) (st_e (by omega) (by assumption))) ?_)
    refine Exists.intro _ (And.intro (by first | assumption | exact st_s | exact st_e (by decide) (by assumption) | exact st_e (by omega) (by assumption) | exact st_e (by decide) st_s | exact st_e (by omega) st_s | exact st_e (by decide) (st_e (by decide) (by assumption)) | exact st_e (by omega) (st_e (by omega) (by assumption))) (And.intro rfl (ab_inv_ev hN (by first | decide | omega) (by first | exact Nat.le_refl _ | omega) (by first | exact Nat.le_refl _ | omega) ?_)))
    refine Exists.intro _ (And.intro (by first | assumption | exact st_s | exact st_e (by decide) (by assumption) | exact st_e (by omega) (by assumption) | exact st_e (by decide) st_s | exact st_e (by omega) st_s | exact st_e (by decide) (st_e (by decide) (by assumption)) | exact st_e (by omega) (st_e (by omega) (by assumption))) (And.intro rfl (ab_inv_of hB (by first | decide | omega) (by omega) (by omega) ?_)))
    intro r τ hpost
    obtain ⟨rfl, f2, hbQ⟩ := hpost
    have hf2 := hf1.tr f2
    have r2 := (hf2.2 2 n2).trans h2
    rcases hBP : basP f len 5 0 a (fun _ => 2) with ⟨u, v⟩ | ⟨a1, k, bs⟩
    · rw [hBP] at hbQ hP0
      obtain ⟨c1, c2, c3, c4⟩ := hbQ
      have hT : TT τ 0 f len (.inl (u, v)) := ⟨c1, c2, c3⟩
      obtain ⟨p1, q1, g1, r26, r27⟩ := id c4
      obtain ⟨_, _, _, _, -, -, t1⟩ := hT.cell
      refine Exists.intro _ (And.intro (by first | assumption | exact st_s | exact st_e (by decide) (by assumption) | exact st_e (by omega) (by assumption) | exact st_e (by decide) st_s | exact st_e (by omega) st_s | exact st_e (by decide) (st_e (by decide) (by assumption)) | exact st_e (by omega) (st_e (by omega) (by assumption))) ?_)
      refine Exists.intro _ (And.intro (by first | assumption | exact st_s | exact st_e (by decide) (by assumption) | exact st_e (by omega) (by assumption) | exact st_e (by decide) st_s | exact st_e (by omega) st_s | exact st_e (by decide) (st_e (by decide) (by assumption)) | exact st_e (by omega) (st_e (by omega) (by assumption))) (And.intro rfl (ab_inv_of (q_num hT r2 hf hl 2 200 (rR (by omega) (by omega)) (rR (by omega) (by omega))) (by first | decide | omega) (by omega) (by omega) ?_)))
      intro r υ hpost
      obtain ⟨rfl, f3, T3⟩ := hpost
      have hf3 := hf2.tr (f3.mono (fun a h => Or.inl h))
      have u26 : υ.2 26 = some (ctc p1 q1) := (f3.2 26 (by unfold tA; omega)).trans r26
      have u27 : υ.2 27 = _ := (f3.2 27 (by unfold tA; omega)).trans r27
      obtain ⟨_, _, _, _, -, -, t1⟩ := T3.cell
      refine Exists.intro _ (And.intro (by first | assumption | exact st_s | exact st_e (by decide) (by assumption) | exact st_e (by omega) (by assumption) | exact st_e (by decide) st_s | exact st_e (by omega) st_s | exact st_e (by decide) (st_e (by decide) (by assumption)) | exact st_e (by omega) (st_e (by omega) (by assumption))) ?_)
      refine Exists.intro _ (And.intro (by first | assumption | exact st_s | exact st_e (by decide) (by assumption) | exact st_e (by omega) (by assumption) | exact st_e (by decide) st_s | exact st_e (by omega) st_s | exact st_e (by decide) (st_e (by decide) (by assumption)) | exact st_e (by omega) (st_e (by omega) (by assumption))) (And.intro rfl (ab_inv_ev (q_sound T3) (by first | decide | omega) (by first | exact Nat.le_refl _ | omega) (by first | exact Nat.le_refl _ | omega) ?_)))
      refine And.intro (by first | assumption | exact b2i_R _ | exact rR (by omega) (by omega) | exact rR (by simp only [Int.toNat_natCast]; omega) (by simp only [Int.toNat_natCast]; omega)) (And.intro (fun q => ?_) (fun q => ?_))
      · exact tail υ (u, v) _ _ hf3 T3 ⟨p1, q1, g1, u26, u27⟩ hP0
      · exact absurd rfl q
    · rw [hBP] at hbQ hP0
      dsimp only at hP0
      obtain ⟨c1, c2, c3, c4, ⟨st1, c5⟩, c6, g1, c7, c8⟩ := hbQ
      refine Exists.intro _ (And.intro (by first | assumption | exact st_s | exact st_e (by decide) (by assumption) | exact st_e (by omega) (by assumption) | exact st_e (by decide) st_s | exact st_e (by omega) st_s | exact st_e (by decide) (st_e (by decide) (by assumption)) | exact st_e (by omega) (st_e (by omega) (by assumption))) ?_)
      refine Exists.intro _ (And.intro (by first | assumption | exact st_s | exact st_e (by decide) (by assumption) | exact st_e (by omega) (by assumption) | exact st_e (by decide) st_s | exact st_e (by omega) st_s | exact st_e (by decide) (st_e (by decide) (by assumption)) | exact st_e (by omega) (st_e (by omega) (by assumption))) (And.intro rfl (ab_inv_of (c_readNumber c5 r2 hf hl c1 2 200 (rR (by omega) (by omega)) (rR (by omega) (by omega))) (by first | decide | omega) (by omega) (by omega) ?_)))
      intro r υ hpost
      obtain ⟨hq, hst⟩ := hpost
      rcases hNP : numP f len a1 2 200 with ⟨u, v⟩ | ⟨z, a2⟩
      · rw [hNP] at hq hP0
        have hu := numP_no hNP
        obtain ⟨rfl, a', st', ha', rfl⟩ := hq
        have hT : TT (ab_st τ 1 (tpc 0 len a' st' u v)) 0 f len (.inl (u, v)) := ⟨by omega, rR (by omega) (by omega), a', st', ha', st_s⟩
        have t1 : (ab_st τ 1 (tpc 0 len a' st' u v)).2 1 = _ := st_s
        have u26 : (ab_st τ 1 (tpc 0 len a' st' u v)).2 26 = _ := st_e (by decide) c6
        refine Exists.intro _ (And.intro (by first | assumption | exact st_s | exact st_e (by decide) (by assumption) | exact st_e (by omega) (by assumption) | exact st_e (by decide) st_s | exact st_e (by omega) st_s | exact st_e (by decide) (st_e (by decide) (by assumption)) | exact st_e (by omega) (st_e (by omega) (by assumption))) ?_)
        refine Exists.intro _ (And.intro (by first | assumption | exact st_s | exact st_e (by decide) (by assumption) | exact st_e (by omega) (by assumption) | exact st_e (by decide) st_s | exact st_e (by omega) st_s | exact st_e (by decide) (st_e (by decide) (by assumption)) | exact st_e (by omega) (st_e (by omega) (by assumption))) (And.intro rfl (ab_inv_ev (q_sound hT) (by first | decide | omega) (by first | exact Nat.le_refl _ | omega) (by first | exact Nat.le_refl _ | omega) ?_)))
        refine And.intro (by first | assumption | exact b2i_R _ | exact rR (by omega) (by omega) | exact rR (by simp only [Int.toNat_natCast]; omega) (by simp only [Int.toNat_natCast]; omega)) (And.intro (fun q => ?_) (fun q => ?_))
        · exact tail _ (u, v) _ _ (hf2.st (Or.inl rfl)) hT ⟨_, _, g1, u26, st_e (by decide) c7⟩ hP0
        · exact absurd rfl q
      · rw [hNP] at hq hP0
        dsimp only at hP0
        have hnk := numP_ok c1 hNP
        obtain ⟨rfl, ha2, st', rfl⟩ := hq
        obtain ⟨x1, x2, x3, hst⟩ := hst hnk.2.2.2.2.1
        have hst' : st' = (skB f len a1 : Nat) := by
          have := congrArg (fun h : ab_H => h.2 1) hst
          rw [st_s, st_s] at this
          cases this
          rfl
        subst hst'
        have hT : TT (ab_st τ 1 (tpc 0 len a2 (skB f len a1 : Nat) 0 (-1))) 0 f len (.inr a2) := ⟨ha2, a2, _, ha2, rfl, st_s⟩
        have t1 : (ab_st τ 1 (tpc 0 len a2 (skB f len a1 : Nat) 0 (-1))).2 1 = some (tpc 0 len a2 (skB f len a1 : Nat) 0 (-1)) := st_s
        have u26 : (ab_st τ 1 (tpc 0 len a2 (skB f len a1 : Nat) 0 (-1))).2 26 = some (ctc k (wtp bs k)) := st_e (by decide) c6
        have u27 : (ab_st τ 1 (tpc 0 len a2 (skB f len a1 : Nat) 0 (-1))).2 27 = _ := st_e (by decide) c7
        have u2 : (ab_st τ 1 (tpc 0 len a2 (skB f len a1 : Nat) 0 (-1))).2 2 = _ := st_e (by decide) r2
        have hf3 : fr ctA σ (ab_st τ 1 (tpc 0 len a2 (skB f len a1 : Nat) 0 (-1))) := hf2.st (Or.inl rfl)
        have hwk := wtp_lt c4 c3
        have hs1 := skB_sp f len a1 c1
        refine Exists.intro _ (And.intro (by first | assumption | exact st_s | exact st_e (by decide) (by assumption) | exact st_e (by omega) (by assumption) | exact st_e (by decide) st_s | exact st_e (by omega) st_s | exact st_e (by decide) (st_e (by decide) (by assumption)) | exact st_e (by omega) (st_e (by omega) (by assumption))) ?_)
        refine Exists.intro _ (And.intro (by first | assumption | exact st_s | exact st_e (by decide) (by assumption) | exact st_e (by omega) (by assumption) | exact st_e (by decide) st_s | exact st_e (by omega) st_s | exact st_e (by decide) (st_e (by decide) (by assumption)) | exact st_e (by omega) (st_e (by omega) (by assumption))) (And.intro rfl (ab_inv_ev (q_sound hT) (by first | decide | omega) (by first | exact Nat.le_refl _ | omega) (by first | exact Nat.le_refl _ | omega) ?_)))
        refine And.intro (by first | assumption | exact b2i_R _ | exact rR (by omega) (by omega) | exact rR (by simp only [Int.toNat_natCast]; omega) (by simp only [Int.toNat_natCast]; omega)) (And.intro (fun q => ?_) (fun q => ?_))
        · exact absurd (show (1 : Int) = 0 from q) (by decide)
        · refine hA 1 _ rfl _ _ _ _ _ ?_
          refine Exists.intro _ (And.intro (by first | assumption | exact st_s | exact st_e (by decide) (by assumption) | exact st_e (by omega) (by assumption) | exact st_e (by decide) st_s | exact st_e (by omega) st_s | exact st_e (by decide) (st_e (by decide) (by assumption)) | exact st_e (by omega) (st_e (by omega) (by assumption))) ?_)
          refine And.intro (And.intro (by first | assumption | exact b2i_R _ | exact rR (by omega) (by omega) | exact rR (by simp only [Int.toNat_natCast]; omega) (by simp only [Int.toNat_natCast]; omega)) (by first | assumption | exact b2i_R _ | exact rR (by omega) (by omega) | exact rR (by simp only [Int.toNat_natCast]; omega) (by simp only [Int.toNat_natCast]; omega))) (And.intro (fun q => ?_) (fun q => ?_))
          · rw [if_neg (by omega)] at hP0
            have hs2 := skB_sp f len a2 ha2
            refine hA 3 _ rfl _ _ _ _ _ ?_
            refine Exists.intro _ (And.intro (by first | assumption | exact st_s | exact st_e (by decide) (by assumption) | exact st_e (by omega) (by assumption) | exact st_e (by decide) st_s | exact st_e (by omega) st_s | exact st_e (by decide) (st_e (by decide) (by assumption)) | exact st_e (by omega) (st_e (by omega) (by assumption))) ?_)
            refine Exists.intro _ (And.intro (by first | assumption | exact st_s | exact st_e (by decide) (by assumption) | exact st_e (by omega) (by assumption) | exact st_e (by decide) st_s | exact st_e (by omega) st_s | exact st_e (by decide) (st_e (by decide) (by assumption)) | exact st_e (by omega) (st_e (by omega) (by assumption))) (And.intro rfl (ab_inv_of (q_end hT u2 hf hl) (by first | decide | omega) (by omega) (by omega) ?_)))
            intro r υ hpost
            obtain ⟨rfl, f4, T4⟩ := hpost
            have hf4 := hf3.tr (f4.mono (fun a h => Or.inl h))
            have v26 : υ.2 26 = some (ctc k (wtp bs k)) := (f4.2 26 (by unfold tA; omega)).trans u26
            have v27 : υ.2 27 = _ := (f4.2 27 (by unfold tA; omega)).trans u27
            by_cases e9 : skB f len a2 < len
            · rw [if_pos e9] at hP0
              have hE : endT f len (.inr a2) = .inl (1, (skB f len a2 : Nat)) := if_pos e9
              rw [hE] at T4
              subst hP0
              obtain ⟨_, _, _, _, -, -, t1⟩ := T4.cell
              refine Exists.intro _ (And.intro (by first | assumption | exact st_s | exact st_e (by decide) (by assumption) | exact st_e (by omega) (by assumption) | exact st_e (by decide) st_s | exact st_e (by omega) st_s | exact st_e (by decide) (st_e (by decide) (by assumption)) | exact st_e (by omega) (st_e (by omega) (by assumption))) ?_)
              refine Exists.intro _ (And.intro (by first | assumption | exact st_s | exact st_e (by decide) (by assumption) | exact st_e (by omega) (by assumption) | exact st_e (by decide) st_s | exact st_e (by omega) st_s | exact st_e (by decide) (st_e (by decide) (by assumption)) | exact st_e (by omega) (st_e (by omega) (by assumption))) (And.intro rfl (ab_inv_ev (q_sound T4) (by first | decide | omega) (by first | exact Nat.le_refl _ | omega) (by first | exact Nat.le_refl _ | omega) ?_)))
              refine And.intro (by first | assumption | exact b2i_R _ | exact rR (by omega) (by omega) | exact rR (by simp only [Int.toNat_natCast]; omega) (by simp only [Int.toNat_natCast]; omega)) (And.intro (fun q => ?_) (fun q => ?_))
              · refine hA 8 _ rfl _ _ _ _ _ ?_
                refine hA 9 _ rfl _ _ _ _ _ ?_
                exact ⟨⟨_, _, g1, v26, v27⟩, rfl, T4.1, T4.2.1, T4.2.2, hf4⟩
              · exact absurd rfl q
            · rw [if_neg e9] at hP0
              have hE : endT f len (.inr a2) = .inr a2 := if_neg e9
              rw [hE] at T4
              subst hP0
              obtain ⟨_, _, _, _, -, -, t1⟩ := T4.cell
              have hob : okb z.toNat k bs := ⟨c2, c3, c4, by omega, by omega, by omega⟩
              have hz : ((z.toNat : Nat) : Int) = z := by omega
              have hu1 : υ.1 = σ.1 := hf4.1
              have hci := c_colInit (σ := ab_nw υ (.inl (3, [.inl 0, .inl 0, .inl 0, .inr (.inl none), .inr (.inl none), .inr (.inl none), .inr (.inl none), .inr (.inl none)]))) (h := υ.1) (ρ := (i == 1)) (card := z.toNat) (parts := k) (b := bs) (bb := g1) nw_s rfl (by omega) (nw_e (by omega) v27) c8 hob
              rw [hz] at hci
              refine Exists.intro _ (And.intro (by first | assumption | exact st_s | exact st_e (by decide) (by assumption) | exact st_e (by omega) (by assumption) | exact st_e (by decide) st_s | exact st_e (by omega) st_s | exact st_e (by decide) (st_e (by decide) (by assumption)) | exact st_e (by omega) (st_e (by omega) (by assumption))) ?_)
              refine Exists.intro _ (And.intro (by first | assumption | exact st_s | exact st_e (by decide) (by assumption) | exact st_e (by omega) (by assumption) | exact st_e (by decide) st_s | exact st_e (by omega) st_s | exact st_e (by decide) (st_e (by decide) (by assumption)) | exact st_e (by omega) (st_e (by omega) (by assumption))) (And.intro rfl (ab_inv_ev (q_sound T4) (by first | decide | omega) (by first | exact Nat.le_refl _ | omega) (by first | exact Nat.le_refl _ | omega) ?_)))
              refine And.intro (by first | assumption | exact b2i_R _ | exact rR (by omega) (by omega) | exact rR (by simp only [Int.toNat_natCast]; omega) (by simp only [Int.toNat_natCast]; omega)) (And.intro (fun q => ?_) (fun q => ?_))
              · exact absurd (show (1 : Int) = 0 from q) (by decide)
              · have k7 : ∀ (y : Int) (kk nn : Nat), y = b2i (i == 1) → kk ≤ 1 → nn ≤ 8 → At 7 [some (rf 26), some (.inl ((i : Nat) : Int)), some (.inl z)] [.inl y, rf υ.1, rf υ.1] (ab_nw υ (.inl (3, [.inl 0, .inl 0, .inl 0, .inr (.inl none), .inr (.inl none), .inr (.inl none), .inr (.inl none), .inr (.inl none)]))) kk nn := fun y kk nn hy hkk hnn => by
                  subst hy
                  have w26 : (ab_nw υ (.inl (3, [.inl 0, .inl 0, .inl 0, .inr (.inl none), .inr (.inl none), .inr (.inl none), .inr (.inl none), .inr (.inl none)]))).2 26 = _ := nw_e (by omega) v26
                  refine hA 7 _ rfl _ _ _ _ _ ?_
                  refine Exists.intro _ (And.intro (w26) ?_)
                  refine Exists.intro _ (And.intro (w26) ?_)
                  refine And.intro rfl (ab_inv_of hci (by decide) (by show kk + _ ≤ colM (.inr ((i == 1), z.toNat, k, bs)); unfold colM; dsimp only; omega) (by show nn + _ ≤ colN (.inr ((i == 1), z.toNat, k, bs)); unfold colN; dsimp only; omega) ?_)
                  intro r ω hpost
                  obtain ⟨rfl, d1, d2, d3⟩ := hpost
                  refine hA 9 _ rfl _ _ _ _ _ ?_
                  rw [hu1] at d1 d2 d3
                  have dd : ∀ a, a < σ.1 → ω.2 a = υ.2 a := fun a ha => (d2 a ha).trans (ab_up_n (by omega))
                  refine ⟨⟨_, _, g1, (dd 26 (by omega)).trans v26, (dd 27 (by omega)).trans v27⟩, by rw [hu1], ?_, hob, d1, d3, fun a ha hn => (dd a ha).trans (hf4.2 a hn)⟩
                  obtain ⟨b1, x, stx, b2, b3, b4⟩ := T4
                  exact ⟨x, stx, b2, (dd 1 (by omega)).trans b4⟩
                refine hA 4 _ rfl _ _ _ _ _ ?_
                refine And.intro ⟨by show 0 + 0 + 0 + 0 + 1 ≤ colM (.inr ((i == 1), z.toNat, k, bs)); unfold colM; dsimp only; omega, by show 0 + 0 + 0 + 0 + 8 ≤ colN (.inr ((i == 1), z.toNat, k, bs)); unfold colN; dsimp only; omega⟩ ?_
                refine And.intro (And.intro (rR (by show (-2147483648 : Int) ≤ ((i : Nat) : Int); omega) (by show ((i : Nat) : Int) < 2147483648; omega)) (rR (by omega) (by omega))) (And.intro (fun q2 => ?_) (fun q2 => ?_))
                · have q2 : ((i : Nat) : Int) ≠ 1 := q2
                  refine hA 6 _ rfl _ _ _ _ _ ?_
                  exact k7 0 _ _ (by rw [beq_eq_false_iff_ne.mpr (show i ≠ 1 by omega)]; rfl) (by omega) (by show 0 + 0 + 0 + 0 + 8 ≤ 8; omega)
                · have q2 : ((i : Nat) : Int) = 1 := q2
                  refine hA 5 _ rfl _ _ _ _ _ ?_
                  exact k7 1 _ _ (by rw [beq_iff_eq.mpr (show i = 1 by omega)]; rfl) (by omega) (by show 0 + 0 + 0 + 0 + 8 ≤ 8; omega)
          · rw [if_pos (by omega)] at hP0
            refine hA 2 _ rfl _ _ _ _ _ ?_
            refine Exists.intro _ (And.intro (by first | assumption | exact st_s | exact st_e (by decide) (by assumption) | exact st_e (by omega) (by assumption) | exact st_e (by decide) st_s | exact st_e (by omega) st_s | exact st_e (by decide) (st_e (by decide) (by assumption)) | exact st_e (by omega) (st_e (by omega) (by assumption))) ?_)
            refine Exists.intro _ (And.intro (by first | assumption | exact st_s | exact st_e (by decide) (by assumption) | exact st_e (by omega) (by assumption) | exact st_e (by decide) st_s | exact st_e (by omega) st_s | exact st_e (by decide) (st_e (by decide) (by assumption)) | exact st_e (by omega) (st_e (by omega) (by assumption))) ?_)
            refine Exists.intro _ (And.intro (by first | assumption | exact st_s | exact st_e (by decide) (by assumption) | exact st_e (by omega) (by assumption) | exact st_e (by decide) st_s | exact st_e (by omega) st_s | exact st_e (by decide) (st_e (by decide) (by assumption)) | exact st_e (by omega) (st_e (by omega) (by assumption))) ?_)
            refine Exists.intro _ (And.intro (by first | assumption | exact st_s | exact st_e (by decide) (by assumption) | exact st_e (by omega) (by assumption) | exact st_e (by decide) st_s | exact st_e (by omega) st_s | exact st_e (by decide) (st_e (by decide) (by assumption)) | exact st_e (by omega) (st_e (by omega) (by assumption))) (And.intro rfl (ab_inv_of (q_fail hT 4 (skB f len a1 : Nat) (by decide) (rR (by omega) (by omega))) (by first | decide | omega) (by omega) (by omega) ?_)))
            intro r υ hpost
            obtain ⟨rfl, f4, T4⟩ := hpost
            exact tail υ _ _ _ (hf3.tr (f4.mono (fun a h => Or.inl h))) T4 ⟨_, _, g1, (f4.2 26 (by unfold tA; omega)).trans u26, (f4.2 27 (by unfold tA; omega)).trans u27⟩ hP0
end ColRead
