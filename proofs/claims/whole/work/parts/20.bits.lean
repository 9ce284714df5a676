-- ===== shifts, complements; checks over all masks =====
theorem nb_k : ∀ k, k < 32 → ((Int32.ofInt (k : Nat) &&& 31).toBitVec.smod 32).toNat = k := by decide +kernel
theorem nb_u : ∀ k, k < 32 → (((Int32.ofInt (k : Nat)).toUInt32 &&& Int32.toUInt32 31).toBitVec % 32).toNat = k := by decide +kernel
theorem nb_shl {a k : Nat} (hk : k < 31) (h : a * 2 ^ k < 2147483648) : ab_shl a k = ((a * 2 ^ k : Nat) : Int) := by
  unfold ab_shl
  have := pk_shlN (n := a) (Int32.ofInt (k : Nat) &&& 31) k (nb_k k (by omega)) (by omega)
  show (nI a <<< _).toInt = _
  rw [this]
  exact nI_toInt (by omega)
theorem nb_shr {a k : Nat} (hk : k < 32) (h : a < 2147483648) : ab_shr a k = ((a / 2 ^ k : Nat) : Int) := by
  unfold ab_shr
  have := pk_shrN (n := a) (by omega) (Int32.ofInt (k : Nat) &&& 31) k (nb_k k hk)
  show (nI a >>> _).toInt = _
  rw [this]
  exact nI_toInt (Nat.lt_of_le_of_lt (Nat.div_le_self _ _) (by omega))
theorem nb_ushr {a k : Nat} (hk : k < 32) (h : a < 2147483648) : ab_ushr a k = ((a / 2 ^ k : Nat) : Int) := by
  unfold ab_ushr
  have := pk_ushrN (n := a) (by omega) (Int32.ofInt (k : Nat)) k (nb_u k hk)
  show (((nI a).toUInt32 >>> _).toInt32).toInt = _
  rw [this]
  exact nI_toInt (Nat.lt_of_le_of_lt (Nat.div_le_self _ _) (by omega))
/-- b without a -/
def wo (b a : Nat) : Nat := b ^^^ (b &&& a)
theorem wo_bit (b a i : Nat) : (wo b a).testBit i = (b.testBit i && !a.testBit i) := by
  unfold wo
  rw [Nat.testBit_xor, Nat.testBit_and]
  cases b.testBit i <;> cases a.testBit i <;> rfl
theorem wo_le (b a : Nat) : wo b a ≤ b := by
  apply Nat.le_of_testBit
  intro i
  rw [wo_bit]
  cases b.testBit i <;> simp
theorem nb_not {a b : Nat} (ha : a < 2147483648) (hb : b < 2147483648) : ab_and b (ab_xor a (-1)) = ((wo b a : Nat) : Int) := by
  have e : Int32.ofInt (ab_xor a (-1)) = Int32.ofInt (a : Int) ^^^ Int32.ofInt (-1) := by unfold ab_xor; rw [ab_of]
  unfold ab_and
  rw [e]
  refine nb_int (Nat.lt_of_le_of_lt (wo_le b a) hb) ?_
  rw [Int32.toBitVec_and, Int32.toBitVec_xor, nb_of ha, nb_of hb]
  apply BitVec.eq_of_getLsbD_eq
  intro i hi
  rw [BitVec.getLsbD_and, BitVec.getLsbD_xor, BitVec.getLsbD_ofNat, BitVec.getLsbD_ofNat, BitVec.getLsbD_ofNat, wo_bit]
  have e2 : (Int32.ofInt (-1)).toBitVec = BitVec.allOnes 32 := by decide
  rw [e2, BitVec.getLsbD_allOnes]
  simp [hi]
theorem nb_not' {a b : Nat} (ha : a < 2147483648) (hb : b < 2147483648) : ab_and (ab_xor a (-1)) b = ((wo b a : Nat) : Int) := by
  rw [← nb_not ha hb]
  unfold ab_and
  rw [Int32.and_comm]
/-- a check over 2 ^ k numbers from lo on -/
def al_2 (p : Nat → Bool) : Nat → Nat → Bool
  | 0, lo => p lo
  | k + 1, lo => al_2 p k lo && al_2 p k (lo + 2 ^ k)
theorem al_of {p : Nat → Bool} : ∀ k lo, al_2 p k lo = true → ∀ j, lo ≤ j → j < lo + 2 ^ k → p j = true := by
  intro k
  induction k with
  | zero =>
    intro lo h j h1 h2
    have : j = lo := by simp at h2; omega
    rw [this]; exact h
  | succ k ih =>
    intro lo h j h1 h2
    have h := (Bool.and_eq_true _ _).mp h
    rw [Nat.pow_succ] at h2
    by_cases q : j < lo + 2 ^ k
    · exact ih lo h.1 j h1 q
    · exact ih (lo + 2 ^ k) h.2 j (by omega) (by omega)
/-- how many of the first k bits are 1 -/
def pop (z : Nat) : Nat → Nat
  | 0 => 0
  | k + 1 => pop z k + (z.testBit k).toNat
/-- the lowest 1 among the bits from i on, n of them looked at -/
def lob (z : Nat) : Nat → Nat → Nat
  | i, 0 => i
  | i, n + 1 => if z.testBit i then i else lob z (i + 1) n
/-- the highest 1 among the first n bits, less than n -/
def hib (z : Nat) : Nat → Nat
  | 0 => 0
  | n + 1 => if z.testBit n then n else hib z n
def bc_1 (z : Nat) : Nat := Nat.sub z (Nat.land (Nat.div z 2) 1431655765)
def bc_2 (z : Nat) : Nat := Nat.add (Nat.land z 858993459) (Nat.land (Nat.div z 4) 858993459)
def bc_3 (z : Nat) : Nat := Nat.land (Nat.add z (Nat.div z 16)) 252645135
def bc_4 (z : Nat) : Nat := Nat.add z (Nat.div z 256)
def bc_5 (z : Nat) : Nat := Nat.add z (Nat.div z 65536)
def bc_f (z : Nat) : Nat := Nat.land (bc_5 (bc_4 (bc_3 (bc_2 (bc_1 z))))) 63
def bc_p (z : Nat) : Nat := Nat.add (Nat.mod z 2) (Nat.add (Nat.mod (Nat.div z 2) 2) (Nat.add (Nat.mod (Nat.div z 4) 2) (Nat.add (Nat.mod (Nat.div z 8) 2) (Nat.add (Nat.mod (Nat.div z 16) 2) (Nat.add (Nat.mod (Nat.div z 32) 2) (Nat.add (Nat.mod (Nat.div z 64) 2) (Nat.add (Nat.mod (Nat.div z 128) 2) (Nat.add (Nat.mod (Nat.div z 256) 2) (Nat.add (Nat.mod (Nat.div z 512) 2) (Nat.add (Nat.mod (Nat.div z 1024) 2) (Nat.add (Nat.mod (Nat.div z 2048) 2) (Nat.add (Nat.mod (Nat.div z 4096) 2) (Nat.add (Nat.mod (Nat.div z 8192) 2) (Nat.mod (Nat.div z 16384) 2))))))))))))))
def al_r (p : Nat → Bool) (k : Nat) : Nat → Bool := Nat.rec (motive := fun _ => Nat → Bool) (fun lo => p lo) (fun k ih lo => and (ih lo) (ih (Nat.add lo (Nat.pow 2 k)))) k
theorem al_r2 (p : Nat → Bool) : ∀ k lo, al_r p k lo = al_2 p k lo := by
  intro k
  induction k with
  | zero => intro lo; rfl
  | succ k ih =>
    intro lo
    show (al_r p k lo && al_r p k (lo + 2 ^ k)) = (al_2 p k lo && al_2 p k (lo + 2 ^ k))
    rw [ih, ih]
theorem bc_q (z k : Nat) : (z.testBit k).toNat = z / 2 ^ k % 2 := by
  rw [Nat.testBit_eq_decide_div_mod_eq]
  rcases Nat.mod_two_eq_zero_or_one (z / 2 ^ k) with h | h <;> rw [h] <;> rfl
theorem bc_pp (z : Nat) : pop z 15 = bc_p z := by
  simp only [pop, bc_q]
  unfold bc_p
  show _ = z % 2 + (z / 2 % 2 + (z / 4 % 2 + (z / 8 % 2 + (z / 16 % 2 + (z / 32 % 2 + (z / 64 % 2 + (z / 128 % 2 + (z / 256 % 2 + (z / 512 % 2 + (z / 1024 % 2 + (z / 2048 % 2 + (z / 4096 % 2 + (z / 8192 % 2 + z / 16384 % 2)))))))))))))
  simp only [Nat.reducePow]
  omega
theorem bc_ok0 : al_r (fun z => Nat.beq (bc_f z) (bc_p z)) 14 0 = true := by decide +kernel
theorem bc_ok1 : al_r (fun z => Nat.beq (bc_f z) (bc_p z)) 14 16384 = true := by decide +kernel
theorem bc_ok {z : Nat} (h : z < 32768) : bc_f z = pop z 15 := by
  rw [bc_pp]
  by_cases q : z < 16384
  · exact Nat.eq_of_beq_eq_true (al_of 14 0 (by rw [← al_r2]; exact bc_ok0) z (Nat.zero_le _) (by omega))
  · exact Nat.eq_of_beq_eq_true (al_of 14 16384 (by rw [← al_r2]; exact bc_ok1) z (by omega) (by omega))
theorem bc_lt {z : Nat} (h : z < 2147483648) : bc_1 z < 2147483648 ∧ bc_2 (bc_1 z) < 2000000000 ∧ bc_3 (bc_2 (bc_1 z)) ≤ 252645135 := by
  have h1 : bc_1 z ≤ z := Nat.sub_le _ _
  have h2 : bc_2 (bc_1 z) ≤ 858993459 + 858993459 := Nat.add_le_add Nat.and_le_right Nat.and_le_right
  exact ⟨by omega, by omega, Nat.and_le_right⟩
set_option maxRecDepth 100000 in
set_option maxHeartbeats 1000000 in
theorem c_bitCount (σ : ab_H) (z : Nat) (h : z < 32768) : ab_ev 1 yJ6_bitCount_0f7a4 [.inl z] σ (some (.inl (pop z 15))) σ := by
  have hz : z < 2147483648 := by omega
  obtain ⟨l1, l2, l3⟩ := bc_lt hz
  have e1 : (z : Int) - ab_and (ab_ushr z 1) ((1431655765 : Nat) : Int) = ((bc_1 z : Nat) : Int) := by
    rw [show ab_ushr (z : Int) 1 = _ from nb_ushr (k := 1) (by omega) hz, show ab_and ((z / 2 ^ 1 : Nat) : Int) ((1431655765 : Nat) : Int) = _ from nb_and (b := 1431655765) (by omega) (by omega)]
    have : (z / 2 &&& 1431655765) ≤ z := Nat.le_trans Nat.and_le_left (by omega)
    show (z : Int) - ((z / 2 &&& 1431655765 : Nat) : Int) = _
    have e9 : bc_1 z = z - (z / 2 &&& 1431655765) := rfl
    omega
  have e2 : ab_and (bc_1 z : Nat) ((858993459 : Nat) : Int) + ab_and (ab_ushr (bc_1 z : Nat) 2) ((858993459 : Nat) : Int) = ((bc_2 (bc_1 z) : Nat) : Int) := by
    rw [show ab_ushr ((bc_1 z : Nat) : Int) 2 = _ from nb_ushr (k := 2) (by omega) l1, show ab_and ((bc_1 z / 2 ^ 2 : Nat) : Int) ((858993459 : Nat) : Int) = _ from nb_and (b := 858993459) (by omega) (by omega), show ab_and ((bc_1 z : Nat) : Int) ((858993459 : Nat) : Int) = _ from nb_and (b := 858993459) l1 (by omega)]
    rfl
  have e3 : ab_and ((bc_2 (bc_1 z) : Nat) + ab_ushr (bc_2 (bc_1 z) : Nat) 4) ((252645135 : Nat) : Int) = ((bc_3 (bc_2 (bc_1 z)) : Nat) : Int) := by
    rw [show ab_ushr ((bc_2 (bc_1 z) : Nat) : Int) 4 = _ from nb_ushr (k := 4) (by omega) (by omega)]
    have := nb_and (a := bc_2 (bc_1 z) + bc_2 (bc_1 z) / 2 ^ 4) (b := 252645135) (by omega) (by omega)
    rw [Int.natCast_add] at this
    exact this
  generalize hw : bc_3 (bc_2 (bc_1 z)) = w at e3 l3
  have e4 : ((w : Nat) : Int) + ab_ushr w 8 = ((bc_4 w : Nat) : Int) := by
    rw [show ab_ushr (w : Int) 8 = _ from nb_ushr (k := 8) (by omega) (by omega)]
    rfl
  have l4 : bc_4 w < 1000000000 := (show w + w / 256 < 1000000000 by omega)
  have e5 : ((bc_4 w : Nat) : Int) + ab_ushr (bc_4 w : Nat) 16 = ((bc_5 (bc_4 w) : Nat) : Int) := by
    rw [show ab_ushr ((bc_4 w : Nat) : Int) 16 = _ from nb_ushr (k := 16) (by omega) (by omega)]
    rfl
  have l5 : bc_5 (bc_4 w) < 2147483648 := (show bc_4 w + bc_4 w / 65536 < 2147483648 by omega)
  have e6 : ab_and (bc_5 (bc_4 w) : Nat) 63 = ((pop z 15 : Nat) : Int) := by
    rw [show ab_and ((bc_5 (bc_4 w) : Nat) : Int) 63 = _ from nb_and (b := 63) l5 (by omega), ← bc_ok h]
    unfold bc_f
    rw [hw]
    rfl
  refine eJ6_bitCount_0f7a4 rfl (fun At hA => ?_)
  refine hA 0 _ rfl _ _ _ _ _ ?_
  refine And.intro ?_ rfl
  have f1 : ∀ a b c d e : Int, a = ((bc_1 z : Nat) : Int) → b = ab_and a ((858993459 : Nat) : Int) + ab_and (ab_ushr a 2) ((858993459 : Nat) : Int) → c = ab_and (b + ab_ushr b 4) ((252645135 : Nat) : Int) → d = c + ab_ushr c 8 → e = d + ab_ushr d 16 → ab_and e 63 = ((pop z 15 : Nat) : Int) := by
    intro a b c d e ha hb hc hd he
    subst ha
    rw [e2] at hb; subst hb
    rw [e3] at hc; subst hc
    rw [e4] at hd; subst hd
    rw [e5] at he; subst he
    exact e6
  exact congrArg (fun q : Int => (Sum.inl (some (Sum.inl q)) : ab_O)) (f1 _ _ _ _ _ e1 rfl rfl rfl rfl)
