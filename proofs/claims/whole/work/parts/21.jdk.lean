def lo_p (z : Nat) : Nat := (cond (Nat.beq (Nat.mod (Nat.div z 1) 2) 1) 0 (cond (Nat.beq (Nat.mod (Nat.div z 2) 2) 1) 1 (cond (Nat.beq (Nat.mod (Nat.div z 4) 2) 1) 2 (cond (Nat.beq (Nat.mod (Nat.div z 8) 2) 1) 3 (cond (Nat.beq (Nat.mod (Nat.div z 16) 2) 1) 4 (cond (Nat.beq (Nat.mod (Nat.div z 32) 2) 1) 5 (cond (Nat.beq (Nat.mod (Nat.div z 64) 2) 1) 6 (cond (Nat.beq (Nat.mod (Nat.div z 128) 2) 1) 7 (cond (Nat.beq (Nat.mod (Nat.div z 256) 2) 1) 8 (cond (Nat.beq (Nat.mod (Nat.div z 512) 2) 1) 9 (cond (Nat.beq (Nat.mod (Nat.div z 1024) 2) 1) 10 (cond (Nat.beq (Nat.mod (Nat.div z 2048) 2) 1) 11 (cond (Nat.beq (Nat.mod (Nat.div z 4096) 2) 1) 12 (cond (Nat.beq (Nat.mod (Nat.div z 8192) 2) 1) 13 (cond (Nat.beq (Nat.mod (Nat.div z 16384) 2) 1) 14 15)))))))))))))))
theorem lo_bit (z k : Nat) : z.testBit k = Nat.beq (z / 2 ^ k % 2) 1 := by
  rw [Nat.testBit_eq_decide_div_mod_eq]
  rcases Nat.mod_two_eq_zero_or_one (z / 2 ^ k) with h | h <;> rw [h] <;> rfl
theorem lo_pp (z : Nat) : lob z 0 15 = lo_p z := by
  simp only [lob, lo_bit, Nat.zero_add, Nat.reduceAdd, Nat.reducePow, Nat.div_one]
  unfold lo_p
  show _ = (cond (Nat.beq (z / 1 % 2) 1) 0 (cond (Nat.beq (z / 2 % 2) 1) 1 (cond (Nat.beq (z / 4 % 2) 1) 2 (cond (Nat.beq (z / 8 % 2) 1) 3 (cond (Nat.beq (z / 16 % 2) 1) 4 (cond (Nat.beq (z / 32 % 2) 1) 5 (cond (Nat.beq (z / 64 % 2) 1) 6 (cond (Nat.beq (z / 128 % 2) 1) 7 (cond (Nat.beq (z / 256 % 2) 1) 8 (cond (Nat.beq (z / 512 % 2) 1) 9 (cond (Nat.beq (z / 1024 % 2) 1) 10 (cond (Nat.beq (z / 2048 % 2) 1) 11 (cond (Nat.beq (z / 4096 % 2) 1) 12 (cond (Nat.beq (z / 8192 % 2) 1) 13 (cond (Nat.beq (z / 16384 % 2) 1) 14 15)))))))))))))))
  simp only [Nat.div_one, Bool.cond_eq_ite]
def nt_x (z : Nat) : Nat := Nat.xor (Nat.sub z 1) (Nat.land (Nat.sub z 1) z)
def nt_10 (n x : Nat) : Nat := Nat.add n (Nat.div x 2)
def nt_8 (n x : Nat) : Nat := cond (Nat.ble x 4) (nt_10 n x) (nt_10 (Nat.add n 2) (Nat.div x 4))
def nt_6 (n x : Nat) : Nat := cond (Nat.ble x 16) (nt_8 n x) (nt_8 (Nat.add n 4) (Nat.div x 16))
def nt_4 (n x : Nat) : Nat := cond (Nat.ble x 256) (nt_6 n x) (nt_6 (Nat.add n 8) (Nat.div x 256))
def nt_f (z : Nat) : Nat := cond (Nat.beq (nt_x z) 0) 0 (nt_4 1 (nt_x z))
theorem nt_ok0 : al_r (fun z => or (Nat.beq z 0) (Nat.beq (nt_f z) (lo_p z))) 14 0 = true := by decide +kernel
theorem nt_ok1 : al_r (fun z => or (Nat.beq z 0) (Nat.beq (nt_f z) (lo_p z))) 14 16384 = true := by decide +kernel
theorem nt_ok {z : Nat} (h : z < 32768) (h0 : z ≠ 0) : nt_f z = lob z 0 15 := by
  rw [lo_pp]
  have : (or (Nat.beq z 0) (Nat.beq (nt_f z) (lo_p z))) = true := by
    by_cases q : z < 16384
    · exact al_of 14 0 (by rw [← al_r2]; exact nt_ok0) z (Nat.zero_le _) (by omega)
    · exact al_of 14 16384 (by rw [← al_r2]; exact nt_ok1) z (by omega) (by omega)
  rcases Bool.or_eq_true _ _ |>.mp this with q | q
  · exact absurd (Nat.eq_of_beq_eq_true q) h0
  · exact Nat.eq_of_beq_eq_true q
set_option maxRecDepth 100000 in
set_option maxHeartbeats 1000000 in
theorem c_ntz (σ : ab_H) (z : Nat) (h : z < 32768) (h0 : z ≠ 0) : ab_ev 1 yJ6_numberOfTrailingZeros_0f7a4 [.inl z] σ (some (.inl (lob z 0 15))) σ := by
  have e0 : ab_and (ab_xor z (-1)) ((z : Int) - 1) = ((nt_x z : Nat) : Int) := by
    rw [show (z : Int) - 1 = ((z - 1 : Nat) : Int) by omega, nb_not' (by omega) (by omega)]
    rfl
  have hx : nt_x z < 32768 := by
    have : nt_x z = wo (z - 1) z := rfl
    have := wo_le (z - 1) z
    omega
  rw [← nt_ok h h0]
  generalize hxx : nt_x z = x at e0 hx
  have hf : nt_f z = cond (Nat.beq x 0) 0 (nt_4 1 x) := by unfold nt_f; rw [hxx]
  rw [hf]
  refine eJ6_numberOfTrailingZeros_0f7a4 rfl (fun At hA => ?_)
  have k10 : ∀ n x : Nat, x < 32768 → n < 100 → ((cond (Nat.beq (nt_x z) 0) 0 (nt_4 1 (nt_x z)) : Nat)) = nt_10 n x → At 10 [some (.inl x), some (.inl n)] [] σ 0 0 := fun n x hx hn hq => by
    refine hA 10 _ rfl _ _ _ _ _ ?_
    rw [hxx] at hq
    refine And.intro ?_ rfl
    rw [hq, show ab_ushr (x : Int) 1 = _ from nb_ushr (k := 1) (by omega) (by omega)]
    rfl
  have k8 : ∀ n x : Nat, x < 32768 → n < 90 → ((cond (Nat.beq (nt_x z) 0) 0 (nt_4 1 (nt_x z)) : Nat)) = nt_8 n x → At 8 [some (.inl x), some (.inl n)] [] σ 0 0 := fun n x hx hn hq => by
    refine hA 8 _ rfl _ _ _ _ _ ?_
    refine And.intro (And.intro (by exact rR (by omega) (by omega)) (by exact rR (by omega) (by omega))) (And.intro (fun q => ?_) (fun q => ?_))
    · exact k10 n x hx (by omega) (by rw [hq]; unfold nt_8; rw [show Nat.ble x 4 = true from Nat.ble_eq.mpr (by omega)]; rfl)
    · refine hA 9 _ rfl _ _ _ _ _ ?_
      have := k10 (n + 2) (x / 4) (by omega) (by omega) (by rw [hq]; unfold nt_8; rw [show Nat.ble x 4 = false from by rw [← Bool.not_eq_true, Nat.ble_eq]; omega]; rfl)
      have e : ab_ushr (x : Int) 2 = ((x / 4 : Nat) : Int) := nb_ushr (k := 2) (by omega) (by omega)
      rw [← e] at this
      exact this
  have k6 : ∀ n x : Nat, x < 32768 → n < 80 → ((cond (Nat.beq (nt_x z) 0) 0 (nt_4 1 (nt_x z)) : Nat)) = nt_6 n x → At 6 [some (.inl x), some (.inl n)] [] σ 0 0 := fun n x hx hn hq => by
    refine hA 6 _ rfl _ _ _ _ _ ?_
    refine And.intro (And.intro (by exact rR (by omega) (by omega)) (by exact rR (by omega) (by omega))) (And.intro (fun q => ?_) (fun q => ?_))
    · exact k8 n x hx (by omega) (by rw [hq]; unfold nt_6; rw [show Nat.ble x 16 = true from Nat.ble_eq.mpr (by omega)]; rfl)
    · refine hA 7 _ rfl _ _ _ _ _ ?_
      have := k8 (n + 4) (x / 16) (by omega) (by omega) (by rw [hq]; unfold nt_6; rw [show Nat.ble x 16 = false from by rw [← Bool.not_eq_true, Nat.ble_eq]; omega]; rfl)
      have e : ab_ushr (x : Int) 4 = ((x / 16 : Nat) : Int) := nb_ushr (k := 4) (by omega) (by omega)
      rw [← e] at this
      exact this
  have k4 : ∀ n x : Nat, x < 32768 → n < 70 → ((cond (Nat.beq (nt_x z) 0) 0 (nt_4 1 (nt_x z)) : Nat)) = nt_4 n x → At 4 [some (.inl x), some (.inl n)] [] σ 0 0 := fun n x hx hn hq => by
    refine hA 4 _ rfl _ _ _ _ _ ?_
    refine And.intro (And.intro (by exact rR (by omega) (by omega)) (by exact rR (by omega) (by omega))) (And.intro (fun q => ?_) (fun q => ?_))
    · exact k6 n x hx (by omega) (by rw [hq]; unfold nt_4; rw [show Nat.ble x 256 = true from Nat.ble_eq.mpr (by omega)]; rfl)
    · refine hA 5 _ rfl _ _ _ _ _ ?_
      have := k6 (n + 8) (x / 256) (by omega) (by omega) (by rw [hq]; unfold nt_4; rw [show Nat.ble x 256 = false from by rw [← Bool.not_eq_true, Nat.ble_eq]; omega]; rfl)
      have e : ab_ushr (x : Int) 8 = ((x / 256 : Nat) : Int) := nb_ushr (k := 8) (by omega) (by omega)
      rw [← e] at this
      exact this
  have key : ∀ w : Int, w = (x : Int) → (0 < w → At 2 [some (.inl w), none] [] σ 0 0) ∧ (w ≤ 0 → At 1 [some (.inl w), none] [] σ 0 0) := fun w hw => by
    subst hw
    refine And.intro (fun q => ?_) (fun q => ?_)
    · refine hA 2 _ rfl _ _ _ _ _ ?_
      refine And.intro (And.intro (by exact rR (by omega) (by omega)) (by exact rR (by omega) (by omega))) (And.intro (fun q => ?_) (fun q => ?_))
      · exact k4 1 x hx (by omega) (by rw [hxx, show Nat.beq x 0 = false from by rw [← Bool.not_eq_true, Nat.beq_eq]; omega]; rfl)
      · omega
    · have hx0 : x = 0 := by omega
      subst hx0
      refine hA 1 _ rfl _ _ _ _ _ ?_
      exact ⟨by decide, rfl⟩
  refine hA 0 _ rfl _ _ _ _ _ ?_
  exact And.intro (by rw [e0]; exact rR (by omega) (by omega)) (key _ e0)
def hi_p (z : Nat) : Nat := (cond (Nat.beq (Nat.mod (Nat.div z 16384) 2) 1) 14 (cond (Nat.beq (Nat.mod (Nat.div z 8192) 2) 1) 13 (cond (Nat.beq (Nat.mod (Nat.div z 4096) 2) 1) 12 (cond (Nat.beq (Nat.mod (Nat.div z 2048) 2) 1) 11 (cond (Nat.beq (Nat.mod (Nat.div z 1024) 2) 1) 10 (cond (Nat.beq (Nat.mod (Nat.div z 512) 2) 1) 9 (cond (Nat.beq (Nat.mod (Nat.div z 256) 2) 1) 8 (cond (Nat.beq (Nat.mod (Nat.div z 128) 2) 1) 7 (cond (Nat.beq (Nat.mod (Nat.div z 64) 2) 1) 6 (cond (Nat.beq (Nat.mod (Nat.div z 32) 2) 1) 5 (cond (Nat.beq (Nat.mod (Nat.div z 16) 2) 1) 4 (cond (Nat.beq (Nat.mod (Nat.div z 8) 2) 1) 3 (cond (Nat.beq (Nat.mod (Nat.div z 4) 2) 1) 2 (cond (Nat.beq (Nat.mod (Nat.div z 2) 2) 1) 1 (cond (Nat.beq (Nat.mod (Nat.div z 1) 2) 1) 0 0)))))))))))))))
theorem hi_pp (z : Nat) : hib z 15 = hi_p z := by
  simp only [hib, lo_bit, Nat.reducePow, Nat.div_one]
  unfold hi_p
  show _ = (cond (Nat.beq (z / 16384 % 2) 1) 14 (cond (Nat.beq (z / 8192 % 2) 1) 13 (cond (Nat.beq (z / 4096 % 2) 1) 12 (cond (Nat.beq (z / 2048 % 2) 1) 11 (cond (Nat.beq (z / 1024 % 2) 1) 10 (cond (Nat.beq (z / 512 % 2) 1) 9 (cond (Nat.beq (z / 256 % 2) 1) 8 (cond (Nat.beq (z / 128 % 2) 1) 7 (cond (Nat.beq (z / 64 % 2) 1) 6 (cond (Nat.beq (z / 32 % 2) 1) 5 (cond (Nat.beq (z / 16 % 2) 1) 4 (cond (Nat.beq (z / 8 % 2) 1) 3 (cond (Nat.beq (z / 4 % 2) 1) 2 (cond (Nat.beq (z / 2 % 2) 1) 1 (cond (Nat.beq (z / 1 % 2) 1) 0 0)))))))))))))))
  simp only [Nat.div_one, Bool.cond_eq_ite]
def nl_13 (n x : Nat) : Nat := Nat.sub n (Nat.div x 2)
def nl_11 (n x : Nat) : Nat := cond (Nat.ble 4 x) (nl_13 (Nat.sub n 2) (Nat.div x 4)) (nl_13 n x)
def nl_9 (n x : Nat) : Nat := cond (Nat.ble 16 x) (nl_11 (Nat.sub n 4) (Nat.div x 16)) (nl_11 n x)
def nl_7 (n x : Nat) : Nat := cond (Nat.ble 256 x) (nl_9 (Nat.sub n 8) (Nat.div x 256)) (nl_9 n x)
theorem nl_ok0 : al_r (fun z => or (Nat.beq z 0) (Nat.beq (Nat.add (nl_7 31 z) (hi_p z)) 31)) 14 0 = true := by decide +kernel
theorem nl_ok1 : al_r (fun z => or (Nat.beq z 0) (Nat.beq (Nat.add (nl_7 31 z) (hi_p z)) 31)) 14 16384 = true := by decide +kernel
theorem nl_ok {z : Nat} (h : z < 32768) (h0 : z ≠ 0) : nl_7 31 z + hib z 15 = 31 := by
  rw [hi_pp]
  have : (or (Nat.beq z 0) (Nat.beq (Nat.add (nl_7 31 z) (hi_p z)) 31)) = true := by
    by_cases q : z < 16384
    · exact al_of 14 0 (by rw [← al_r2]; exact nl_ok0) z (Nat.zero_le _) (by omega)
    · exact al_of 14 16384 (by rw [← al_r2]; exact nl_ok1) z (by omega) (by omega)
  rcases Bool.or_eq_true _ _ |>.mp this with q | q
  · exact absurd (Nat.eq_of_beq_eq_true q) h0
  · exact Nat.eq_of_beq_eq_true q
set_option maxRecDepth 100000 in
set_option maxHeartbeats 1000000 in
theorem c_nlz (σ : ab_H) (z : Nat) (h : z < 32768) (h0 : z ≠ 0) : ab_ev 1 yJ6_numberOfLeadingZeros_0f7a4 [.inl z] σ (some (.inl (31 - (hib z 15 : Int)))) σ := by
  have hq0 := nl_ok h h0
  rw [show (31 - (hib z 15 : Int)) = ((nl_7 31 z : Nat) : Int) by omega]
  refine eJ6_numberOfLeadingZeros_0f7a4 rfl (fun At hA => ?_)
  have k13 : ∀ n x : Nat, x < 4 → 4 ≤ n → n < 100 → nl_7 31 z = nl_13 n x → At 13 [some (.inl x), some (.inl n)] [] σ 0 0 := fun n x hx hn hn2 hq => by
    refine hA 13 _ rfl _ _ _ _ _ ?_
    refine And.intro ?_ rfl
    rw [hq, show ab_ushr (x : Int) 1 = _ from nb_ushr (k := 1) (by omega) (by omega)]
    show (Sum.inl (some (Sum.inl ((n : Int) - ((x / 2 : Nat) : Int)))) : ab_O) = Sum.inl (some (Sum.inl ((n - x / 2 : Nat) : Int)))
    rw [show (n : Int) - ((x / 2 : Nat) : Int) = ((n - x / 2 : Nat) : Int) by omega]
  have k11 : ∀ n x : Nat, x < 16 → 8 ≤ n → n < 100 → nl_7 31 z = nl_11 n x → At 11 [some (.inl x), some (.inl n)] [] σ 0 0 := fun n x hx hn hn2 hq => by
    refine hA 11 _ rfl _ _ _ _ _ ?_
    refine And.intro (And.intro (by exact rR (by omega) (by omega)) (by exact rR (by omega) (by omega))) (And.intro (fun q => ?_) (fun q => ?_))
    · exact k13 n x (by omega) (by omega) hn2 (by rw [hq]; unfold nl_11; rw [show Nat.ble 4 x = false from by rw [← Bool.not_eq_true, Nat.ble_eq]; omega]; rfl)
    · refine hA 12 _ rfl _ _ _ _ _ ?_
      have := k13 (n - 2) (x / 4) (by omega) (by omega) (by omega) (by rw [hq]; unfold nl_11; rw [show Nat.ble 4 x = true from Nat.ble_eq.mpr (by omega)]; rfl)
      have e : ab_ushr (x : Int) 2 = ((x / 4 : Nat) : Int) := nb_ushr (k := 2) (by omega) (by omega)
      rw [← e, show ((n - 2 : Nat) : Int) = (n : Int) + -2 by omega] at this
      exact this
  have k9 : ∀ n x : Nat, x < 256 → 12 ≤ n → n < 100 → nl_7 31 z = nl_9 n x → At 9 [some (.inl x), some (.inl n)] [] σ 0 0 := fun n x hx hn hn2 hq => by
    refine hA 9 _ rfl _ _ _ _ _ ?_
    refine And.intro (And.intro (by exact rR (by omega) (by omega)) (by exact rR (by omega) (by omega))) (And.intro (fun q => ?_) (fun q => ?_))
    · exact k11 n x (by omega) (by omega) hn2 (by rw [hq]; unfold nl_9; rw [show Nat.ble 16 x = false from by rw [← Bool.not_eq_true, Nat.ble_eq]; omega]; rfl)
    · refine hA 10 _ rfl _ _ _ _ _ ?_
      have := k11 (n - 4) (x / 16) (by omega) (by omega) (by omega) (by rw [hq]; unfold nl_9; rw [show Nat.ble 16 x = true from Nat.ble_eq.mpr (by omega)]; rfl)
      have e : ab_ushr (x : Int) 4 = ((x / 16 : Nat) : Int) := nb_ushr (k := 4) (by omega) (by omega)
      rw [← e, show ((n - 4 : Nat) : Int) = (n : Int) + -4 by omega] at this
      exact this
  have k7 : At 7 [some (.inl z), some (.inl ((31 : Nat) : Int))] [] σ 0 0 := by
    refine hA 7 _ rfl _ _ _ _ _ ?_
    refine And.intro (And.intro (by exact rR (by omega) (by omega)) (by exact rR (by omega) (by omega))) (And.intro (fun q => ?_) (fun q => ?_))
    · exact k9 31 z (by omega) (by omega) (by omega) (by unfold nl_7; rw [show Nat.ble 256 z = false from by rw [← Bool.not_eq_true, Nat.ble_eq]; omega]; rfl)
    · refine hA 8 _ rfl _ _ _ _ _ ?_
      have := k9 23 (z / 256) (by omega) (by omega) (by omega) (by unfold nl_7; rw [show Nat.ble 256 z = true from Nat.ble_eq.mpr (by omega)]; rfl)
      have e : ab_ushr (z : Int) 8 = ((z / 256 : Nat) : Int) := nb_ushr (k := 8) (by omega) (by omega)
      rw [← e] at this
      exact this
  refine hA 0 _ rfl _ _ _ _ _ ?_
  refine And.intro (by exact rR (by omega) (by omega)) (And.intro (fun q => ?_) (fun q => ?_))
  · refine hA 5 _ rfl _ _ _ _ _ ?_
    refine And.intro (And.intro (by exact rR (by omega) (by omega)) (by exact rR (by omega) (by omega))) (And.intro (fun q => ?_) (fun q => ?_))
    · exact k7
    · omega
  · omega
