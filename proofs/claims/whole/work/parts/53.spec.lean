-- ===== what the calls answer: those that change nothing =====
section Spec
variable (cc rows : Nat) (K : Nat → CT) (va : Nat → Nat → Nat) (R : Nat → V1) (n : Nat) (c : C3) (r : Nat → Nat)
def sp_told (what : Int) : Int ⊕ Nat := if 0 ≤ what ∧ what ≤ 6 then .inl (match what.toNat with
  | 0 => (cc : Nat)
  | 1 => (rows : Nat)
  | 2 => (cnt (bit (R 6)) 1500 : Nat)
  | 3 => (gu rows : Nat)
  | 4 => (sm (fun c => fsp (K c).1 (K c).2.2.2 (K c).2.2.1) cc : Nat)
  | 5 => (sm (wordsC rows K va) cc : Nat)
  | _ => (n : Nat)) else .inr 1
def sp_columnOf (k what : Int) : Int ⊕ Nat := if 0 ≤ k ∧ k < cc then (if 0 ≤ what ∧ what ≤ 4 then .inl (match what.toNat with
  | 0 => ((K k.toNat).2.1 : Nat)
  | 1 => ((K k.toNat).2.2.1 : Nat)
  | 2 => b2i (K k.toNat).1
  | 3 => (fsp (K k.toNat).1 (K k.toNat).2.2.2 (K k.toNat).2.2.1 : Nat)
  | _ => (wordsC rows K va k.toNat : Nat)) else .inr 1) else .inr 0
def sp_base (k p : Int) : Int ⊕ Nat := if (0 ≤ k ∧ k < cc) ∧ 1 ≤ p ∧ p ≤ (K k.toNat).2.2.1 then .inl ((K k.toNat).2.2.2 (p - 1).toNat : Nat) else .inr 0
def isBmB (k p j : Int) : Bool := decide (0 ≤ k ∧ k < cc) && decide (1 ≤ p ∧ p ≤ (K k.toNat).2.2.1) && decide (0 ≤ j ∧ j < nbm (K k.toNat).1 (K k.toNat).2.2.2 (p - 1).toNat)
/-- a bitmap of a column -/
def bmOf (k p j : Int) : V1 := cbK K k.toNat (va k.toNat) rows (fsp (K k.toNat).1 (K k.toNat).2.2.2 (p - 1).toNat + j.toNat)
def sp_index (k p j what : Int) : Int ⊕ Nat := if isBmB cc K k p j = true then (if 0 ≤ what ∧ what ≤ 5 then .inl (meas (bmOf rows K va k p j) (gu rows) what.toNat) else .inr 1) else .inr 0
def sp_indexWord (k p j w : Int) : Int ⊕ Nat := if isBmB cc K k p j = true then (if 0 ≤ w ∧ w < cnt (sw (bmOf rows K va k p j)) (gu rows) then .inl (wrd (bmOf rows K va k p j) (gu rows) (wps (bmOf rows K va k p j) (gu rows) w.toNat) : Nat) else .inr 0) else .inr 0
def sp_result (k what : Int) : Int ⊕ Nat := if 0 ≤ k ∧ k ≤ 6 then (if 0 ≤ what ∧ what ≤ 7 then .inl (meas (R k.toNat) (gu rows) what.toNat) else .inr 1) else .inr 0
def sp_word (k w : Int) : Int ⊕ Nat := if 0 ≤ k ∧ k ≤ 6 then (if 0 ≤ w ∧ w < cnt (sw (R k.toNat)) (gu rows) then .inl (wrd (R k.toNat) (gu rows) (wps (R k.toNat) (gu rows) w.toNat) : Nat) else .inr 0) else .inr 0
def sp_has (k row : Int) : Int ⊕ Nat := if 0 ≤ k ∧ k ≤ 6 then (if 0 ≤ row ∧ row < rows then .inl (b2i (bit (R k.toNat) row.toNat)) else .inr 0) else .inr 0
def sp_rank (k row : Int) : Int ⊕ Nat := if 0 ≤ k ∧ k ≤ 6 then (if 0 ≤ row ∧ row ≤ rows then .inl (cnt (bit (R k.toNat)) row.toNat : Nat) else .inr 1) else .inr 0
def sp_select (k x : Int) : Int ⊕ Nat := if 0 ≤ k ∧ k ≤ 6 then .inl (if x < 0 then -1 else sel (R k.toNat) x.toNat) else .inr 0
def sp_next (k row : Int) : Int ⊕ Nat := if 0 ≤ k ∧ k ≤ 6 then (if 0 ≤ row ∧ row ≤ rows then .inl (sr (bit (R k.toNat)) row.toNat (1500 - row.toNat)) else .inr 1) else .inr 0
def sp_would (kind a b what : Int) : Int ⊕ Nat := if (0 ≤ a ∧ a ≤ 6) ∧ 0 ≤ b ∧ b ≤ 6 then (if 0 ≤ kind ∧ kind ≤ 3 ∧ 0 ≤ what ∧ what ≤ 2 then .inl (if what = 2 then (stp (gu rows) (R a.toNat) (R b.toNat) : Nat) else if what = 0 then (cnt (bit (jn kind.toNat (R a.toNat) (R b.toNat))) 1500 : Nat) else (cnt (sw (jn kind.toNat (R a.toNat) (R b.toNat))) (gu rows) : Nat)) else .inr 1) else .inr 0
def sp_within (a b : Int) : Int ⊕ Nat := if (0 ≤ a ∧ a ≤ 6) ∧ 0 ≤ b ∧ b ≤ 6 then .inl (b2i (cnt (bit (jn 3 (R a.toNat) (R b.toNat))) 1500 == 0)) else .inr 0
def sp_differ (a b : Int) : Int ⊕ Nat := if (0 ≤ a ∧ a ≤ 6) ∧ 0 ≤ b ∧ b ≤ 6 then .inl (cnt (bit (jn 2 (R a.toNat) (R b.toNat))) 1500 : Nat) else .inr 0
def sp_cost (what : Int) : Int ⊕ Nat := if 0 ≤ what ∧ what ≤ 2 then .inl (if what = 0 then (c.1 : Nat) else if what = 1 then (c.2.1 : Nat) else (c.2.2 : Nat)) else .inr 1
def sp_value (k row : Int) : Int ⊕ Nat := if (0 ≤ k ∧ k < cc) ∧ 0 ≤ row ∧ row < rows then .inl (va k.toNat row.toNat : Nat) else .inr 0
def sp_widest (k : Int) : Int ⊕ Nat := if 0 ≤ k ∧ k ≤ 6 then .inl (wdf (R k.toNat) (gu rows) : Nat) else .inr 0
def sp_group (k g what : Int) : Int ⊕ Nat := if 0 ≤ k ∧ k ≤ 6 then (if 0 ≤ g ∧ g < gu rows then (if 0 ≤ what ∧ what ≤ 2 then .inl (if what = 0 then (R k.toNat g.toNat : Nat) else if what = 1 then (gw (R k.toNat) (gu rows) g.toNat : Nat) else (cnt (sw (R k.toNat)) (g.toNat + 1) : Int) - 1) else .inr 1) else .inr 0) else .inr 0
def sp_ordered (a b : Int) : Int ⊕ Nat := if (0 ≤ a ∧ a < cc) ∧ 0 ≤ b ∧ b < cc then .inl (wordsO rows (K a.toNat).1 (K a.toNat).2.2.2 (va b.toNat) (va a.toNat) (K a.toNat).2.2.1 : Nat) else .inr 0
def sp_status (what : Int) : Int ⊕ Nat := .inl (if what = 0 then (r 0 : Nat) else if what = 1 then (r 1 : Nat) else if what = 2 then (r 2 : Nat) else -1)
end Spec
theorem isBm_B {cc : Nat} {K : Nat → CT} {k p j : Int} : isBmB cc K k p j = true ↔ isBm cc K k p j := by
  unfold isBmB isBm
  rw [Bool.and_eq_true, Bool.and_eq_true, decide_eq_true_iff, decide_eq_true_iff, decide_eq_true_iff, and_assoc]
