-- ===== the abstract picture: values, cells, heaps, instructions =====
/-- a value: an int, a reference (none: null), a long, the k-th string constant -/
abbrev ab_V : Type := Int ⊕ (Option Nat ⊕ (Int ⊕ Nat))
/-- a cell: an object (its class's number, its fields), an array of numbers (0 int, 1 boolean, 2 long; length, contents), an array of references (kind, length, contents) -/
abbrev ab_C : Type := (Nat × List ab_V) ⊕ ((Nat × Nat × (Nat → Int)) ⊕ (Nat × Nat × (Nat → Option Nat)))
/-- a heap: how many cells since the law's entry, which of them are known -/
abbrev ab_H : Type := Nat × (Nat → Option ab_C)
abbrev ab_I : Type := Instr × MethodName × List Nat
abbrev ab_L : Type := List (Option ab_V)
/-- base address, class numbers, array classes of numbers and of references, addresses of string constants, the heap at the law's entry -/
abbrev ab_X : Type := Nat × va_G × (Nat → ClassId) × (Nat → ClassId) × (Nat → Nat) × Heap
def ab_R (a : Int) : Prop := -2147483648 ≤ a ∧ a < 2147483648
def ab_up {α : Type} (f : Nat → α) (k : Nat) (x : α) : Nat → α := fun j => if j = k then x else f j
theorem ab_up_s {α : Type} {f : Nat → α} {k : Nat} {x : α} : ab_up f k x k = x := if_pos rfl
theorem ab_up_n {α : Type} {f : Nat → α} {k j : Nat} {x : α} (h : j ≠ k) : ab_up f k x j = f j := if_neg h
def ab_v (X : ab_X) : ab_V → Value
  | .inl z => .int (Int32.ofInt z)
  | .inr (.inl none) => .null
  | .inr (.inl (some a)) => .ref (X.1 + a)
  | .inr (.inr (.inl z)) => .long (Int64.ofInt z)
  | .inr (.inr (.inr k)) => .ref (X.2.2.2.2.1 k)
def ab_na (k : Nat) (f : Nat → Int) : (Nat → Int32) ⊕ (Nat → Int64) ⊕ (Nat → UInt32) ⊕ (Nat → UInt64) ⊕ (Nat → Option Nat) :=
  if k = 2 then .inr (.inl (fun j => Int64.ofInt (f j))) else .inl (fun j => Int32.ofInt (f j))
def ab_c (X : ab_X) : ab_C → va_E
  | .inl (ci, fs) => .inr (ci, fs.map (ab_v X))
  | .inr (.inl (k, n, f)) => .inl (X.2.2.1 k, n, ab_na k f)
  | .inr (.inr (k, n, f)) => .inl (X.2.2.2.1 k, n, .inr (.inr (.inr (.inr (fun j => (f j).map (X.1 + ·))))))
/-- the real heap holds the abstract one; below the base it is as at the law's entry -/
def ab_hr (X : ab_X) (σ : ab_H) (H : Heap) : Prop := H.size = X.1 + σ.1 ∧ (∀ a c, σ.2 a = some c → va_at X.2.1 vwCl (X.1 + a, ab_c X c) H) ∧ ∀ q, q < X.1 → H[q]? = X.2.2.2.2.2[q]?
def ab_t (X : ab_X) : List (ClassId × FieldType) := [(X.2.2.1 0, .int), (X.2.2.1 1, .boolean), (X.2.2.1 2, .long), (X.2.2.2.1 0, .object RX2), (X.2.2.2.1 1, .object RX3), (X.2.2.2.1 2, .array .int)]
/-- not a long: of one slot -/
def ab_n1 : ab_V → Bool
  | .inr (.inr (.inl _)) => false
  | _ => true
def ab_lr (X : ab_X) (nL : Nat) (L : ab_L) (ls : Array Slot) : Prop := ls.size = nL ∧ lv_wf ls ∧ L.length = nL ∧ ∀ (i : Nat) (v : ab_V), L[i]? = some (some v) → ab_n1 v = true ∧ ls[i]? = some (.val (ab_v X v))
-- ===== popping =====
def ab_pI (S : List ab_V) (f : Int → List ab_V → Prop) : Prop := match S with
  | .inl z :: S => f z S
  | _ => False
def ab_pR (S : List ab_V) (f : Nat → List ab_V → Prop) : Prop := match S with
  | .inr (.inl (some a)) :: S => f a S
  | _ => False
def ab_pJ (S : List ab_V) (f : Int → List ab_V → Prop) : Prop := match S with
  | .inr (.inr (.inl z)) :: S => f z S
  | _ => False
/-- any value of one slot -/
def ab_pA (S : List ab_V) (f : ab_V → List ab_V → Prop) : Prop := match S with
  | v :: S => ab_n1 v = true ∧ f v S
  | _ => False
/-- a reference of any kind -/
def ab_isr : ab_V → Bool
  | .inr (.inl _) => true
  | .inr (.inr (.inr _)) => true
  | _ => false
def ab_isi : ab_V → Bool
  | .inl _ => true
  | _ => false
def ab_ld (o : Option (Option ab_V)) (f : ab_V → Prop) : Prop := match o with
  | some (some v) => f v
  | _ => False
-- ===== numbers =====
def ab_and (a b : Int) : Int := (Int32.ofInt a &&& Int32.ofInt b).toInt
def ab_or (a b : Int) : Int := (Int32.ofInt a ||| Int32.ofInt b).toInt
def ab_xor (a b : Int) : Int := (Int32.ofInt a ^^^ Int32.ofInt b).toInt
def ab_shl (a b : Int) : Int := (Int32.ofInt a <<< (Int32.ofInt b &&& 31)).toInt
def ab_shr (a b : Int) : Int := (Int32.ofInt a >>> (Int32.ofInt b &&& 31)).toInt
def ab_ushr (a b : Int) : Int := (((Int32.ofInt a).toUInt32 >>> ((Int32.ofInt b).toUInt32 &&& Int32.toUInt32 31)).toInt32).toInt
def ab_cmp (c : Jvm.ClassFile.Cond) (a b : Int) : Prop := match c with
  | .eq => a = b
  | .ne => a ≠ b
  | .lt => a < b
  | .ge => b ≤ a
  | .gt => b < a
  | .le => a ≤ b
def ab_sw (At : Nat → Prop) (x : Int) : Int → List Nat → Nat → Prop
  | _, [], d => At d
  | lo, t :: ts, d => (x = lo → At t) ∧ (x ≠ lo → ab_sw At x (lo + 1) ts d)
def ab_lk (At : Nat → Prop) (x : Int) : List (Int × Int) → List Nat → Nat → Prop
  | (q, _) :: ps, t :: ts, d => (x = q → At t) ∧ (x ≠ q → ab_lk At x ps ts d)
  | _, _, d => At d
def ab_dv : List Nat → List ab_V
  | [] => []
  | 0 :: r => .inl 0 :: ab_dv r
  | _ :: r => .inr (.inl none) :: ab_dv r
def ab_nk : ArrayType → Option Nat
  | .int => some 0
  | .boolean => some 1
  | .long => some 2
  | _ => none
def ab_on {α : Type} (o : Option α) (f : α → Prop) : Prop := match o with
  | some x => f x
  | none => False
/-- what a call comes to: a value, nothing, or a throw (0 no such element, 1 argument, 2 state) -/
abbrev ab_O : Type := Option ab_V ⊕ Nat
