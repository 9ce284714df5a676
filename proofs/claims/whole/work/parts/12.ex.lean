-- ===== what a stretch of instructions owes =====
def ab_ldI (o : Option (Option ab_V)) (f : Int → Prop) : Prop := match o with
  | some (some (.inl z)) => f z
  | _ => False
def ab_ldR (o : Option (Option ab_V)) (f : ab_V → Prop) : Prop := match o with
  | some (some (.inr (.inl r))) => f (.inr (.inl r))
  | some (some (.inr (.inr (.inr k)))) => f (.inr (.inr (.inr k)))
  | _ => False
def ab_pQ (S : List ab_V) (f : ab_V → List ab_V → Prop) : Prop := match S with
  | .inr (.inl r) :: S => f (.inr (.inl r)) S
  | .inr (.inr (.inr k)) :: S => f (.inr (.inr (.inr k))) S
  | _ => False
/-- any value of one slot -/
def ab_p1 (S : List ab_V) (f : ab_V → List ab_V → Prop) : Prop := match S with
  | .inl z :: S => f (.inl z) S
  | .inr (.inl r) :: S => f (.inr (.inl r)) S
  | .inr (.inr (.inr k)) :: S => f (.inr (.inr (.inr k))) S
  | _ => False
def ab_br (c : Jvm.ClassFile.Cond) (x y : Int) (A B : Prop) : Prop := match c with
  | .eq => (x = y → A) ∧ (x ≠ y → B)
  | .ne => (x ≠ y → A) ∧ (x = y → B)
  | .lt => (x < y → A) ∧ (y ≤ x → B)
  | .ge => (y ≤ x → A) ∧ (x < y → B)
  | .gt => (y < x → A) ∧ (x ≤ y → B)
  | .le => (x ≤ y → A) ∧ (y < x → B)
def ab_fw (ty : FieldType) (v : ab_V) (K : Prop) : Prop := match ty, v with
  | .int, .inl _ => K
  | .boolean, .inl z => (z = 0 ∨ z = 1) ∧ K
  | .object _, .inr (.inl _) => K
  | .array _, .inr (.inl _) => K
  | _, _ => False
def ab_x1 (xs : List Nat) (f : Nat → Prop) : Prop := match xs with
  | [t] => f t
  | _ => False
def ab_x2 (xs : List Nat) (f : Nat → Nat → Prop) : Prop := match xs with
  | [t, u] => f t u
  | _ => False
def ab_xc (xs : List Nat) (f : Nat → List Nat → Prop) : Prop := match xs with
  | t :: u => f t u
  | _ => False
/-- a call within what is left -/
def ab_inv (d mc ms k n : Nat) (y : MethodName) (av : List ab_V) (σ : ab_H) (po : Nat → Nat → ab_O → ab_H → Prop) : Prop :=
  ∃ d' mc' ms', ab_call d' mc' ms' y av σ (po (k + mc') (n + ms')) ∧ d' < d ∧ k + mc' ≤ mc ∧ n + ms' ≤ ms
/-- behind a call: its value on the stack, or thrown -/
def ab_bk (f : List ab_V → ab_H → Nat → Nat → Prop) (g : Nat → ab_H → Nat → Nat → Prop) (S : List ab_V) (k n : Nat) (r : ab_O) (σ : ab_H) : Prop := match r with
  | .inl none => f S σ k n
  | .inl (some v) => f (v :: S) σ k n
  | .inr i => g i σ k n
/-- the rest of the stack at a call is small -/
def ab_s8 (S : List ab_V) : Bool := Nat.ble S.length 8 && S.all ab_n1
theorem ab_s8_of {S : List ab_V} (h : ab_s8 S = true) : S.length ≤ 8 ∧ S.all ab_n1 = true := by
  have := (Bool.and_eq_true _ _).mp h
  exact ⟨Nat.le_of_ble_eq_true this.1, this.2⟩
def ab_ir (xs : List Nat) (z : Int) (P : Prop) : Prop := match xs with
  | [] => P
  | _ => (z = 0 ∨ z = 1) ∧ P
def ab_lc (xs : List Nat) (f : ab_V → Prop) : Prop := match xs with
  | [v] => f (.inl (v : Nat))
  | [_, s] => f (.inr (.inr (.inr s)))
  | _ => False
def ab_ra (xs : List Nat) (c : Option ab_C) (f : Nat → Prop) : Prop := match xs with
  | [0, q] => ∃ (N : Nat) (g : Nat → Int), c = some (.inr (.inl (q, N, g))) ∧ f N
  | [1, q] => ∃ (N : Nat) (g : Nat → Option Nat), c = some (.inr (.inr (q, N, g))) ∧ f N
  | _ => False
/-- an int as the machine holds it -/
def ab_wr (z : Int) : Int := (Int32.ofInt z).toInt
theorem ab_wr_R (z : Int) : ab_R (ab_wr z) := by
  have h1 := Int32.toInt_lt (Int32.ofInt z)
  have h2 := Int32.le_toInt (Int32.ofInt z)
  unfold ab_R ab_wr
  omega
/-- the script -/
def ab_pK (S : List ab_V) (f : List ab_V → Prop) : Prop := match S with
  | .inr (.inr (.inr q)) :: S => q = 21 ∧ f S
  | _ => False
/-- a call of a method with an exception table within what is left -/
def ab_invH (d mc ms k n : Nat) (y : MethodName) (av : List ab_V) (σ : ab_H) (po : Nat → Nat → ab_O → ab_H → Prop) : Prop :=
  ∃ d' mc' ms', ab_callH d' mc' ms' y av σ (po (k + mc') (n + ms')) ∧ d' < d ∧ k + mc' ≤ mc ∧ n + ms' ≤ ms
def ab_ex (At : Nat → ab_L → List ab_V → ab_H → Nat → Nat → Prop) (Xc : Nat → ab_L → ab_H → Nat → Nat → Prop) (post : ab_O → ab_H → Prop) (d mc ms : Nat) : List ab_I → Nat → ab_L → List ab_V → ab_H → Nat → Nat → Prop
  | [], b, L, S, σ, k, n => At (b + 1) L S σ k n
  | x :: is, b, L, S, σ, k, n => match x.1 with
    | .iconst z => ab_ex At Xc post d mc ms is b L (.inl z :: S) σ k n
    | .bipush z => ab_ex At Xc post d mc ms is b L (.inl z :: S) σ k n
    | .sipush z => ab_ex At Xc post d mc ms is b L (.inl z :: S) σ k n
    | .aconst_null => ab_ex At Xc post d mc ms is b L (.inr (.inl none) :: S) σ k n
    | .iload j => ab_ldI L[j]? fun z => ab_ex At Xc post d mc ms is b L (.inl z :: S) σ k n
    | .iload_n j => ab_ldI L[(j : Nat)]? fun z => ab_ex At Xc post d mc ms is b L (.inl z :: S) σ k n
    | .aload j => ab_ldR L[j]? fun v => ab_ex At Xc post d mc ms is b L (v :: S) σ k n
    | .aload_n j => ab_ldR L[(j : Nat)]? fun v => ab_ex At Xc post d mc ms is b L (v :: S) σ k n
    | .istore j => ab_pI S fun z S => ab_ex At Xc post d mc ms is b (L.set j (some (.inl z))) S σ k n
    | .istore_n j => ab_pI S fun z S => ab_ex At Xc post d mc ms is b (L.set j (some (.inl z))) S σ k n
    | .astore j => ab_pQ S fun v S => ab_ex At Xc post d mc ms is b (L.set j (some v)) S σ k n
    | .astore_n j => ab_pQ S fun v S => ab_ex At Xc post d mc ms is b (L.set j (some v)) S σ k n
    | .iinc j z => ab_ldI L[j]? fun w => ab_ex At Xc post d mc ms is b (L.set j (some (.inl (w + z)))) S σ k n
    | .iadd => ab_pI S fun y S => ab_pI S fun x S => ab_ex At Xc post d mc ms is b L (.inl (x + y) :: S) σ k n
    | .isub => ab_pI S fun y S => ab_pI S fun x S => ab_ex At Xc post d mc ms is b L (.inl (x - y) :: S) σ k n
    | .imul => ab_pI S fun y S => ab_pI S fun x S => ab_ex At Xc post d mc ms is b L (.inl (x * y) :: S) σ k n
    | .iand => ab_pI S fun y S => ab_pI S fun x S => ab_ex At Xc post d mc ms is b L (.inl (ab_and x y) :: S) σ k n
    | .ior => ab_pI S fun y S => ab_pI S fun x S => ab_ex At Xc post d mc ms is b L (.inl (ab_or x y) :: S) σ k n
    | .ixor => ab_pI S fun y S => ab_pI S fun x S => ab_ex At Xc post d mc ms is b L (.inl (ab_xor x y) :: S) σ k n
    | .ishl => ab_pI S fun y S => ab_pI S fun x S => ab_ex At Xc post d mc ms is b L (.inl (ab_shl x y) :: S) σ k n
    | .ishr => ab_pI S fun y S => ab_pI S fun x S => ab_ex At Xc post d mc ms is b L (.inl (ab_shr x y) :: S) σ k n
    | .iushr => ab_pI S fun y S => ab_pI S fun x S => ab_ex At Xc post d mc ms is b L (.inl (ab_ushr x y) :: S) σ k n
    | .idiv => ab_pI S fun y S => ab_pI S fun x S => (0 ≤ x ∧ ab_R x ∧ 0 < y ∧ ab_R y) ∧ ab_ex At Xc post d mc ms is b L (.inl (x / y) :: S) σ k n
    | .irem => ab_pI S fun y S => ab_pI S fun x S => (0 ≤ x ∧ ab_R x ∧ 0 < y ∧ ab_R y) ∧ ab_ex At Xc post d mc ms is b L (.inl (x % y) :: S) σ k n
    | .dup => ab_p1 S fun v S => ab_ex At Xc post d mc ms is b L (v :: v :: S) σ k n
    | .dup2 => ab_p1 S fun v S => ab_p1 S fun w S => ab_ex At Xc post d mc ms is b L (v :: w :: v :: w :: S) σ k n
    | .pop => ab_p1 S fun _ S => ab_ex At Xc post d mc ms is b L S σ k n
    | .goto _ => ab_x1 x.2.2 fun t => At t L S σ k n
    | .if_icmp c _ => match x.2.2 with
      | [t, _] => ab_pI S fun y S => ab_pI S fun x S => ab_br c (ab_wr x) (ab_wr y) (At t L S σ k n) (ab_ex At Xc post d mc ms is b L S σ k n)
      | _ => ab_x1 x.2.2 fun t => ab_pI S fun y S => ab_pI S fun x S => (ab_R x ∧ ab_R y) ∧ ab_br c x y (At t L S σ k n) (ab_ex At Xc post d mc ms is b L S σ k n)
    | .ifCond c _ => ab_x1 x.2.2 fun t => ab_pI S fun x S => ab_R x ∧ ab_br c x 0 (At t L S σ k n) (ab_ex At Xc post d mc ms is b L S σ k n)
    | .ifnonnull _ => ab_x1 x.2.2 fun t => match S with
      | .inr (.inl r) :: S => (r ≠ none → At t L S σ k n) ∧ (r = none → ab_ex At Xc post d mc ms is b L S σ k n)
      | _ => False
    | .tableswitch _ lo _ _ => ab_xc x.2.2 fun t ts => ab_pI S fun z S => ab_R z ∧ ab_sw (fun b => At b L S σ k n) z lo ts t
    | .ireturn => match S with
      | [.inl z] => ab_ir x.2.2 z (post (.inl (some (.inl z))) σ)
      | _ => False
    | .areturn => match S with
      | [.inr (.inl r)] => post (.inl (some (.inr (.inl r)))) σ
      | _ => False
    | .return_ => match S with
      | [] => post (.inl none) σ
      | _ => False
    | .getfield _ => ab_x2 x.2.2 fun ci j => ab_pR S fun a S => ∃ fs, σ.2 a = some (.inl (ci, fs)) ∧ ab_on fs[j]? fun v => ab_ex At Xc post d mc ms is b L (v :: S) σ k n
    | .putfield _ => ab_x2 x.2.2 fun ci j => ab_p1 S fun v S => ab_pR S fun a S => ∃ fs, σ.2 a = some (.inl (ci, fs)) ∧ ab_on fs[j]? fun _ => ab_fw (ab_ty ci j) v (ab_ex At Xc post d mc ms is b L S (ab_st σ a (.inl (ci, fs.set j v))) k n)
    | .iaload => match x.2.2 with
      | [] => ab_pI S fun i S => ab_pR S fun a S => ∃ N f, σ.2 a = some (.inr (.inl (0, N, f))) ∧ (0 ≤ i ∧ i < (N : Int) ∧ (N : Int) < 2147483648) ∧ ab_ex At Xc post d mc ms is b L (.inl (f i.toNat) :: S) σ k n
      | _ => ab_pI S fun i S => ab_pK S fun S => (0 ≤ i ∧ ∀ N : Int, Xc 1000 [some (.inl N)] σ k n → i < N) ∧ ∀ z : Int, ab_R z → Xc 1001 [some (.inl i), some (.inl z)] σ k n → ab_ex At Xc post d mc ms is b L (.inl z :: S) σ k n
    | .baload => ab_pI S fun i S => ab_pR S fun a S => ∃ N f, σ.2 a = some (.inr (.inl (1, N, f))) ∧ (0 ≤ i ∧ i < (N : Int) ∧ (N : Int) < 2147483648) ∧ ab_ex At Xc post d mc ms is b L (.inl (f i.toNat) :: S) σ k n
    | .laload => ab_pI S fun i S => ab_pR S fun a S => ∃ N f, σ.2 a = some (.inr (.inl (2, N, f))) ∧ (0 ≤ i ∧ i < (N : Int) ∧ (N : Int) < 2147483648) ∧ ab_ex At Xc post d mc ms is b L (.inr (.inr (.inl (f i.toNat))) :: S) σ k n
    | .aaload => ab_x1 x.2.2 fun q => ab_pI S fun i S => ab_pR S fun a S => ∃ N f, σ.2 a = some (.inr (.inr (q, N, f))) ∧ (0 ≤ i ∧ i < (N : Int) ∧ (N : Int) < 2147483648) ∧ ab_ex At Xc post d mc ms is b L (.inr (.inl (f i.toNat)) :: S) σ k n
    | .iastore => ab_pI S fun z S => ab_pI S fun i S => ab_pR S fun a S => ∃ N f, σ.2 a = some (.inr (.inl (0, N, f))) ∧ (0 ≤ i ∧ i < (N : Int) ∧ (N : Int) < 2147483648) ∧ ab_ex At Xc post d mc ms is b L S (ab_st σ a (.inr (.inl (0, N, ab_up f i.toNat z)))) k n
    | .bastore => ab_pI S fun z S => ab_pI S fun i S => ab_pR S fun a S => ∃ N f, σ.2 a = some (.inr (.inl (1, N, f))) ∧ (0 ≤ i ∧ i < (N : Int) ∧ (N : Int) < 2147483648) ∧ (z = 0 ∨ z = 1) ∧ ab_ex At Xc post d mc ms is b L S (ab_st σ a (.inr (.inl (1, N, ab_up f i.toNat z)))) k n
    | .lastore => ab_pJ S fun z S => ab_pI S fun i S => ab_pR S fun a S => ∃ N f, σ.2 a = some (.inr (.inl (2, N, f))) ∧ (0 ≤ i ∧ i < (N : Int) ∧ (N : Int) < 2147483648) ∧ ab_ex At Xc post d mc ms is b L S (ab_st σ a (.inr (.inl (2, N, ab_up f i.toNat z)))) k n
    | .aastore => ab_x1 x.2.2 fun q => ab_pR S fun v S => ab_pI S fun i S => ab_pR S fun a S => ∃ N f fs, σ.2 a = some (.inr (.inr (q, N, f))) ∧ σ.2 v = some (.inl (ab_qc q, fs)) ∧ (0 ≤ i ∧ i < (N : Int) ∧ (N : Int) < 2147483648) ∧ ab_ex At Xc post d mc ms is b L S (ab_st σ a (.inr (.inr (q, N, ab_up f i.toNat (some v))))) k n
    | .arraylength => match x.2.2 with
      | [_] => ab_pK S fun S => ∀ N : Nat, N < 100000 → Xc 1000 [some (.inl N)] σ k n → ab_ex At Xc post d mc ms is b L (.inl N :: S) σ k n
      | _ => ab_pR S fun a S => ab_ra x.2.2 (σ.2 a) fun N => ab_ex At Xc post d mc ms is b L (.inl N :: S) σ k n
    | .newarray t => ab_pI S fun z S => (0 ≤ z ∧ z < 10000 ∧ k + 1 ≤ mc ∧ n + z.toNat ≤ ms) ∧ ab_on (ab_nk t) fun q => ab_ex At Xc post d mc ms is b L (.inr (.inl (some σ.1)) :: S) (ab_nw σ (.inr (.inl (q, z.toNat, fun _ => 0)))) (k + 1) (n + z.toNat)
    | .new _ => ab_xc x.2.2 fun ci fl => (k + 1 ≤ mc ∧ n + ab_N ci ≤ ms) ∧ ab_ex At Xc post d mc ms is b L (.inr (.inl (some σ.1)) :: S) (ab_nw σ (.inl (ci, ab_dv fl))) (k + 1) (n + ab_N ci)
    | .invokevirtual _ => match x.2.2 with
      | [ci, na] => ab_pR (S.drop na) fun a S' => ∃ fs, σ.2 a = some (.inl (ci, fs)) ∧ ab_s8 S' = true ∧ ab_inv d mc ms k n x.2.1 (.inr (.inl (some a)) :: (S.take na).reverse) σ fun k n => ab_bk (ab_ex At Xc post d mc ms is b L) (fun i => Xc i L) S' k n
      | [0] => match S with
        | .inr (.inr (.inr q)) :: S => (q < 3 ∧ 6 ≤ d) ∧ ab_s8 S = true ∧ ab_ex At Xc post d mc ms is b L (.inl ((ab_sl.getD q 0 : Nat) : Int) :: S) σ k n
        | _ => False
      | [1] => match S with
        | .inl i :: .inr (.inr (.inr q)) :: S => (q < 3 ∧ 6 ≤ d ∧ 0 ≤ i ∧ i < ((ab_sl.getD q 0 : Nat) : Int)) ∧ ab_s8 S = true ∧ ab_ex At Xc post d mc ms is b L (.inl (ab_chr q i.toNat) :: S) σ k n
        | _ => False
      | _ => False
    | .invokestatic _ => match x.2.2 with
      | [na] => (Nat.ble na S.length && ab_s8 (S.drop na)) = true ∧ ab_inv d mc ms k n x.2.1 (S.take na).reverse σ fun k n => ab_bk (ab_ex At Xc post d mc ms is b L) (fun i => Xc i L) (S.drop na) k n
      | [na, 3] => (Nat.ble na S.length && ab_s8 (S.drop na)) = true ∧ ab_invH d mc ms k n x.2.1 (S.take na).reverse σ fun k n => ab_bk (ab_ex At Xc post d mc ms is b L) (fun i => Xc i L) (S.drop na) k n
      | [_, 0] => ab_pI S fun y S => ab_pI S fun x S => (ab_R x ∧ ab_R y ∧ 1 ≤ d) ∧ ab_s8 S = true ∧ ab_ex At Xc post d mc ms is b L (.inl (max x y) :: S) σ k n
      | [_, 1] => ab_pI S fun y S => ab_pI S fun x S => (ab_R x ∧ ab_R y ∧ 1 ≤ d) ∧ ab_s8 S = true ∧ ab_ex At Xc post d mc ms is b L (.inl (min x y) :: S) σ k n
      | [_, 2] => ab_pI S fun z S => ab_pI S fun dp S => ab_pR S fun a1 S => ab_pI S fun sp S => ab_pR S fun a0 S => ∃ N f M g, σ.2 a0 = some (.inr (.inl (0, N, f))) ∧ σ.2 a1 = some (.inr (.inl (0, M, g))) ∧ (0 ≤ sp ∧ 0 ≤ dp ∧ 0 ≤ z ∧ sp + z ≤ (N : Int) ∧ dp + z ≤ (M : Int) ∧ (N : Int) < 2147483648 ∧ (M : Int) < 2147483648 ∧ 1 ≤ d) ∧ ab_s8 S = true ∧ ab_ex At Xc post d mc ms is b L S (ab_st σ a1 (.inr (.inl (0, M, ab_cp f g sp dp z)))) k n
      | _ => False
    | .invokespecial _ => ab_xc x.2.2 fun na fl => match fl with
      | [] => ab_pR (S.drop na) fun a S' => ab_s8 S' = true ∧ ab_inv d mc ms k n x.2.1 (.inr (.inl (some a)) :: (S.take na).reverse) σ fun k n => ab_bk (ab_ex At Xc post d mc ms is b L) (fun i => Xc i L) S' k n
      | _ => ab_pR S fun _ S' => ab_s8 S' = true ∧ 1 ≤ d ∧ ab_ex At Xc post d mc ms is b L S' σ k n
    | .athrow => ab_x1 x.2.2 fun i => match S with
      | [] => (6 ≤ d ∧ k + 1 ≤ mc ∧ n + 6 ≤ ms) ∧ ∀ q : Nat, σ.1 ≤ q → post (.inr i) (q, σ.2)
      | _ => False
    | .ldc _ => ab_lc x.2.2 fun v => ab_ex At Xc post d mc ms is b L (v :: S) σ k n
    | .ldc_w _ => ab_x1 x.2.2 fun v => ab_ex At Xc post d mc ms is b L (.inl (v : Nat) :: S) σ k n
    | .lookupswitch _ ps => ab_xc x.2.2 fun t ts => ab_pI S fun z S => ab_R z ∧ ab_lk (fun b => At b L S σ k n) z ps.toList ts t
    | .anewarray _ => ab_x1 x.2.2 fun q => ab_pI S fun z S => (0 ≤ z ∧ z < 10000 ∧ k + 1 ≤ mc ∧ n + z.toNat ≤ ms) ∧ ab_ex At Xc post d mc ms is b L (.inr (.inl (some σ.1)) :: S) (ab_nw σ (.inr (.inr (q, z.toNat, fun _ => none)))) (k + 1) (n + z.toNat)
    | .multianewarray _ q => ab_x1 [q] fun _ => ab_pI S fun w S => ab_pI S fun z S => (0 ≤ z ∧ z < 10000 ∧ 0 ≤ w ∧ w < 10000 ∧ k + 1 + z.toNat ≤ mc ∧ n + z.toNat + z.toNat * w.toNat ≤ ms) ∧ ab_ex At Xc post d mc ms is b L (.inr (.inl (some σ.1)) :: S) (ab_mn σ z.toNat w.toNat) (k + 1 + z.toNat) (n + z.toNat + z.toNat * w.toNat)
    | .i2l => match x.2.2 with
      | _ :: _ => ab_pI S fun z S => ab_ex At Xc post d mc ms is b L (.inr (.inr (.inl (ab_wr z))) :: S) σ k n
      | [] => ab_pI S fun z S => ab_R z ∧ ab_ex At Xc post d mc ms is b L (.inr (.inr (.inl z)) :: S) σ k n
    | .lconst z => ab_ex At Xc post d mc ms is b L (.inr (.inr (.inl ((z : Nat) : Int))) :: S) σ k n
    | .lcmp => ab_pJ S fun y S => ab_pJ S fun x S => (ab_R x ∧ ab_R y) ∧ ∀ z : Int, ab_R z → (z = 0 ↔ x = y) → ab_ex At Xc post d mc ms is b L (.inl z :: S) σ k n
    | _ => False
