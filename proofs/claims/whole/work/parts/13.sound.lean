-- ===== the check of a stretch of instructions against the class file, and its soundness =====
/-- the length that each instruction must have (0: any) -/
def ab_ln : Instr → Nat
  | .bipush _ | .iload _ | .aload _ | .istore _ | .astore _ | .newarray _ | .ldc _ => 2
  | .sipush _ | .iinc _ _ | .goto _ | .if_icmp _ _ | .ifCond _ _ | .ifnonnull _ | .getfield _ | .putfield _ | .new _ | .invokevirtual _ | .invokestatic _ | .invokespecial _ | .ldc_w _ | .anewarray _ => 3
  | .multianewarray _ _ => 4
  | .lookupswitch .. => 0
  | .tableswitch .. => 0
  | _ => 1
def ab_tg (pcs : List Nat) (pc : Nat) (off : Int) (t : Nat) : Bool := match pcs[t]? with
  | some q => decide ((pc : Int) + off = (q : Int))
  | none => false
def ab_ml (o i : Nat) (y : MethodName) (kd ci : Nat) : Bool := ab_ML.any fun q => decide (q.1 = o) && decide (q.2.1 = i) && decide (q.2.2.2.1 = kd) && decide (q.2.2.2.2.1 = ci) && decide (q.2.2.1 = y)
def ab_ms (o i : Nat) (y : MethodName) : Bool := ab_ML.any fun q => decide (q.1 = o) && decide (q.2.1 = i) && decide (q.2.2.2.1 = 1) && decide (q.2.2.1 = y)
def ab_mi (o i : Nat) (y : MethodName) : Bool := (ab_ML.any fun q => decide (q.1 = o) && decide (q.2.1 = i) && decide (q.2.2.2.1 = 2) && decide (q.2.2.1 = y)) || (ab_NS.any fun q => decide (q.1 = o) && decide (q.2.1 = i) && decide (q.2.2.1 = y))
def ab_oi (o i : Nat) : Bool := ab_w 0 .tt || decide (o = o ∧ i = i)
/-- what else must hold of an instruction at pc in a method of class o -/
def ab_c2 (o : Nat) (ret : Option FieldType) (ini : Bool) (nL : Nat) (pcs : List Nat) (cov : Nat → Bool) (pc : Nat) (x : ab_I) : Bool := match x.1 with
  | .bipush z => decide ((Int8.ofInt z).toInt32 = Int32.ofInt z)
  | .sipush z => decide ((Int16.ofInt z).toInt32 = Int32.ofInt z)
  | .istore j => decide (j < nL)
  | .istore_n j => decide ((j : Nat) < nL)
  | .astore j => decide (j < nL)
  | .astore_n j => decide ((j : Nat) < nL)
  | .goto off => match x.2.2 with
    | [t] => ab_tg pcs pc off t
    | _ => false
  | .if_icmp _ off => match x.2.2 with
    | [t] => ab_tg pcs pc off t
    | [t, _] => ab_tg pcs pc off t
    | _ => false
  | .ifCond _ off => match x.2.2 with
    | [t] => ab_tg pcs pc off t
    | _ => false
  | .ifnonnull off => match x.2.2 with
    | [t] => ab_tg pcs pc off t
    | _ => false
  | .tableswitch df lo hi offs => match x.2.2 with
    | t :: ts => ab_tg pcs pc df t && decide (hi = lo + (offs.size : Int) - 1) && decide (ts.length = offs.size) && (List.range offs.size).all (fun j => match offs[j]? with
      | some off => ab_tg pcs pc off (ts.getD j 0)
      | none => true)
    | _ => false
  | .ireturn => match x.2.2 with
    | [] => decide (ret = some .int)
    | _ => decide (ret = some .boolean)
  | .areturn => match ret with
    | some t => t.isReference
    | none => false
  | .return_ => decide (ret = none)
  | .getfield i => match x.2.2 with
    | [ci, j] => ab_FL.any fun q => decide (q.1 = o) && decide (q.2.1 = i) && decide (q.2.2.1 = ci) && decide (q.2.2.2.1 = j)
    | _ => false
  | .putfield i => match x.2.2 with
    | [ci, j] => (ab_FL.any fun q => decide (q.1 = o) && decide (q.2.1 = i) && decide (q.2.2.1 = ci) && decide (q.2.2.2.1 = j)) && (decide ((ab_T ci j).2.2.2 = false) || (ini && decide ((ab_T ci j).2.2.2 = true) && decide ((ab_T ci j).1 = ab_cn o)))
    | _ => false
  | .aaload => match x.2.2 with
    | [q] => decide (q < 3)
    | _ => false
  | .aastore => match x.2.2 with
    | [q] => decide (q < 2)
    | _ => false
  | .iaload => match x.2.2 with
    | [] => true
    | _ => decide (o = 11 ∧ ret = some .boolean)
  | .arraylength => match x.2.2 with
    | [_] => decide (o = 11 ∧ ret = some .boolean)
    | [_, q] => decide (q < 3)
    | _ => false
  | .new i => match x.2.2 with
    | ci :: fl => (ab_CL.any fun q => decide (q.1 = o) && decide (q.2.1 = i) && decide (q.2.2.1 = ci)) && decide (fl = (List.range (ab_N ci)).map (fun j => match ab_ty ci j with
      | .int => 0
      | .boolean => 0
      | _ => 1)) && (List.range (ab_N ci)).all (fun j => match ab_ty ci j with
      | .int => true
      | .boolean => true
      | .object _ => true
      | .array _ => true
      | _ => false)
    | _ => false
  | .invokevirtual i => match x.2.2 with
    | [ci, na] => cov pc && ab_ml o i x.2.1 0 ci && decide (ab_pn x.2.1 = some na)
    | [0] => ab_xl o i 0
    | [1] => ab_xl o i 1
    | _ => false
  | .invokestatic i => match x.2.2 with
    | [na] => cov pc && ab_ms o i x.2.1 && decide (ab_pn x.2.1 = some na)
    | [na, 3] => cov pc && ab_ms o i x.2.1 && decide (ab_pn x.2.1 = some na)
    | [_, 0] => ab_xl o i 2
    | [_, 1] => ab_xl o i 3
    | [_, 2] => ab_xl o i 4
    | _ => false
  | .invokespecial i => match x.2.2 with
    | [na] => cov pc && ab_mi o i x.2.1 && decide (ab_pn x.2.1 = some na)
    | [_, q] => ab_w q (.methodLink (ab_cn o) i Lib.objectInit)
    | _ => false
  | .ldc i => match x.2.2 with
    | [v] => ab_CT.any fun q => decide (q.1 = o) && decide (q.2.1 = i) && decide (q.2.2.1 = v)
    | [_, q] => decide (q < 3) && ab_strs.any (fun u => decide (u.1 = ab_cn o) && decide (u.2.1 = i) && decide (u.2.2.2 = q))
    | _ => false
  | .ldc_w i => match x.2.2 with
    | [v] => ab_CT.any fun q => decide (q.1 = o) && decide (q.2.1 = i) && decide (q.2.2.1 = v)
    | _ => false
  | .lookupswitch df ps => match x.2.2 with
    | t :: ts => ab_tg pcs pc df t && (ps.toList.zip (ps.toList.drop 1)).all (fun (a, next) => a.1 < next.1) && decide (ts.length = ps.toList.length) && (List.range ps.toList.length).all (fun j => match ps.toList[j]? with
      | some q => ab_tg pcs pc q.2 (ts.getD j 0)
      | none => true)
    | _ => false
  | .anewarray i => match x.2.2 with
    | [q] => decide (q < 2) && ab_CL.any fun u => decide (u.1 = o) && decide (u.2.1 = i) && decide (u.2.2.1 = ab_qc q)
    | _ => false
  | .multianewarray i q => decide (q = 2) && ab_CM.any fun u => decide (u.1 = o) && decide (u.2 = i)
  | _ => true
def ab_c1 (cc : ByteArray) (o : Nat) (ret : Option FieldType) (ini : Bool) (nL : Nat) (pcs : List Nat) (cov : Nat → Bool) (pc : Nat) (x : ab_I) : Option Nat :=
  if x.1 = .athrow then (match x.2.2 with
    | [i] => if i < 3 ∧ o = 9 ∧ decode cc pc = .ok (.new (ab_thr i).1, 3) ∧ decode cc (pc + 3) = .ok (.dup, 1) ∧ decode cc (pc + 4) = .ok (.ldc_w (ab_thr i).2.1, 3) ∧ decode cc (pc + 7) = .ok (.invokespecial (ab_thr i).2.2.1, 3) ∧ decode cc (pc + 10) = .ok (.athrow, 1) then some (pc + 11) else none
    | _ => none)
  else match decode cc pc with
    | .ok (i, len) => if i = x.1 ∧ (len = ab_ln i ∨ ab_ln i = 0) ∧ ab_c2 o ret ini nL pcs cov pc x = true then some (pc + len) else none
    | .error _ => none
def ab_ck (cc : ByteArray) (o : Nat) (ret : Option FieldType) (ini : Bool) (nL : Nat) (pcs : List Nat) (cov : Nat → Bool) : Nat → Nat → List ab_I → Bool
  | b, pc, [] => decide (pcs[b + 1]? = some pc)
  | b, pc, x :: is => match ab_c1 cc o ret ini nL pcs cov pc x with
    | some pc' => ab_ck cc o ret ini nL pcs cov b pc' is
    | none => false
