-- ===== the machine at an abstract place =====
/-- what else is known of the machine's tables and constants (moved from state to state) -/
def ab_nest : List (String × Nat × MethodName) := [(RX9, 9, yX7_init), (RX6, 23, yX2_init), (RX0, 17, yX2_init), (RX9, 59, yX1_init), (RX9, 66, yX2_init), (RX3, 41, yX2_init)]
def ab_strs : List (String × Nat × String × Nat) := [(RX4, 19, "equal,range", 0), (RX4, 66, "x,of", 1), (RX5, 50, "le,lt,ge,gt,eq,ne,in,and,or,xor,less,not,all,none,result", 2), (RX9, 324, "there is none such", 3), (RX9, 331, "an argument is not one of those allowed", 4), (RX9, 336, "not in this state", 5)]
def ab_cast : List (String × String) := [("java/util/NoSuchElementException", "java/util/NoSuchElementException"), ("java/lang/IllegalArgumentException", "java/lang/IllegalArgumentException"), ("java/lang/IllegalStateException", "java/lang/IllegalStateException")]
def ab_ncast : List (String × String) := [("java/util/NoSuchElementException", "java/lang/IllegalArgumentException"), ("java/util/NoSuchElementException", "java/lang/IllegalStateException"), ("java/lang/IllegalArgumentException", "java/util/NoSuchElementException"), ("java/lang/IllegalArgumentException", "java/lang/IllegalStateException"), ("java/lang/IllegalStateException", "java/util/NoSuchElementException"), ("java/lang/IllegalStateException", "java/lang/IllegalArgumentException")]
def ab_decl : List MethodName := [Bundle.initS "java/lang/RuntimeException", Bundle.initS "java/lang/Exception", Bundle.initS Bundle.tN]
def ab_sl : List Nat := [11, 4, 56]
def ab_sb : List (List Int32) := [[101, 113, 117, 97, 108, 44, 114, 97, 110, 103, 101], [120, 44, 111, 102], [108, 101, 44, 108, 116, 44, 103, 101, 44, 103, 116, 44, 101, 113, 44, 110, 101, 44, 105, 110, 44, 97, 110, 100, 44, 111, 114, 44, 120, 111, 114, 44, 108, 101, 115, 115, 44, 110, 111, 116, 44, 97, 108, 108, 44, 110, 111, 110, 101, 44, 114, 101, 115, 117, 108, 116]]
/-- cA is the class of arrays of cB, the arrays of ints -/
def ab_RM (cA cB : ClassId) (U : State) : Prop := ∃ kA : Class, U.vm.classes[cA]? = some kA ∧ kA.kind = .array cB (.array .int)
theorem ab_RM.moved {cA cB : ClassId} {u U : State} (hvm : u.vm.Alike U.vm) (h : ab_RM cA cB u) : ab_RM cA cB U := by
  obtain ⟨kA, h1, h2⟩ := h
  obtain ⟨k1, hk1, he⟩ := hvm.2.2 _ _ h1
  exact ⟨k1, hk1, by rw [he]; exact h2⟩
def ab_KX (X : ab_X) (U : State) : Prop :=
  (∀ q ∈ ab_nest, va_Nw (.methodLinkNest q.1 q.2.1 q.2.2 RX9) U) ∧ (∀ q ∈ ab_strs, vk_R q.1 q.2.1 q.2.2.1 (X.2.2.2.2.1 q.2.2.2) U) ∧ ((∀ q ∈ ab_cast, va_Nw (.castable q.1 q.2) U) ∧ ∀ q ∈ ab_decl, va_Nw (.declares q) U) ∧ (va_AO RX2 U ∧ va_AO RX3 U) ∧
  (vx_Zq Bundle.tN "UNASSIGNED_STACK" Bundle.steD (fun q => X.1 ≤ q) U X.2.2.2.2.2 ∧ vx_Zq Bundle.tN "SUPPRESSED_SENTINEL" Bundle.listD (fun q => X.1 ≤ q) U X.2.2.2.2.2) ∧
  ((vk_S 3 ab_sl ab_sb X.2.2.2.2.1 (fun k => X.2.2.2.2.1 (10 + k)) (fun q => X.1 ≤ q) U X.2.2.2.2.2 ∧ va_Z "java/lang/String" "COMPACT_STRINGS" "Z" (.int 1) (fun q => X.1 ≤ q) U X.2.2.2.2.2) ∧ (va_Z "jdk/internal/util/Preconditions" "SIOOBE_FORMATTER" "Ljava/util/function/BiFunction;" .null (fun q => X.1 ≤ q) U X.2.2.2.2.2 ∨ va_Z "jdk/internal/util/Preconditions" "SIOOBE_FORMATTER" "Ljava/util/function/BiFunction;" (.ref (X.2.2.2.2.1 20)) (fun q => X.1 ≤ q) U X.2.2.2.2.2) ∧ (∀ q ∈ ab_ncast, va_Nc q.1 q.2 U) ∧ ab_RM (X.2.2.2.1 2) (X.2.2.1 0) U) ∧ X.2.2.2.2.2.size = X.1
def ab_K (X : ab_X) (U : State) : Prop := va_K X.2.1 vwCl (ab_t X) U ∧ ab_KX X U
theorem ab_K_warm {X : ab_X} {s U : State} (hW : s.WarmedH U.vm) (h : ab_K X s) : ab_K X U := by
  obtain ⟨h0, h1, h2, h3, ⟨h4, h5⟩, ⟨h6, h7⟩, ⟨⟨h8, ha⟩, hb, hd, he⟩, h9⟩ := h
  exact ⟨h0.moved hW.alike, fun q hq => va_Nw.warmM hW (h1 q hq), fun q hq => vk_R.warm hW (h2 q hq), ⟨fun q hq => va_Nw.warmC hW (h3.1 q hq), fun q hq => va_Nw.warmD hW (h3.2 q hq)⟩, ⟨h4.moved hW.alike, h5.moved hW.alike⟩, ⟨h6.moved hW.alike, h7.moved hW.alike⟩, ⟨⟨h8.moved hW.alike, ha.moved hW.alike⟩, hb.imp (fun h => h.moved hW.alike) (fun h => h.moved hW.alike), fun q hq => (hd q hq).moved hW.alike, he.moved hW.alike⟩, h9⟩
theorem ab_K_same {X : ab_X} {u U : State} (hv : U.vm = u.vm) (h : ab_K X u) : ab_K X U := by
  obtain ⟨h0, h1, h2, h3, ⟨h4, h5⟩, ⟨h6, h7⟩, ⟨⟨h8, ha⟩, hb, hd, he⟩, h9⟩ := h
  have hA : u.vm.Alike U.vm := by rw [hv]; exact Vm.Alike.refl u.vm
  exact ⟨h0.moved hA, fun q hq => va_Nw.same rfl hv.symm (h1 q hq), fun q hq => vk_R.same hv (h2 q hq), ⟨fun q hq => va_Nw.same rfl hv.symm (h3.1 q hq), fun q hq => va_Nw.same rfl hv.symm (h3.2 q hq)⟩, ⟨h4.moved hA, h5.moved hA⟩, ⟨h6.moved hA, h7.moved hA⟩, ⟨⟨h8.moved hA, ha.moved hA⟩, hb.imp (fun h => h.moved hA) (fun h => h.moved hA), fun q hq => (hd q hq).moved hA, he.moved hA⟩, h9⟩
def ab_ws : List Cond := lw_tbl.filter goodWord
def ab_g (p : Program) (l : Launch) (e : Env) (R : Room) (s : State) (m : MethodId) (args : Array Value) (below : List Frame) (meth : Method) (c : Code) (Q : State → Prop) (X : ab_X) (nL : Nat) (pc : Nat) (L : ab_L) (S : List ab_V) (σ : ab_H) (k n : Nat) : Prop :=
  ∀ (H : Heap) (locs : List Loc) (ls : Array Slot), ab_hr X σ H → (∀ z ∈ locs, X.1 ≤ z.base) → ab_lr X nL L ls → k ≤ R.cells → n ≤ R.slots → W p l e R s m args below meth c H locs k n Q (F0 m pc ls (S.map (ab_v X)))
def ab_fx (p : Program) (s : State) (m : MethodId) (args : Array Value) (c : Code) (X : ab_X) (nL : Nat) (cc : ByteArray) (own : String) : Prop :=
  p.tables.exec = Jvm.exec ∧ c.code = cc ∧ c.maxLocals = nL ∧ s.vm.findClass own = some m.cls ∧ (∀ w ∈ ab_ws, w.before args s = true) ∧ ab_K X s
theorem ab_i32 (a : Int) (h : ab_R a) : (Int32.ofInt a).toInt = a := by
  rw [Int32.toInt_ofInt]
  unfold ab_R at h
  have e : (Int32.size : Int) = 4294967296 := rfl
  apply Int.bmod_eq_of_le <;> omega
theorem ab_of (x : Int32) : Int32.ofInt x.toInt = x := Int32.ofInt_toInt x
theorem ab_lt {a b : Int} (ha : ab_R a) (hb : ab_R b) : Int32.ofInt a < Int32.ofInt b ↔ a < b := by
  rw [Int32.lt_iff_toInt_lt, ab_i32 a ha, ab_i32 b hb]
theorem ab_le {a b : Int} (ha : ab_R a) (hb : ab_R b) : Int32.ofInt a ≤ Int32.ofInt b ↔ a ≤ b := by
  rw [Int32.le_iff_toInt_le, ab_i32 a ha, ab_i32 b hb]
theorem ab_eq {a b : Int} (ha : ab_R a) (hb : ab_R b) : Int32.ofInt a = Int32.ofInt b ↔ a = b := by
  constructor
  · intro h
    have := congrArg Int32.toInt h
    rwa [ab_i32 a ha, ab_i32 b hb] at this
  · intro h; rw [h]
theorem ab_R0 : ab_R 0 := by unfold ab_R; omega
theorem ab_clamp {i : Int} (h0 : 0 ≤ i) (h : ab_R i) : (Int32.ofInt i).toNatClampNeg = i.toNat := by
  unfold Int32.toNatClampNeg
  rw [ab_i32 i h]
theorem ab_in {i : Int} {n : Nat} (h0 : 0 ≤ i) (h : ab_R i) (hn : i < n) : vp_in (Int32.ofInt i) n := by
  rw [vp_in_iff, ab_i32 i h]
  exact ⟨h0, hn⟩
section AbOps
variable {p : Program} {l : Launch} {e : Env} {R : Room} {s : State} {m : MethodId} {args : Array Value} {below : List Frame} {meth : Method} {c : Code} {Q : State → Prop} {X : ab_X} {nL : Nat} {cc : ByteArray} {own : String} {pc : Nat} {L : ab_L} {S : List ab_V} {σ : ab_H} {k n : Nat}
theorem ab_iconst {z : Int} (F : ab_fx p s m args c X nL cc own) (hd : decode cc pc = .ok (.iconst z, 1)) (h : ab_g p l e R s m args below meth c Q X nL (pc + 1) L (.inl z :: S) σ k n) : ab_g p l e R s m args below meth c Q X nL pc L S σ k n :=
  fun H locs ls hr hz hl hk hn => lv_iconst F.1 F.2.1 hd rfl (h H locs ls hr hz hl hk hn)
theorem ab_bipush {z : Int} (F : ab_fx p s m args c X nL cc own) (hd : decode cc pc = .ok (.bipush z, 2)) (hz1 : (Int8.ofInt z).toInt32 = Int32.ofInt z) (h : ab_g p l e R s m args below meth c Q X nL (pc + 2) L (.inl z :: S) σ k n) : ab_g p l e R s m args below meth c Q X nL pc L S σ k n :=
  fun H locs ls hr hz hl hk hn => lv_bipush F.1 F.2.1 hd hz1 (h H locs ls hr hz hl hk hn)
theorem ab_sipush {z : Int} (F : ab_fx p s m args c X nL cc own) (hd : decode cc pc = .ok (.sipush z, 3)) (hz1 : (Int16.ofInt z).toInt32 = Int32.ofInt z) (h : ab_g p l e R s m args below meth c Q X nL (pc + 3) L (.inl z :: S) σ k n) : ab_g p l e R s m args below meth c Q X nL pc L S σ k n :=
  fun H locs ls hr hz hl hk hn => lv_sipush F.1 F.2.1 hd hz1 (h H locs ls hr hz hl hk hn)
theorem ab_null (F : ab_fx p s m args c X nL cc own) (hd : decode cc pc = .ok (.aconst_null, 1)) (h : ab_g p l e R s m args below meth c Q X nL (pc + 1) L (.inr (.inl none) :: S) σ k n) : ab_g p l e R s m args below meth c Q X nL pc L S σ k n :=
  fun H locs ls hr hz hl hk hn => lv_null F.1 F.2.1 hd (h H locs ls hr hz hl hk hn)
theorem ab_iload {i : Nat} {z : Int} (F : ab_fx p s m args c X nL cc own) (hd : decode cc pc = .ok (.iload i, 2)) (hL : L[i]? = some (some (.inl z))) (h : ab_g p l e R s m args below meth c Q X nL (pc + 2) L (.inl z :: S) σ k n) : ab_g p l e R s m args below meth c Q X nL pc L S σ k n :=
  fun H locs ls hr hz hl hk hn => lv_iload F.1 F.2.1 hd (hl.2.2.2 i _ hL).2 (h H locs ls hr hz hl hk hn)
theorem ab_iload_n {i : Fin 4} {z : Int} (F : ab_fx p s m args c X nL cc own) (hd : decode cc pc = .ok (.iload_n i, 1)) (hL : L[(i : Nat)]? = some (some (.inl z))) (h : ab_g p l e R s m args below meth c Q X nL (pc + 1) L (.inl z :: S) σ k n) : ab_g p l e R s m args below meth c Q X nL pc L S σ k n :=
  fun H locs ls hr hz hl hk hn => lv_iload_n F.1 F.2.1 hd rfl (hl.2.2.2 _ _ hL).2 (h H locs ls hr hz hl hk hn)
theorem ab_aload {i : Nat} {v : ab_V} (F : ab_fx p s m args c X nL cc own) (hd : decode cc pc = .ok (.aload i, 2)) (hv : ab_isr v = true) (hL : L[i]? = some (some v)) (h : ab_g p l e R s m args below meth c Q X nL (pc + 2) L (v :: S) σ k n) : ab_g p l e R s m args below meth c Q X nL pc L S σ k n :=
  fun H locs ls hr hz hl hk hn => by
    have h1 := h H locs ls hr hz hl hk hn
    have h2 := (hl.2.2.2 _ _ hL).2
    match v, hv, h1, h2 with
    | .inr (.inl (some a)), _, h1, h2 => exact lv_aload F.1 F.2.1 hd h2 h1
    | .inr (.inl none), _, h1, h2 => exact lv_aloadN F.1 F.2.1 hd h2 h1
    | .inr (.inr (.inr a)), _, h1, h2 => exact lv_aload F.1 F.2.1 hd h2 h1
theorem ab_aload_n {i : Fin 4} {v : ab_V} (F : ab_fx p s m args c X nL cc own) (hd : decode cc pc = .ok (.aload_n i, 1)) (hv : ab_isr v = true) (hL : L[(i : Nat)]? = some (some v)) (h : ab_g p l e R s m args below meth c Q X nL (pc + 1) L (v :: S) σ k n) : ab_g p l e R s m args below meth c Q X nL pc L S σ k n :=
  fun H locs ls hr hz hl hk hn => by
    have h1 := h H locs ls hr hz hl hk hn
    have h2 := (hl.2.2.2 _ _ hL).2
    match v, hv, h1, h2 with
    | .inr (.inl (some a)), _, h1, h2 => exact lv_aload_n F.1 F.2.1 hd rfl h2 h1
    | .inr (.inl none), _, h1, h2 => exact lv_aload_nN F.1 F.2.1 hd rfl h2 h1
    | .inr (.inr (.inr a)), _, h1, h2 => exact lv_aload_n F.1 F.2.1 hd rfl h2 h1
theorem ab_iadd {x y : Int} (F : ab_fx p s m args c X nL cc own) (hd : decode cc pc = .ok (.iadd, 1)) (h : ab_g p l e R s m args below meth c Q X nL (pc + 1) L (.inl (x + y) :: S) σ k n) : ab_g p l e R s m args below meth c Q X nL pc L (.inl y :: .inl x :: S) σ k n :=
  fun H locs ls hr hz hl hk hn => lv_iadd F.1 F.2.1 hd (by rw [← Int32.ofInt_add]; exact h H locs ls hr hz hl hk hn)
theorem ab_isub {x y : Int} (F : ab_fx p s m args c X nL cc own) (hd : decode cc pc = .ok (.isub, 1)) (h : ab_g p l e R s m args below meth c Q X nL (pc + 1) L (.inl (x - y) :: S) σ k n) : ab_g p l e R s m args below meth c Q X nL pc L (.inl y :: .inl x :: S) σ k n :=
  fun H locs ls hr hz hl hk hn => lv_isub F.1 F.2.1 hd (by rw [← Int32.ofInt_sub]; exact h H locs ls hr hz hl hk hn)
theorem ab_imul {x y : Int} (F : ab_fx p s m args c X nL cc own) (hd : decode cc pc = .ok (.imul, 1)) (h : ab_g p l e R s m args below meth c Q X nL (pc + 1) L (.inl (x * y) :: S) σ k n) : ab_g p l e R s m args below meth c Q X nL pc L (.inl y :: .inl x :: S) σ k n :=
  fun H locs ls hr hz hl hk hn => lv_imul F.1 F.2.1 hd (by rw [← Int32.ofInt_mul]; exact h H locs ls hr hz hl hk hn)
theorem ab_iand {x y : Int} (F : ab_fx p s m args c X nL cc own) (hd : decode cc pc = .ok (.iand, 1)) (h : ab_g p l e R s m args below meth c Q X nL (pc + 1) L (.inl (ab_and x y) :: S) σ k n) : ab_g p l e R s m args below meth c Q X nL pc L (.inl y :: .inl x :: S) σ k n :=
  fun H locs ls hr hz hl hk hn => lv_iand F.1 F.2.1 hd (by rw [← ab_of (Int32.ofInt x &&& Int32.ofInt y)]; exact h H locs ls hr hz hl hk hn)
theorem ab_ior {x y : Int} (F : ab_fx p s m args c X nL cc own) (hd : decode cc pc = .ok (.ior, 1)) (h : ab_g p l e R s m args below meth c Q X nL (pc + 1) L (.inl (ab_or x y) :: S) σ k n) : ab_g p l e R s m args below meth c Q X nL pc L (.inl y :: .inl x :: S) σ k n :=
  fun H locs ls hr hz hl hk hn => lv_ior F.1 F.2.1 hd (by rw [← ab_of (Int32.ofInt x ||| Int32.ofInt y)]; exact h H locs ls hr hz hl hk hn)
theorem ab_ixor {x y : Int} (F : ab_fx p s m args c X nL cc own) (hd : decode cc pc = .ok (.ixor, 1)) (h : ab_g p l e R s m args below meth c Q X nL (pc + 1) L (.inl (ab_xor x y) :: S) σ k n) : ab_g p l e R s m args below meth c Q X nL pc L (.inl y :: .inl x :: S) σ k n :=
  fun H locs ls hr hz hl hk hn => lv_ixor F.1 F.2.1 hd (by rw [← ab_of (Int32.ofInt x ^^^ Int32.ofInt y)]; exact h H locs ls hr hz hl hk hn)
theorem ab_ishl {x y : Int} (F : ab_fx p s m args c X nL cc own) (hd : decode cc pc = .ok (.ishl, 1)) (h : ab_g p l e R s m args below meth c Q X nL (pc + 1) L (.inl (ab_shl x y) :: S) σ k n) : ab_g p l e R s m args below meth c Q X nL pc L (.inl y :: .inl x :: S) σ k n :=
  fun H locs ls hr hz hl hk hn => lv_ishl F.1 F.2.1 hd (by rw [← ab_of (Int32.ofInt x <<< (Int32.ofInt y &&& 31))]; exact h H locs ls hr hz hl hk hn)
theorem ab_ishr {x y : Int} (F : ab_fx p s m args c X nL cc own) (hd : decode cc pc = .ok (.ishr, 1)) (h : ab_g p l e R s m args below meth c Q X nL (pc + 1) L (.inl (ab_shr x y) :: S) σ k n) : ab_g p l e R s m args below meth c Q X nL pc L (.inl y :: .inl x :: S) σ k n :=
  fun H locs ls hr hz hl hk hn => lv_ishr F.1 F.2.1 hd (by rw [← ab_of (Int32.ofInt x >>> (Int32.ofInt y &&& 31))]; exact h H locs ls hr hz hl hk hn)
theorem ab_iushr {x y : Int} (F : ab_fx p s m args c X nL cc own) (hd : decode cc pc = .ok (.iushr, 1)) (h : ab_g p l e R s m args below meth c Q X nL (pc + 1) L (.inl (ab_ushr x y) :: S) σ k n) : ab_g p l e R s m args below meth c Q X nL pc L (.inl y :: .inl x :: S) σ k n :=
  fun H locs ls hr hz hl hk hn => lv_iushr F.1 F.2.1 hd (v := Int32.ofInt (ab_ushr x y)) (by unfold ab_ushr; rw [ab_of]) (h H locs ls hr hz hl hk hn)
theorem ab_dv0 {x y : Int} (hx : 0 ≤ x) (hxR : ab_R x) (hy : 0 < y) (hyR : ab_R y) : Int32.ofInt x / Int32.ofInt y = Int32.ofInt (x / y) ∧ ¬ Int32.ofInt y = 0 := by
  constructor
  · apply Int32.toInt_inj.mp
    have e1 : ab_R (x / y) := by
      unfold ab_R at *
      have h1 := Int.ediv_le_self y hx
      have h2 : 0 ≤ x / y := Int.ediv_nonneg hx (by omega)
      omega
    rw [Int32.toInt_div, ab_i32 _ e1, ab_i32 _ hxR, ab_i32 _ hyR, Int.tdiv_eq_ediv_of_nonneg hx]
    exact Int.bmod_eq_of_le (by unfold ab_R at e1; omega) (by unfold ab_R at e1; omega)
  · intro h
    have := congrArg Int32.toInt h
    rw [ab_i32 _ hyR] at this
    simp at this
    omega
theorem ab_idiv {x y : Int} (F : ab_fx p s m args c X nL cc own) (hd : decode cc pc = .ok (.idiv, 1)) (hx : 0 ≤ x) (hxR : ab_R x) (hy : 0 < y) (hyR : ab_R y) (h : ab_g p l e R s m args below meth c Q X nL (pc + 1) L (.inl (x / y) :: S) σ k n) : ab_g p l e R s m args below meth c Q X nL pc L (.inl y :: .inl x :: S) σ k n :=
  fun H locs ls hr hz hl hk hn => lv_idiv F.1 F.2.1 hd (ab_dv0 hx hxR hy hyR).2 (by rw [(ab_dv0 hx hxR hy hyR).1]; exact h H locs ls hr hz hl hk hn)
theorem ab_irem {x y : Int} (F : ab_fx p s m args c X nL cc own) (hd : decode cc pc = .ok (.irem, 1)) (hx : 0 ≤ x) (hxR : ab_R x) (hy : 0 < y) (hyR : ab_R y) (h : ab_g p l e R s m args below meth c Q X nL (pc + 1) L (.inl (x % y) :: S) σ k n) : ab_g p l e R s m args below meth c Q X nL pc L (.inl y :: .inl x :: S) σ k n :=
  fun H locs ls hr hz hl hk hn => lv_irem F.1 F.2.1 hd (ab_dv0 hx hxR hy hyR).2 (by
    rw [(ab_dv0 hx hxR hy hyR).1, ← Int32.ofInt_mul, ← Int32.ofInt_sub, show x - x / y * y = x % y by rw [Int.emod_def, Int.mul_comm]]
    exact h H locs ls hr hz hl hk hn)
theorem ab_dup {v : ab_V} (F : ab_fx p s m args c X nL cc own) (hd : decode cc pc = .ok (.dup, 1)) (hv : ab_n1 v = true) (h : ab_g p l e R s m args below meth c Q X nL (pc + 1) L (v :: v :: S) σ k n) : ab_g p l e R s m args below meth c Q X nL pc L (v :: S) σ k n :=
  fun H locs ls hr hz hl hk hn => lv_dup F.1 F.2.1 hd (by match v, hv with
    | .inl _, _ => rfl
    | .inr (.inl none), _ => rfl
    | .inr (.inl (some _)), _ => rfl
    | .inr (.inr (.inr _)), _ => rfl) (h H locs ls hr hz hl hk hn)
theorem ab_cat {v : ab_V} (hv : ab_n1 v = true) : (ab_v X v).category = 1 := by
  match v, hv with
    | .inl _, _ => rfl
    | .inr (.inl none), _ => rfl
    | .inr (.inl (some _)), _ => rfl
    | .inr (.inr (.inr _)), _ => rfl
theorem ab_dup2 {v w : ab_V} (F : ab_fx p s m args c X nL cc own) (hd : decode cc pc = .ok (.dup2, 1)) (hv : ab_n1 v = true) (hw : ab_n1 w = true) (h : ab_g p l e R s m args below meth c Q X nL (pc + 1) L (v :: w :: v :: w :: S) σ k n) : ab_g p l e R s m args below meth c Q X nL pc L (v :: w :: S) σ k n :=
  fun H locs ls hr hz hl hk hn => lv_dup2_11 F.1 F.2.1 hd (ab_cat hv) (ab_cat hw) (h H locs ls hr hz hl hk hn)
theorem ab_pop {v : ab_V} (F : ab_fx p s m args c X nL cc own) (hd : decode cc pc = .ok (.pop, 1)) (hv : ab_n1 v = true) (h : ab_g p l e R s m args below meth c Q X nL (pc + 1) L S σ k n) : ab_g p l e R s m args below meth c Q X nL pc L (v :: S) σ k n :=
  fun H locs ls hr hz hl hk hn => lv_pop F.1 F.2.1 hd (ab_cat hv) (h H locs ls hr hz hl hk hn)
theorem ab_goto {off : Int} {tgt : Nat} (F : ab_fx p s m args c X nL cc own) (hd : decode cc pc = .ok (.goto off, 3)) (ht : (pc : Int) + off = (tgt : Int)) (h : ab_g p l e R s m args below meth c Q X nL tgt L S σ k n) : ab_g p l e R s m args below meth c Q X nL pc L S σ k n :=
  fun H locs ls hr hz hl hk hn => lv_goto F.1 F.2.1 hd ht (h H locs ls hr hz hl hk hn)
theorem ab_icmp {cd : Jvm.ClassFile.Cond} {x y : Int} {off : Int} {tgt : Nat} (F : ab_fx p s m args c X nL cc own) (hd : decode cc pc = .ok (.if_icmp cd off, 3)) (ht : (pc : Int) + off = (tgt : Int)) (hx : ab_R x) (hy : ab_R y) (h1 : ab_cmp cd x y → ab_g p l e R s m args below meth c Q X nL tgt L S σ k n) (h2 : ¬ ab_cmp cd x y → ab_g p l e R s m args below meth c Q X nL (pc + 3) L S σ k n) : ab_g p l e R s m args below meth c Q X nL pc L (.inl y :: .inl x :: S) σ k n :=
  fun H locs ls hr hz hl hk hn => by
    cases cd with
    | eq => exact lv_icmp_eq F.1 F.2.1 hd ht (fun q => h1 ((ab_eq hx hy).mp q) H locs ls hr hz hl hk hn) (fun q => h2 (fun r => q ((ab_eq hx hy).mpr r)) H locs ls hr hz hl hk hn)
    | ne => exact lv_icmp_ne F.1 F.2.1 hd ht (fun q => h1 (fun r => q ((ab_eq hx hy).mpr r)) H locs ls hr hz hl hk hn) (fun q => h2 (fun r => r ((ab_eq hx hy).mp q)) H locs ls hr hz hl hk hn)
    | lt => exact lv_icmp_lt F.1 F.2.1 hd ht (fun q => h1 ((ab_lt hx hy).mp q) H locs ls hr hz hl hk hn) (fun q => h2 (fun r => q ((ab_lt hx hy).mpr r)) H locs ls hr hz hl hk hn)
    | ge => exact lv_icmp_ge F.1 F.2.1 hd ht (fun q => h1 ((ab_le hy hx).mp q) H locs ls hr hz hl hk hn) (fun q => h2 (fun r => q ((ab_le hy hx).mpr r)) H locs ls hr hz hl hk hn)
    | gt => exact lv_icmp_gt F.1 F.2.1 hd ht (fun q => h1 ((ab_lt hy hx).mp q) H locs ls hr hz hl hk hn) (fun q => h2 (fun r => q ((ab_lt hy hx).mpr r)) H locs ls hr hz hl hk hn)
    | le => exact lv_icmp_le F.1 F.2.1 hd ht (fun q => h1 ((ab_le hx hy).mp q) H locs ls hr hz hl hk hn) (fun q => h2 (fun r => q ((ab_le hx hy).mpr r)) H locs ls hr hz hl hk hn)
theorem ab_if {cd : Jvm.ClassFile.Cond} {x : Int} {off : Int} {tgt : Nat} (F : ab_fx p s m args c X nL cc own) (hd : decode cc pc = .ok (.ifCond cd off, 3)) (ht : (pc : Int) + off = (tgt : Int)) (hx : ab_R x) (h1 : ab_cmp cd x 0 → ab_g p l e R s m args below meth c Q X nL tgt L S σ k n) (h2 : ¬ ab_cmp cd x 0 → ab_g p l e R s m args below meth c Q X nL (pc + 3) L S σ k n) : ab_g p l e R s m args below meth c Q X nL pc L (.inl x :: S) σ k n :=
  fun H locs ls hr hz hl hk hn => by
    have e0 : (0 : Int32) = Int32.ofInt 0 := rfl
    cases cd with
    | eq => exact lv_if_eq F.1 F.2.1 hd ht (fun q => h1 ((ab_eq hx ab_R0).mp (e0 ▸ q)) H locs ls hr hz hl hk hn) (fun q => h2 (fun r => q ((ab_eq hx ab_R0).mpr r)) H locs ls hr hz hl hk hn)
    | ne => exact lv_if_ne F.1 F.2.1 hd ht (fun q => h1 (fun r => q ((ab_eq hx ab_R0).mpr r)) H locs ls hr hz hl hk hn) (fun q => h2 (fun r => r ((ab_eq hx ab_R0).mp q)) H locs ls hr hz hl hk hn)
    | lt => exact lv_if_lt F.1 F.2.1 hd ht (fun q => h1 ((ab_lt hx ab_R0).mp q) H locs ls hr hz hl hk hn) (fun q => h2 (fun r => q ((ab_lt hx ab_R0).mpr r)) H locs ls hr hz hl hk hn)
    | ge => exact lv_if_ge F.1 F.2.1 hd ht (fun q => h1 ((ab_le ab_R0 hx).mp q) H locs ls hr hz hl hk hn) (fun q => h2 (fun r => q ((ab_le ab_R0 hx).mpr r)) H locs ls hr hz hl hk hn)
    | gt => exact lv_if_gt F.1 F.2.1 hd ht (fun q => h1 ((ab_lt ab_R0 hx).mp q) H locs ls hr hz hl hk hn) (fun q => h2 (fun r => q ((ab_lt ab_R0 hx).mpr r)) H locs ls hr hz hl hk hn)
    | le => exact lv_if_le F.1 F.2.1 hd ht (fun q => h1 ((ab_le hx ab_R0).mp q) H locs ls hr hz hl hk hn) (fun q => h2 (fun r => q ((ab_le hx ab_R0).mpr r)) H locs ls hr hz hl hk hn)
end AbOps
