-- ===== an instruction read off a list of bytes ====
theorem dc_bind {α β : Type} {m : Decoder α} {K : α → Decoder β} {cc : ByteArray} {p p' : Nat} {a : α} (h : m.runAt cc p = .ok (a, p')) : (m >>= K).runAt cc p = (K a).runAt cc p' := by
  have h' : m cc p = Except.ok (a, p') := h
  show (Except.bind (m cc p) _) = _
  rw [h']
  rfl
theorem dc_r1 {cc : ByteArray} {p n : Nat} {b : UInt8} (h : cc.data.toList[p]? = some b) (hb : b.toNat = n) : (Reader.u1 : Decoder Nat).runAt cc p = .ok (n, p + 1) := by
  obtain ⟨h1, h2⟩ := List.getElem?_eq_some_iff.mp h
  have hlt : p < cc.size := by
    rw [Array.length_toList] at h1
    exact h1
  have e : (Reader.u1 : Decoder Nat).runAt cc p = Reader.runAt (dite (p < cc.size) (fun h => ((do set (p + 1); pure cc[p].toNat) : Decoder Nat)) (fun _ => throw (HasTruncated.truncated p))) cc p := rfl
  rw [e, dif_pos hlt]
  have e2 : cc[p].toNat = n := by
    rw [← hb, ← h2]
    rfl
  rw [e2]
  rfl
theorem dc_r2 {cc : ByteArray} {p n m : Nat} (h : (Reader.u1 : Decoder Nat).runAt cc p = .ok (n, p + 1)) (h' : (Reader.u1 : Decoder Nat).runAt cc (p + 1) = .ok (m, p + 2)) : (Reader.u2 : Decoder Nat).runAt cc p = .ok (n * 256 + m, p + 2) := by
  have e : (Reader.u2 : Decoder Nat).runAt cc p = Reader.runAt (((Reader.u1 : Decoder Nat) >>= fun hi => (Reader.u1 : Decoder Nat) >>= fun lo => pure (hi * 256 + lo)) : Decoder Nat) cc p := rfl
  rw [e, dc_bind h, dc_bind h']
  rfl
theorem dc_map {α β : Type} {m : Decoder α} {f : α → β} {cc : ByteArray} {p p' : Nat} {a : α} (h : m.runAt cc p = .ok (a, p')) : (f <$> m : Decoder β).runAt cc p = .ok (f a, p') := by
  have h' : m cc p = Except.ok (a, p') := h
  show (Except.bind (m cc p) _) = _
  rw [h']
  rfl
def dc_at (l : List UInt8) (j : Nat) : Nat := match l[j]? with
  | some b => b.toNat
  | none => 256
theorem dc_at_r {cc : ByteArray} {pc j : Nat} (h : dc_at (cc.data.toList.drop pc) j < 256) : (Reader.u1 : Decoder Nat).runAt cc (pc + j) = .ok (dc_at (cc.data.toList.drop pc) j, pc + j + 1) := by
  unfold dc_at at h ⊢
  rw [List.getElem?_drop] at h ⊢
  cases q : cc.data.toList[pc + j]? with
  | none =>
    rw [q] at h
    exact absurd h (Nat.lt_irrefl _)
  | some b => exact dc_r1 q rfl
theorem dc_at0 {cc : ByteArray} {pc n : Nat} (h : dc_at (cc.data.toList.drop pc) 0 = n) (hn : n < 256) : (Reader.u1 : Decoder Nat).runAt cc pc = .ok (n, pc + 1) := by
  have := dc_at_r (cc := cc) (pc := pc) (j := 0) (by omega)
  rw [h] at this
  exact this
theorem dc_at2 {cc : ByteArray} {pc : Nat} (h1 : dc_at (cc.data.toList.drop pc) 1 < 256) (h2 : dc_at (cc.data.toList.drop pc) 2 < 256) : (Reader.u2 : Decoder Nat).runAt cc (pc + 1) = .ok (dc_at (cc.data.toList.drop pc) 1 * 256 + dc_at (cc.data.toList.drop pc) 2, pc + 3) :=
  dc_r2 (p := pc + 1) (dc_at_r (j := 1) h1) (dc_at_r (j := 2) h2)
theorem dc_at_s {cc : ByteArray} {pc : Nat} (h2 : dc_at (cc.data.toList.drop pc) 2 < 256) : (Reader.u1 : Decoder Nat).runAt cc (pc + 2) = .ok (dc_at (cc.data.toList.drop pc) 2, pc + 3) := dc_at_r (j := 2) h2
def dc_fin (pc : Nat) (z : Except DecodeError (Instr × Nat)) : Except DecodeError (Instr × Nat) := Except.bind z (fun q => .ok (q.1, q.2 - pc))
def dc_S (l : List UInt8) : Option (Instr × Nat) :=
  if dc_at l 0 = 42 then (some (.aload_n 0, 1)) else
  if dc_at l 0 = 4 then (some (.iconst 1, 1)) else
  if dc_at l 0 = 96 then (some (.iadd, 1)) else
  if dc_at l 0 = 46 then (some (.iaload, 1)) else
  if dc_at l 0 = 21 then (if dc_at l 1 < 256 then some (.iload (dc_at l 1), 2) else none) else
  if dc_at l 0 = 45 then (some (.aload_n 3, 1)) else
  if dc_at l 0 = 43 then (some (.aload_n 1, 1)) else
  if dc_at l 0 = 44 then (some (.aload_n 2, 1)) else
  if dc_at l 0 = 3 then (some (.iconst 0, 1)) else
  if dc_at l 0 = 5 then (some (.iconst 2, 1)) else
  if dc_at l 0 = 6 then (some (.iconst 3, 1)) else
  if dc_at l 0 = 7 then (some (.iconst 4, 1)) else
  if dc_at l 0 = 8 then (some (.iconst 5, 1)) else
  if dc_at l 0 = 172 then (some (.ireturn, 1)) else
  if dc_at l 0 = 159 then (if dc_at l 1 < 256 ∧ dc_at l 2 < 256 then some (.if_icmp .eq (Reader.signed 16 (dc_at l 1 * 256 + dc_at l 2)), 3) else none) else
  if dc_at l 0 = 182 then (if dc_at l 1 < 256 ∧ dc_at l 2 < 256 then some (.invokevirtual (dc_at l 1 * 256 + dc_at l 2), 3) else none) else
  if dc_at l 0 = 184 then (if dc_at l 1 < 256 ∧ dc_at l 2 < 256 then some (.invokestatic (dc_at l 1 * 256 + dc_at l 2), 3) else none) else
  if dc_at l 0 = 54 then (if dc_at l 1 < 256 then some (.istore (dc_at l 1), 2) else none) else
  if dc_at l 0 = 9 then (some (.lconst 0, 1)) else
  if dc_at l 0 = 10 then (some (.lconst 1, 1)) else
  if dc_at l 0 = 47 then (some (.laload, 1)) else
  if dc_at l 0 = 76 then (some (.astore_n 1, 1)) else
  if dc_at l 0 = 77 then (some (.astore_n 2, 1)) else
  if dc_at l 0 = 78 then (some (.astore_n 3, 1)) else
  if dc_at l 0 = 89 then (some (.dup, 1)) else
  if dc_at l 0 = 100 then (some (.isub, 1)) else
  if dc_at l 0 = 126 then (some (.iand, 1)) else
  if dc_at l 0 = 133 then (some (.i2l, 1)) else
  if dc_at l 0 = 148 then (some (.lcmp, 1)) else
  if dc_at l 0 = 190 then (some (.arraylength, 1)) else
  if dc_at l 0 = 16 then (if dc_at l 1 < 256 then some (.bipush (Reader.signed 8 (dc_at l 1)), 2) else none) else
  if dc_at l 0 = 153 then (if dc_at l 1 < 256 ∧ dc_at l 2 < 256 then some (.ifCond .eq (Reader.signed 16 (dc_at l 1 * 256 + dc_at l 2)), 3) else none) else
  if dc_at l 0 = 154 then (if dc_at l 1 < 256 ∧ dc_at l 2 < 256 then some (.ifCond .ne (Reader.signed 16 (dc_at l 1 * 256 + dc_at l 2)), 3) else none) else
  if dc_at l 0 = 163 then (if dc_at l 1 < 256 ∧ dc_at l 2 < 256 then some (.if_icmp .gt (Reader.signed 16 (dc_at l 1 * 256 + dc_at l 2)), 3) else none) else
  if dc_at l 0 = 167 then (if dc_at l 1 < 256 ∧ dc_at l 2 < 256 then some (.goto (Reader.signed 16 (dc_at l 1 * 256 + dc_at l 2)), 3) else none) else
  if dc_at l 0 = 183 then (if dc_at l 1 < 256 ∧ dc_at l 2 < 256 then some (.invokespecial (dc_at l 1 * 256 + dc_at l 2), 3) else none) else
  if dc_at l 0 = 187 then (if dc_at l 1 < 256 ∧ dc_at l 2 < 256 then some (.new (dc_at l 1 * 256 + dc_at l 2), 3) else none) else
  if dc_at l 0 = 132 then (if dc_at l 1 < 256 ∧ dc_at l 2 < 256 then some (.iinc (dc_at l 1) (Reader.signed 8 (dc_at l 2)), 3) else none) else
  if dc_at l 0 = 188 then (if dc_at l 1 = 11 then some (.newarray .long, 2) else none) else
  none
theorem dc_42 {cc : ByteArray} {pc : Nat} (h0 : dc_at (cc.data.toList.drop pc) 0 = 42) : decode cc pc = .ok (.aload_n 0, 1) := by
  unfold decode Decoder.instr
  rw [dc_bind (dc_at0 h0 (by decide))]
  exact congrArg (fun n => Except.ok ((.aload_n 0 : Instr), n)) (Nat.add_sub_cancel_left pc 1)
theorem dc_4 {cc : ByteArray} {pc : Nat} (h0 : dc_at (cc.data.toList.drop pc) 0 = 4) : decode cc pc = .ok (.iconst 1, 1) := by
  unfold decode Decoder.instr
  rw [dc_bind (dc_at0 h0 (by decide))]
  exact congrArg (fun n => Except.ok ((.iconst 1 : Instr), n)) (Nat.add_sub_cancel_left pc 1)
theorem dc_96 {cc : ByteArray} {pc : Nat} (h0 : dc_at (cc.data.toList.drop pc) 0 = 96) : decode cc pc = .ok (.iadd, 1) := by
  unfold decode Decoder.instr
  rw [dc_bind (dc_at0 h0 (by decide))]
  exact congrArg (fun n => Except.ok ((.iadd : Instr), n)) (Nat.add_sub_cancel_left pc 1)
theorem dc_46 {cc : ByteArray} {pc : Nat} (h0 : dc_at (cc.data.toList.drop pc) 0 = 46) : decode cc pc = .ok (.iaload, 1) := by
  unfold decode Decoder.instr
  rw [dc_bind (dc_at0 h0 (by decide))]
  exact congrArg (fun n => Except.ok ((.iaload : Instr), n)) (Nat.add_sub_cancel_left pc 1)
theorem dc_21 {cc : ByteArray} {pc : Nat} (h0 : dc_at (cc.data.toList.drop pc) 0 = 21) (h1 : dc_at (cc.data.toList.drop pc) 1 < 256) : decode cc pc = .ok (.iload (dc_at (cc.data.toList.drop pc) 1), 2) := by
  unfold decode Decoder.instr
  rw [dc_bind (dc_at0 h0 (by decide))]
  refine (congrArg (dc_fin pc) (dc_bind (dc_at_r h1))).trans ?_
  exact congrArg (fun n => Except.ok ((.iload (dc_at (cc.data.toList.drop pc) 1) : Instr), n)) (Nat.add_sub_cancel_left pc 2)
theorem dc_45 {cc : ByteArray} {pc : Nat} (h0 : dc_at (cc.data.toList.drop pc) 0 = 45) : decode cc pc = .ok (.aload_n 3, 1) := by
  unfold decode Decoder.instr
  rw [dc_bind (dc_at0 h0 (by decide))]
  exact congrArg (fun n => Except.ok ((.aload_n 3 : Instr), n)) (Nat.add_sub_cancel_left pc 1)
theorem dc_43 {cc : ByteArray} {pc : Nat} (h0 : dc_at (cc.data.toList.drop pc) 0 = 43) : decode cc pc = .ok (.aload_n 1, 1) := by
  unfold decode Decoder.instr
  rw [dc_bind (dc_at0 h0 (by decide))]
  exact congrArg (fun n => Except.ok ((.aload_n 1 : Instr), n)) (Nat.add_sub_cancel_left pc 1)
theorem dc_44 {cc : ByteArray} {pc : Nat} (h0 : dc_at (cc.data.toList.drop pc) 0 = 44) : decode cc pc = .ok (.aload_n 2, 1) := by
  unfold decode Decoder.instr
  rw [dc_bind (dc_at0 h0 (by decide))]
  exact congrArg (fun n => Except.ok ((.aload_n 2 : Instr), n)) (Nat.add_sub_cancel_left pc 1)
theorem dc_3 {cc : ByteArray} {pc : Nat} (h0 : dc_at (cc.data.toList.drop pc) 0 = 3) : decode cc pc = .ok (.iconst 0, 1) := by
  unfold decode Decoder.instr
  rw [dc_bind (dc_at0 h0 (by decide))]
  exact congrArg (fun n => Except.ok ((.iconst 0 : Instr), n)) (Nat.add_sub_cancel_left pc 1)
theorem dc_5 {cc : ByteArray} {pc : Nat} (h0 : dc_at (cc.data.toList.drop pc) 0 = 5) : decode cc pc = .ok (.iconst 2, 1) := by
  unfold decode Decoder.instr
  rw [dc_bind (dc_at0 h0 (by decide))]
  exact congrArg (fun n => Except.ok ((.iconst 2 : Instr), n)) (Nat.add_sub_cancel_left pc 1)
theorem dc_6 {cc : ByteArray} {pc : Nat} (h0 : dc_at (cc.data.toList.drop pc) 0 = 6) : decode cc pc = .ok (.iconst 3, 1) := by
  unfold decode Decoder.instr
  rw [dc_bind (dc_at0 h0 (by decide))]
  exact congrArg (fun n => Except.ok ((.iconst 3 : Instr), n)) (Nat.add_sub_cancel_left pc 1)
theorem dc_7 {cc : ByteArray} {pc : Nat} (h0 : dc_at (cc.data.toList.drop pc) 0 = 7) : decode cc pc = .ok (.iconst 4, 1) := by
  unfold decode Decoder.instr
  rw [dc_bind (dc_at0 h0 (by decide))]
  exact congrArg (fun n => Except.ok ((.iconst 4 : Instr), n)) (Nat.add_sub_cancel_left pc 1)
theorem dc_8 {cc : ByteArray} {pc : Nat} (h0 : dc_at (cc.data.toList.drop pc) 0 = 8) : decode cc pc = .ok (.iconst 5, 1) := by
  unfold decode Decoder.instr
  rw [dc_bind (dc_at0 h0 (by decide))]
  exact congrArg (fun n => Except.ok ((.iconst 5 : Instr), n)) (Nat.add_sub_cancel_left pc 1)
theorem dc_172 {cc : ByteArray} {pc : Nat} (h0 : dc_at (cc.data.toList.drop pc) 0 = 172) : decode cc pc = .ok (.ireturn, 1) := by
  unfold decode Decoder.instr
  rw [dc_bind (dc_at0 h0 (by decide))]
  exact congrArg (fun n => Except.ok ((.ireturn : Instr), n)) (Nat.add_sub_cancel_left pc 1)
theorem dc_159 {cc : ByteArray} {pc : Nat} (h0 : dc_at (cc.data.toList.drop pc) 0 = 159) (h1 : dc_at (cc.data.toList.drop pc) 1 < 256) (h2 : dc_at (cc.data.toList.drop pc) 2 < 256) : decode cc pc = .ok (.if_icmp .eq (Reader.signed 16 (dc_at (cc.data.toList.drop pc) 1 * 256 + dc_at (cc.data.toList.drop pc) 2)), 3) := by
  unfold decode Decoder.instr
  rw [dc_bind (dc_at0 h0 (by decide))]
  refine (congrArg (dc_fin pc) (dc_bind ((dc_map (f := Reader.signed 16) (dc_at2 h1 h2))))).trans ?_
  exact congrArg (fun n => Except.ok ((.if_icmp .eq (Reader.signed 16 (dc_at (cc.data.toList.drop pc) 1 * 256 + dc_at (cc.data.toList.drop pc) 2)) : Instr), n)) (Nat.add_sub_cancel_left pc 3)
theorem dc_182 {cc : ByteArray} {pc : Nat} (h0 : dc_at (cc.data.toList.drop pc) 0 = 182) (h1 : dc_at (cc.data.toList.drop pc) 1 < 256) (h2 : dc_at (cc.data.toList.drop pc) 2 < 256) : decode cc pc = .ok (.invokevirtual (dc_at (cc.data.toList.drop pc) 1 * 256 + dc_at (cc.data.toList.drop pc) 2), 3) := by
  unfold decode Decoder.instr
  rw [dc_bind (dc_at0 h0 (by decide))]
  refine (congrArg (dc_fin pc) (dc_bind (dc_at2 h1 h2))).trans ?_
  exact congrArg (fun n => Except.ok ((.invokevirtual (dc_at (cc.data.toList.drop pc) 1 * 256 + dc_at (cc.data.toList.drop pc) 2) : Instr), n)) (Nat.add_sub_cancel_left pc 3)
theorem dc_184 {cc : ByteArray} {pc : Nat} (h0 : dc_at (cc.data.toList.drop pc) 0 = 184) (h1 : dc_at (cc.data.toList.drop pc) 1 < 256) (h2 : dc_at (cc.data.toList.drop pc) 2 < 256) : decode cc pc = .ok (.invokestatic (dc_at (cc.data.toList.drop pc) 1 * 256 + dc_at (cc.data.toList.drop pc) 2), 3) := by
  unfold decode Decoder.instr
  rw [dc_bind (dc_at0 h0 (by decide))]
  refine (congrArg (dc_fin pc) (dc_bind (dc_at2 h1 h2))).trans ?_
  exact congrArg (fun n => Except.ok ((.invokestatic (dc_at (cc.data.toList.drop pc) 1 * 256 + dc_at (cc.data.toList.drop pc) 2) : Instr), n)) (Nat.add_sub_cancel_left pc 3)
theorem dc_54 {cc : ByteArray} {pc : Nat} (h0 : dc_at (cc.data.toList.drop pc) 0 = 54) (h1 : dc_at (cc.data.toList.drop pc) 1 < 256) : decode cc pc = .ok (.istore (dc_at (cc.data.toList.drop pc) 1), 2) := by
  unfold decode Decoder.instr
  rw [dc_bind (dc_at0 h0 (by decide))]
  refine (congrArg (dc_fin pc) (dc_bind (dc_at_r h1))).trans ?_
  exact congrArg (fun n => Except.ok ((.istore (dc_at (cc.data.toList.drop pc) 1) : Instr), n)) (Nat.add_sub_cancel_left pc 2)
theorem dc_9 {cc : ByteArray} {pc : Nat} (h0 : dc_at (cc.data.toList.drop pc) 0 = 9) : decode cc pc = .ok (.lconst 0, 1) := by
  unfold decode Decoder.instr
  rw [dc_bind (dc_at0 h0 (by decide))]
  exact congrArg (fun n => Except.ok ((.lconst 0 : Instr), n)) (Nat.add_sub_cancel_left pc 1)
theorem dc_10 {cc : ByteArray} {pc : Nat} (h0 : dc_at (cc.data.toList.drop pc) 0 = 10) : decode cc pc = .ok (.lconst 1, 1) := by
  unfold decode Decoder.instr
  rw [dc_bind (dc_at0 h0 (by decide))]
  exact congrArg (fun n => Except.ok ((.lconst 1 : Instr), n)) (Nat.add_sub_cancel_left pc 1)
theorem dc_47 {cc : ByteArray} {pc : Nat} (h0 : dc_at (cc.data.toList.drop pc) 0 = 47) : decode cc pc = .ok (.laload, 1) := by
  unfold decode Decoder.instr
  rw [dc_bind (dc_at0 h0 (by decide))]
  exact congrArg (fun n => Except.ok ((.laload : Instr), n)) (Nat.add_sub_cancel_left pc 1)
theorem dc_76 {cc : ByteArray} {pc : Nat} (h0 : dc_at (cc.data.toList.drop pc) 0 = 76) : decode cc pc = .ok (.astore_n 1, 1) := by
  unfold decode Decoder.instr
  rw [dc_bind (dc_at0 h0 (by decide))]
  exact congrArg (fun n => Except.ok ((.astore_n 1 : Instr), n)) (Nat.add_sub_cancel_left pc 1)
theorem dc_77 {cc : ByteArray} {pc : Nat} (h0 : dc_at (cc.data.toList.drop pc) 0 = 77) : decode cc pc = .ok (.astore_n 2, 1) := by
  unfold decode Decoder.instr
  rw [dc_bind (dc_at0 h0 (by decide))]
  exact congrArg (fun n => Except.ok ((.astore_n 2 : Instr), n)) (Nat.add_sub_cancel_left pc 1)
theorem dc_78 {cc : ByteArray} {pc : Nat} (h0 : dc_at (cc.data.toList.drop pc) 0 = 78) : decode cc pc = .ok (.astore_n 3, 1) := by
  unfold decode Decoder.instr
  rw [dc_bind (dc_at0 h0 (by decide))]
  exact congrArg (fun n => Except.ok ((.astore_n 3 : Instr), n)) (Nat.add_sub_cancel_left pc 1)
theorem dc_89 {cc : ByteArray} {pc : Nat} (h0 : dc_at (cc.data.toList.drop pc) 0 = 89) : decode cc pc = .ok (.dup, 1) := by
  unfold decode Decoder.instr
  rw [dc_bind (dc_at0 h0 (by decide))]
  exact congrArg (fun n => Except.ok ((.dup : Instr), n)) (Nat.add_sub_cancel_left pc 1)
theorem dc_100 {cc : ByteArray} {pc : Nat} (h0 : dc_at (cc.data.toList.drop pc) 0 = 100) : decode cc pc = .ok (.isub, 1) := by
  unfold decode Decoder.instr
  rw [dc_bind (dc_at0 h0 (by decide))]
  exact congrArg (fun n => Except.ok ((.isub : Instr), n)) (Nat.add_sub_cancel_left pc 1)
theorem dc_126 {cc : ByteArray} {pc : Nat} (h0 : dc_at (cc.data.toList.drop pc) 0 = 126) : decode cc pc = .ok (.iand, 1) := by
  unfold decode Decoder.instr
  rw [dc_bind (dc_at0 h0 (by decide))]
  exact congrArg (fun n => Except.ok ((.iand : Instr), n)) (Nat.add_sub_cancel_left pc 1)
theorem dc_133 {cc : ByteArray} {pc : Nat} (h0 : dc_at (cc.data.toList.drop pc) 0 = 133) : decode cc pc = .ok (.i2l, 1) := by
  unfold decode Decoder.instr
  rw [dc_bind (dc_at0 h0 (by decide))]
  exact congrArg (fun n => Except.ok ((.i2l : Instr), n)) (Nat.add_sub_cancel_left pc 1)
theorem dc_148 {cc : ByteArray} {pc : Nat} (h0 : dc_at (cc.data.toList.drop pc) 0 = 148) : decode cc pc = .ok (.lcmp, 1) := by
  unfold decode Decoder.instr
  rw [dc_bind (dc_at0 h0 (by decide))]
  exact congrArg (fun n => Except.ok ((.lcmp : Instr), n)) (Nat.add_sub_cancel_left pc 1)
theorem dc_190 {cc : ByteArray} {pc : Nat} (h0 : dc_at (cc.data.toList.drop pc) 0 = 190) : decode cc pc = .ok (.arraylength, 1) := by
  unfold decode Decoder.instr
  rw [dc_bind (dc_at0 h0 (by decide))]
  exact congrArg (fun n => Except.ok ((.arraylength : Instr), n)) (Nat.add_sub_cancel_left pc 1)
theorem dc_16 {cc : ByteArray} {pc : Nat} (h0 : dc_at (cc.data.toList.drop pc) 0 = 16) (h1 : dc_at (cc.data.toList.drop pc) 1 < 256) : decode cc pc = .ok (.bipush (Reader.signed 8 (dc_at (cc.data.toList.drop pc) 1)), 2) := by
  unfold decode Decoder.instr
  rw [dc_bind (dc_at0 h0 (by decide))]
  refine (congrArg (dc_fin pc) (dc_bind ((dc_map (f := Reader.signed 8) (dc_at_r h1))))).trans ?_
  exact congrArg (fun n => Except.ok ((.bipush (Reader.signed 8 (dc_at (cc.data.toList.drop pc) 1)) : Instr), n)) (Nat.add_sub_cancel_left pc 2)
theorem dc_153 {cc : ByteArray} {pc : Nat} (h0 : dc_at (cc.data.toList.drop pc) 0 = 153) (h1 : dc_at (cc.data.toList.drop pc) 1 < 256) (h2 : dc_at (cc.data.toList.drop pc) 2 < 256) : decode cc pc = .ok (.ifCond .eq (Reader.signed 16 (dc_at (cc.data.toList.drop pc) 1 * 256 + dc_at (cc.data.toList.drop pc) 2)), 3) := by
  unfold decode Decoder.instr
  rw [dc_bind (dc_at0 h0 (by decide))]
  refine (congrArg (dc_fin pc) (dc_bind ((dc_map (f := Reader.signed 16) (dc_at2 h1 h2))))).trans ?_
  exact congrArg (fun n => Except.ok ((.ifCond .eq (Reader.signed 16 (dc_at (cc.data.toList.drop pc) 1 * 256 + dc_at (cc.data.toList.drop pc) 2)) : Instr), n)) (Nat.add_sub_cancel_left pc 3)
theorem dc_154 {cc : ByteArray} {pc : Nat} (h0 : dc_at (cc.data.toList.drop pc) 0 = 154) (h1 : dc_at (cc.data.toList.drop pc) 1 < 256) (h2 : dc_at (cc.data.toList.drop pc) 2 < 256) : decode cc pc = .ok (.ifCond .ne (Reader.signed 16 (dc_at (cc.data.toList.drop pc) 1 * 256 + dc_at (cc.data.toList.drop pc) 2)), 3) := by
  unfold decode Decoder.instr
  rw [dc_bind (dc_at0 h0 (by decide))]
  refine (congrArg (dc_fin pc) (dc_bind ((dc_map (f := Reader.signed 16) (dc_at2 h1 h2))))).trans ?_
  exact congrArg (fun n => Except.ok ((.ifCond .ne (Reader.signed 16 (dc_at (cc.data.toList.drop pc) 1 * 256 + dc_at (cc.data.toList.drop pc) 2)) : Instr), n)) (Nat.add_sub_cancel_left pc 3)
theorem dc_163 {cc : ByteArray} {pc : Nat} (h0 : dc_at (cc.data.toList.drop pc) 0 = 163) (h1 : dc_at (cc.data.toList.drop pc) 1 < 256) (h2 : dc_at (cc.data.toList.drop pc) 2 < 256) : decode cc pc = .ok (.if_icmp .gt (Reader.signed 16 (dc_at (cc.data.toList.drop pc) 1 * 256 + dc_at (cc.data.toList.drop pc) 2)), 3) := by
  unfold decode Decoder.instr
  rw [dc_bind (dc_at0 h0 (by decide))]
  refine (congrArg (dc_fin pc) (dc_bind ((dc_map (f := Reader.signed 16) (dc_at2 h1 h2))))).trans ?_
  exact congrArg (fun n => Except.ok ((.if_icmp .gt (Reader.signed 16 (dc_at (cc.data.toList.drop pc) 1 * 256 + dc_at (cc.data.toList.drop pc) 2)) : Instr), n)) (Nat.add_sub_cancel_left pc 3)
theorem dc_167 {cc : ByteArray} {pc : Nat} (h0 : dc_at (cc.data.toList.drop pc) 0 = 167) (h1 : dc_at (cc.data.toList.drop pc) 1 < 256) (h2 : dc_at (cc.data.toList.drop pc) 2 < 256) : decode cc pc = .ok (.goto (Reader.signed 16 (dc_at (cc.data.toList.drop pc) 1 * 256 + dc_at (cc.data.toList.drop pc) 2)), 3) := by
  unfold decode Decoder.instr
  rw [dc_bind (dc_at0 h0 (by decide))]
  refine (congrArg (dc_fin pc) (dc_bind ((dc_map (f := Reader.signed 16) (dc_at2 h1 h2))))).trans ?_
  exact congrArg (fun n => Except.ok ((.goto (Reader.signed 16 (dc_at (cc.data.toList.drop pc) 1 * 256 + dc_at (cc.data.toList.drop pc) 2)) : Instr), n)) (Nat.add_sub_cancel_left pc 3)
theorem dc_183 {cc : ByteArray} {pc : Nat} (h0 : dc_at (cc.data.toList.drop pc) 0 = 183) (h1 : dc_at (cc.data.toList.drop pc) 1 < 256) (h2 : dc_at (cc.data.toList.drop pc) 2 < 256) : decode cc pc = .ok (.invokespecial (dc_at (cc.data.toList.drop pc) 1 * 256 + dc_at (cc.data.toList.drop pc) 2), 3) := by
  unfold decode Decoder.instr
  rw [dc_bind (dc_at0 h0 (by decide))]
  refine (congrArg (dc_fin pc) (dc_bind (dc_at2 h1 h2))).trans ?_
  exact congrArg (fun n => Except.ok ((.invokespecial (dc_at (cc.data.toList.drop pc) 1 * 256 + dc_at (cc.data.toList.drop pc) 2) : Instr), n)) (Nat.add_sub_cancel_left pc 3)
theorem dc_187 {cc : ByteArray} {pc : Nat} (h0 : dc_at (cc.data.toList.drop pc) 0 = 187) (h1 : dc_at (cc.data.toList.drop pc) 1 < 256) (h2 : dc_at (cc.data.toList.drop pc) 2 < 256) : decode cc pc = .ok (.new (dc_at (cc.data.toList.drop pc) 1 * 256 + dc_at (cc.data.toList.drop pc) 2), 3) := by
  unfold decode Decoder.instr
  rw [dc_bind (dc_at0 h0 (by decide))]
  refine (congrArg (dc_fin pc) (dc_bind (dc_at2 h1 h2))).trans ?_
  exact congrArg (fun n => Except.ok ((.new (dc_at (cc.data.toList.drop pc) 1 * 256 + dc_at (cc.data.toList.drop pc) 2) : Instr), n)) (Nat.add_sub_cancel_left pc 3)
theorem dc_132 {cc : ByteArray} {pc : Nat} (h0 : dc_at (cc.data.toList.drop pc) 0 = 132) (h1 : dc_at (cc.data.toList.drop pc) 1 < 256) (h2 : dc_at (cc.data.toList.drop pc) 2 < 256) : decode cc pc = .ok (.iinc (dc_at (cc.data.toList.drop pc) 1) (Reader.signed 8 (dc_at (cc.data.toList.drop pc) 2)), 3) := by
  unfold decode Decoder.instr
  rw [dc_bind (dc_at0 h0 (by decide))]
  refine (congrArg (dc_fin pc) ((dc_bind (dc_at_r h1)).trans (dc_bind (dc_map (f := Reader.signed 8) (dc_at_s h2))))).trans ?_
  exact congrArg (fun n => Except.ok ((.iinc (dc_at (cc.data.toList.drop pc) 1) (Reader.signed 8 (dc_at (cc.data.toList.drop pc) 2)) : Instr), n)) (Nat.add_sub_cancel_left pc 3)
theorem dc_188 {cc : ByteArray} {pc : Nat} (h0 : dc_at (cc.data.toList.drop pc) 0 = 188) (h1 : dc_at (cc.data.toList.drop pc) 1 = 11) : decode cc pc = .ok (.newarray .long, 2) := by
  unfold decode Decoder.instr
  rw [dc_bind (dc_at0 h0 (by decide))]
  have h2 := dc_at_r (cc := cc) (pc := pc) (j := 1) (by omega)
  rw [h1] at h2
  refine (congrArg (dc_fin pc) (dc_bind h2)).trans ?_
  exact congrArg (fun n => Except.ok ((.newarray .long : Instr), n)) (Nat.add_sub_cancel_left pc 2)
theorem dc_S_ok {cc : ByteArray} {pc : Nat} {r : Instr × Nat} (h : dc_S (cc.data.toList.drop pc) = some r) : decode cc pc = .ok r := by
  unfold dc_S at h
  by_cases q : dc_at (cc.data.toList.drop pc) 0 = 42
  · rw [if_pos q] at h
    exact Option.some.inj h ▸ dc_42 q
  rw [if_neg q] at h
  by_cases q : dc_at (cc.data.toList.drop pc) 0 = 4
  · rw [if_pos q] at h
    exact Option.some.inj h ▸ dc_4 q
  rw [if_neg q] at h
  by_cases q : dc_at (cc.data.toList.drop pc) 0 = 96
  · rw [if_pos q] at h
    exact Option.some.inj h ▸ dc_96 q
  rw [if_neg q] at h
  by_cases q : dc_at (cc.data.toList.drop pc) 0 = 46
  · rw [if_pos q] at h
    exact Option.some.inj h ▸ dc_46 q
  rw [if_neg q] at h
  by_cases q : dc_at (cc.data.toList.drop pc) 0 = 21
  · rw [if_pos q] at h
    by_cases q1 : dc_at (cc.data.toList.drop pc) 1 < 256
    · rw [if_pos q1] at h
      exact Option.some.inj h ▸ dc_21 q q1
    · rw [if_neg q1] at h
      exact absurd h (fun h => nomatch h)
  rw [if_neg q] at h
  by_cases q : dc_at (cc.data.toList.drop pc) 0 = 45
  · rw [if_pos q] at h
    exact Option.some.inj h ▸ dc_45 q
  rw [if_neg q] at h
  by_cases q : dc_at (cc.data.toList.drop pc) 0 = 43
  · rw [if_pos q] at h
    exact Option.some.inj h ▸ dc_43 q
  rw [if_neg q] at h
  by_cases q : dc_at (cc.data.toList.drop pc) 0 = 44
  · rw [if_pos q] at h
    exact Option.some.inj h ▸ dc_44 q
  rw [if_neg q] at h
  by_cases q : dc_at (cc.data.toList.drop pc) 0 = 3
  · rw [if_pos q] at h
    exact Option.some.inj h ▸ dc_3 q
  rw [if_neg q] at h
  by_cases q : dc_at (cc.data.toList.drop pc) 0 = 5
  · rw [if_pos q] at h
    exact Option.some.inj h ▸ dc_5 q
  rw [if_neg q] at h
  by_cases q : dc_at (cc.data.toList.drop pc) 0 = 6
  · rw [if_pos q] at h
    exact Option.some.inj h ▸ dc_6 q
  rw [if_neg q] at h
  by_cases q : dc_at (cc.data.toList.drop pc) 0 = 7
  · rw [if_pos q] at h
    exact Option.some.inj h ▸ dc_7 q
  rw [if_neg q] at h
  by_cases q : dc_at (cc.data.toList.drop pc) 0 = 8
  · rw [if_pos q] at h
    exact Option.some.inj h ▸ dc_8 q
  rw [if_neg q] at h
  by_cases q : dc_at (cc.data.toList.drop pc) 0 = 172
  · rw [if_pos q] at h
    exact Option.some.inj h ▸ dc_172 q
  rw [if_neg q] at h
  by_cases q : dc_at (cc.data.toList.drop pc) 0 = 159
  · rw [if_pos q] at h
    by_cases q1 : dc_at (cc.data.toList.drop pc) 1 < 256 ∧ dc_at (cc.data.toList.drop pc) 2 < 256
    · rw [if_pos q1] at h
      exact Option.some.inj h ▸ dc_159 q q1.1 q1.2
    · rw [if_neg q1] at h
      exact absurd h (fun h => nomatch h)
  rw [if_neg q] at h
  by_cases q : dc_at (cc.data.toList.drop pc) 0 = 182
  · rw [if_pos q] at h
    by_cases q1 : dc_at (cc.data.toList.drop pc) 1 < 256 ∧ dc_at (cc.data.toList.drop pc) 2 < 256
    · rw [if_pos q1] at h
      exact Option.some.inj h ▸ dc_182 q q1.1 q1.2
    · rw [if_neg q1] at h
      exact absurd h (fun h => nomatch h)
  rw [if_neg q] at h
  by_cases q : dc_at (cc.data.toList.drop pc) 0 = 184
  · rw [if_pos q] at h
    by_cases q1 : dc_at (cc.data.toList.drop pc) 1 < 256 ∧ dc_at (cc.data.toList.drop pc) 2 < 256
    · rw [if_pos q1] at h
      exact Option.some.inj h ▸ dc_184 q q1.1 q1.2
    · rw [if_neg q1] at h
      exact absurd h (fun h => nomatch h)
  rw [if_neg q] at h
  by_cases q : dc_at (cc.data.toList.drop pc) 0 = 54
  · rw [if_pos q] at h
    by_cases q1 : dc_at (cc.data.toList.drop pc) 1 < 256
    · rw [if_pos q1] at h
      exact Option.some.inj h ▸ dc_54 q q1
    · rw [if_neg q1] at h
      exact absurd h (fun h => nomatch h)
  rw [if_neg q] at h
  by_cases q : dc_at (cc.data.toList.drop pc) 0 = 9
  · rw [if_pos q] at h
    exact Option.some.inj h ▸ dc_9 q
  rw [if_neg q] at h
  by_cases q : dc_at (cc.data.toList.drop pc) 0 = 10
  · rw [if_pos q] at h
    exact Option.some.inj h ▸ dc_10 q
  rw [if_neg q] at h
  by_cases q : dc_at (cc.data.toList.drop pc) 0 = 47
  · rw [if_pos q] at h
    exact Option.some.inj h ▸ dc_47 q
  rw [if_neg q] at h
  by_cases q : dc_at (cc.data.toList.drop pc) 0 = 76
  · rw [if_pos q] at h
    exact Option.some.inj h ▸ dc_76 q
  rw [if_neg q] at h
  by_cases q : dc_at (cc.data.toList.drop pc) 0 = 77
  · rw [if_pos q] at h
    exact Option.some.inj h ▸ dc_77 q
  rw [if_neg q] at h
  by_cases q : dc_at (cc.data.toList.drop pc) 0 = 78
  · rw [if_pos q] at h
    exact Option.some.inj h ▸ dc_78 q
  rw [if_neg q] at h
  by_cases q : dc_at (cc.data.toList.drop pc) 0 = 89
  · rw [if_pos q] at h
    exact Option.some.inj h ▸ dc_89 q
  rw [if_neg q] at h
  by_cases q : dc_at (cc.data.toList.drop pc) 0 = 100
  · rw [if_pos q] at h
    exact Option.some.inj h ▸ dc_100 q
  rw [if_neg q] at h
  by_cases q : dc_at (cc.data.toList.drop pc) 0 = 126
  · rw [if_pos q] at h
    exact Option.some.inj h ▸ dc_126 q
  rw [if_neg q] at h
  by_cases q : dc_at (cc.data.toList.drop pc) 0 = 133
  · rw [if_pos q] at h
    exact Option.some.inj h ▸ dc_133 q
  rw [if_neg q] at h
  by_cases q : dc_at (cc.data.toList.drop pc) 0 = 148
  · rw [if_pos q] at h
    exact Option.some.inj h ▸ dc_148 q
  rw [if_neg q] at h
  by_cases q : dc_at (cc.data.toList.drop pc) 0 = 190
  · rw [if_pos q] at h
    exact Option.some.inj h ▸ dc_190 q
  rw [if_neg q] at h
  by_cases q : dc_at (cc.data.toList.drop pc) 0 = 16
  · rw [if_pos q] at h
    by_cases q1 : dc_at (cc.data.toList.drop pc) 1 < 256
    · rw [if_pos q1] at h
      exact Option.some.inj h ▸ dc_16 q q1
    · rw [if_neg q1] at h
      exact absurd h (fun h => nomatch h)
  rw [if_neg q] at h
  by_cases q : dc_at (cc.data.toList.drop pc) 0 = 153
  · rw [if_pos q] at h
    by_cases q1 : dc_at (cc.data.toList.drop pc) 1 < 256 ∧ dc_at (cc.data.toList.drop pc) 2 < 256
    · rw [if_pos q1] at h
      exact Option.some.inj h ▸ dc_153 q q1.1 q1.2
    · rw [if_neg q1] at h
      exact absurd h (fun h => nomatch h)
  rw [if_neg q] at h
  by_cases q : dc_at (cc.data.toList.drop pc) 0 = 154
  · rw [if_pos q] at h
    by_cases q1 : dc_at (cc.data.toList.drop pc) 1 < 256 ∧ dc_at (cc.data.toList.drop pc) 2 < 256
    · rw [if_pos q1] at h
      exact Option.some.inj h ▸ dc_154 q q1.1 q1.2
    · rw [if_neg q1] at h
      exact absurd h (fun h => nomatch h)
  rw [if_neg q] at h
  by_cases q : dc_at (cc.data.toList.drop pc) 0 = 163
  · rw [if_pos q] at h
    by_cases q1 : dc_at (cc.data.toList.drop pc) 1 < 256 ∧ dc_at (cc.data.toList.drop pc) 2 < 256
    · rw [if_pos q1] at h
      exact Option.some.inj h ▸ dc_163 q q1.1 q1.2
    · rw [if_neg q1] at h
      exact absurd h (fun h => nomatch h)
  rw [if_neg q] at h
  by_cases q : dc_at (cc.data.toList.drop pc) 0 = 167
  · rw [if_pos q] at h
    by_cases q1 : dc_at (cc.data.toList.drop pc) 1 < 256 ∧ dc_at (cc.data.toList.drop pc) 2 < 256
    · rw [if_pos q1] at h
      exact Option.some.inj h ▸ dc_167 q q1.1 q1.2
    · rw [if_neg q1] at h
      exact absurd h (fun h => nomatch h)
  rw [if_neg q] at h
  by_cases q : dc_at (cc.data.toList.drop pc) 0 = 183
  · rw [if_pos q] at h
    by_cases q1 : dc_at (cc.data.toList.drop pc) 1 < 256 ∧ dc_at (cc.data.toList.drop pc) 2 < 256
    · rw [if_pos q1] at h
      exact Option.some.inj h ▸ dc_183 q q1.1 q1.2
    · rw [if_neg q1] at h
      exact absurd h (fun h => nomatch h)
  rw [if_neg q] at h
  by_cases q : dc_at (cc.data.toList.drop pc) 0 = 187
  · rw [if_pos q] at h
    by_cases q1 : dc_at (cc.data.toList.drop pc) 1 < 256 ∧ dc_at (cc.data.toList.drop pc) 2 < 256
    · rw [if_pos q1] at h
      exact Option.some.inj h ▸ dc_187 q q1.1 q1.2
    · rw [if_neg q1] at h
      exact absurd h (fun h => nomatch h)
  rw [if_neg q] at h
  by_cases q : dc_at (cc.data.toList.drop pc) 0 = 132
  · rw [if_pos q] at h
    by_cases q1 : dc_at (cc.data.toList.drop pc) 1 < 256 ∧ dc_at (cc.data.toList.drop pc) 2 < 256
    · rw [if_pos q1] at h
      exact Option.some.inj h ▸ dc_132 q q1.1 q1.2
    · rw [if_neg q1] at h
      exact absurd h (fun h => nomatch h)
  rw [if_neg q] at h
  by_cases q : dc_at (cc.data.toList.drop pc) 0 = 188
  · rw [if_pos q] at h
    by_cases q1 : dc_at (cc.data.toList.drop pc) 1 = 11
    · rw [if_pos q1] at h
      exact Option.some.inj h ▸ dc_188 q q1
    · rw [if_neg q1] at h
      exact absurd h (fun h => nomatch h)
  rw [if_neg q] at h
  exact absurd h (fun h => nomatch h)
/-- the check of a stretch over the bytes behind pc; where pc is sp.1, the instruction is sp.2 -/
def ab_ckS (sp : Nat × Instr × Nat) (o : Nat) (ret : Option FieldType) (ini : Bool) (nL : Nat) (pcs : List Nat) (cov : Nat → Bool) : Nat → List UInt8 → List ab_I → Option (Nat × List UInt8)
  | pc, l, [] => some (pc, l)
  | pc, l, x :: is => match (if pc = sp.1 then some sp.2 else dc_S l) with
    | some r => if x.1 ≠ .athrow ∧ r.1 = x.1 ∧ (r.2 = ab_ln r.1 ∨ ab_ln r.1 = 0) ∧ ab_c2 o ret ini nL pcs cov pc x = true then ab_ckS sp o ret ini nL pcs cov (pc + r.2) (l.drop r.2) is else none
    | none => none
def ab_cksS (sp : Nat × Instr × Nat) (o : Nat) (ret : Option FieldType) (ini : Bool) (nL : Nat) (pcs : List Nat) (cov : Nat → Bool) : Nat → Nat → List UInt8 → List (List ab_I) → Bool
  | _, _, _, [] => true
  | b, pc, l, blk :: bs => match ab_ckS sp o ret ini nL pcs cov pc l blk with
    | some r => if pcs.getD b 0 = pc ∧ pcs[b + 1]? = some r.1 then ab_cksS sp o ret ini nL pcs cov (b + 1) r.1 r.2 bs else false
    | none => false
theorem ab_ckS_ok {cc : ByteArray} {sp : Nat × Instr × Nat} {o : Nat} {ret : Option FieldType} {ini : Bool} {nL : Nat} {pcs : List Nat} {cov : Nat → Bool} (hsp : decode cc sp.1 = .ok sp.2) : ∀ (is : List ab_I) (b pc : Nat) (r : Nat × List UInt8), ab_ckS sp o ret ini nL pcs cov pc (cc.data.toList.drop pc) is = some r → pcs[b + 1]? = some r.1 → ab_ck cc o ret ini nL pcs cov b pc is = true ∧ r.2 = cc.data.toList.drop r.1 := by
  intro is
  induction is with
  | nil =>
    intro b pc r h hb
    unfold ab_ckS at h
    have h := Option.some.inj h
    subst h
    refine ⟨?_, rfl⟩
    unfold ab_ck
    exact decide_eq_true hb
  | cons x is ih =>
    intro b pc r h hb
    unfold ab_ckS at h
    have hd : ∀ q, (if pc = sp.1 then some sp.2 else dc_S (cc.data.toList.drop pc)) = some q → decode cc pc = .ok q := by
      intro q hq
      by_cases e : pc = sp.1
      · rw [if_pos e] at hq
        have hq := Option.some.inj hq
        rw [e, ← hq]
        exact hsp
      · rw [if_neg e] at hq
        exact dc_S_ok hq
    cases hq : (if pc = sp.1 then some sp.2 else dc_S (cc.data.toList.drop pc)) with
    | none =>
      rw [hq] at h
      exact absurd h (fun h => nomatch h)
    | some q =>
      rw [hq] at h
      have hd := hd q hq
      by_cases e : x.1 ≠ .athrow ∧ q.1 = x.1 ∧ (q.2 = ab_ln q.1 ∨ ab_ln q.1 = 0) ∧ ab_c2 o ret ini nL pcs cov pc x = true
      · have h : (if x.1 ≠ .athrow ∧ q.1 = x.1 ∧ (q.2 = ab_ln q.1 ∨ ab_ln q.1 = 0) ∧ ab_c2 o ret ini nL pcs cov pc x = true then ab_ckS sp o ret ini nL pcs cov (pc + q.2) ((cc.data.toList.drop pc).drop q.2) is else none) = some r := h
        rw [if_pos e, List.drop_drop] at h
        have h := ih b (pc + q.2) r h hb
        refine ⟨?_, h.2⟩
        unfold ab_ck ab_c1
        rw [if_neg e.1, hd]
        have e' : q.1 = x.1 ∧ (q.2 = ab_ln q.1 ∨ ab_ln q.1 = 0) ∧ ab_c2 o ret ini nL pcs cov pc x = true := e.2
        show (match (if q.1 = x.1 ∧ (q.2 = ab_ln q.1 ∨ ab_ln q.1 = 0) ∧ ab_c2 o ret ini nL pcs cov pc x = true then some (pc + q.2) else none) with
          | some pc' => ab_ck cc o ret ini nL pcs cov b pc' is
          | none => false) = true
        rw [if_pos e']
        exact h.1
      · have h : (if x.1 ≠ .athrow ∧ q.1 = x.1 ∧ (q.2 = ab_ln q.1 ∨ ab_ln q.1 = 0) ∧ ab_c2 o ret ini nL pcs cov pc x = true then ab_ckS sp o ret ini nL pcs cov (pc + q.2) ((cc.data.toList.drop pc).drop q.2) is else none) = some r := h
        rw [if_neg e] at h
        exact absurd h (fun h => nomatch h)
theorem ab_cksS_ok {cc : ByteArray} {sp : Nat × Instr × Nat} {o : Nat} {ret : Option FieldType} {ini : Bool} {nL : Nat} {pcs : List Nat} {cov : Nat → Bool} (hsp : decode cc sp.1 = .ok sp.2) : ∀ (bs : List (List ab_I)) (b pc : Nat), ab_cksS sp o ret ini nL pcs cov b pc (cc.data.toList.drop pc) bs = true → ab_cks cc o ret ini nL pcs cov b bs = true := by
  intro bs
  induction bs with
  | nil => intro b pc h; rfl
  | cons blk bs ih =>
    intro b pc h
    unfold ab_cksS at h
    cases hq : ab_ckS sp o ret ini nL pcs cov pc (cc.data.toList.drop pc) blk with
    | none =>
      rw [hq] at h
      exact absurd h (fun h => nomatch h)
    | some r =>
      rw [hq] at h
      have h : (if pcs.getD b 0 = pc ∧ pcs[b + 1]? = some r.1 then ab_cksS sp o ret ini nL pcs cov (b + 1) r.1 r.2 bs else false) = true := h
      by_cases e : pcs.getD b 0 = pc ∧ pcs[b + 1]? = some r.1
      · rw [if_pos e] at h
        have k := ab_ckS_ok hsp blk b pc r hq e.2
        rw [k.2] at h
        refine (Bool.and_eq_true _ _).mpr ⟨?_, ih (b + 1) r.1 h⟩
        rw [e.1]
        exact k.1
      · rw [if_neg e] at h
        exact absurd h (fun h => nomatch h)
