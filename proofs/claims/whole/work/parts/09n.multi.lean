-- ===== rows of ints, made at once with the array that holds them =====
/-- the array of rows when i of them are made -/
def ab_oc (cA : ClassId) (N h0 i : Nat) : Cell := arrV cA N (fun j => if j < i then .ref (h0 + 1 + j) else .null)
/-- the state when i rows are made -/
def ab_fl (u : State) (cA cB : ClassId) (N M : Nat) : Nat → State
  | 0 => u.pushCell (ab_oc cA N u.heap.size 0)
  | i + 1 => ((ab_fl u cA cB N M i).pushCell (arrV cB M (fun _ => .int 0))).setCell u.heap.size (ab_oc cA N u.heap.size (i + 1))
theorem ab_oc_s (cA : ClassId) (N h0 i : Nat) : (ab_oc cA N h0 i).setSlot i (.ref (h0 + 1 + i)) = ab_oc cA N h0 (i + 1) := by
  unfold ab_oc
  rw [arrV_store]
  congr 1
  funext j
  unfold updV
  by_cases e : j = i
  · rw [if_pos e, if_pos (by omega), e]
  · rw [if_neg e]
    show (if j < i then Value.ref (h0 + 1 + j) else .null) = _
    by_cases h : j < i
    · rw [if_pos h, if_pos (by omega)]
    · rw [if_neg h, if_neg (by omega)]
theorem ab_fl_f (u : State) (cA cB : ClassId) (N M : Nat) : ∀ i, (ab_fl u cA cB N M i).heap.size = u.heap.size + 1 + i ∧ (ab_fl u cA cB N M i).heap[u.heap.size]? = some (ab_oc cA N u.heap.size i) ∧ (ab_fl u cA cB N M i).vm = u.vm ∧ (ab_fl u cA cB N M i).slotsUsed = u.slotsUsed + N + i * M ∧
    (∀ a : Nat, a < u.heap.size → (ab_fl u cA cB N M i).heap[a]? = u.heap[a]?) ∧ ∀ j, j < i → (ab_fl u cA cB N M i).heap[u.heap.size + 1 + j]? = some (arrV cB M (fun _ => .int 0)) := by
  intro i
  induction i with
  | zero => exact ⟨by simp [ab_fl], by simp [ab_fl], rfl, by simp [ab_fl, ab_oc, arrV_size], fun a ha => State.heap_pushCell_of_lt _ _ ha, fun j hj => absurd hj (Nat.not_lt_zero j)⟩
  | succ i ih =>
    obtain ⟨f1, f2, f3, f4, f5, f6⟩ := ih
    have hlt : u.heap.size < (ab_fl u cA cB N M i).heap.size := by omega
    have f2' : ((ab_fl u cA cB N M i).pushCell (arrV cB M (fun _ => .int 0))).heap[u.heap.size]? = some (ab_oc cA N u.heap.size i) := by rw [State.heap_pushCell_of_lt (h := hlt)]; exact f2
    refine ⟨?_, State.heap_setCell_self f2', by simp [ab_fl, f3], ?_, fun a ha => ?_, fun j hj => ?_⟩
    · simp [ab_fl, State.setCell, f1]
      omega
    · simp [ab_fl, f4, arrV_size, Nat.succ_mul]
      omega
    · show (((ab_fl u cA cB N M i).pushCell (arrV cB M (fun _ => .int 0))).setCell u.heap.size _).heap[a]? = _
      have hl2 : a < (ab_fl u cA cB N M i).heap.size := by omega
      rw [State.heap_setCell_other (Nat.ne_of_gt ha), State.heap_pushCell_of_lt (h := hl2)]
      exact f5 a ha
    · show (((ab_fl u cA cB N M i).pushCell (arrV cB M (fun _ => .int 0))).setCell u.heap.size _).heap[u.heap.size + 1 + j]? = _
      rw [State.heap_setCell_other (show u.heap.size ≠ u.heap.size + 1 + j by omega)]
      by_cases e : j = i
      · rw [e, ← f1]
        exact State.heap_pushCell_size _ _
      · have hl2 : u.heap.size + 1 + j < (ab_fl u cA cB N M i).heap.size := by omega
        rw [State.heap_pushCell_of_lt (h := hl2)]
        exact f6 j (by omega)
theorem ab_fl_t (u : State) (f : JFrame) (cA cB : ClassId) (N M : Nat) : ∀ i, ab_fl (u.setTop f) cA cB N M i = (ab_fl u cA cB N M i).setTop f := by
  intro i
  induction i with
  | zero => rfl
  | succ i ih => simp only [ab_fl, ih, State.heap_setTop, State.pushCell_setTop, State.setCell_setTop]
section AbMulti
variable {E : CtlPost} {e : Env} {d : Bool} {acts : List Action} {s : State}
theorem ab_rfit (t : FieldType) (v : Value) (hv : v = .null ∨ ∃ a, v = .ref a) : fits (.array t) v = true := by
  rcases hv with rfl | ⟨a, rfl⟩ <;> rfl
/-- one row -/
theorem ab_wp1 {cB c9 : ClassId} {kB : Class} {m : Int32} (hk : s.vm.classes[cB]? = some kB) (hkind : kB.kind = .array c9 .int) (hm : ¬ m < 0) (hl : ¬ m.toNatClampNeg > e.platform.arrayLengthLimit) (hh : ¬ m.toNatClampNeg * componentBytes .int > e.platform.maxHeapBytes)
    (h1 : s.heap.size < e.platform.maxCells) (h2 : s.slotsUsed + m.toNatClampNeg ≤ e.platform.maxSlots) {Q : Addr → Pre} (hq : ∀ acts', Q s.heap.size d acts' (s.pushCell (arrV cB m.toNatClampNeg (fun _ => .int 0)))) : wp (multianewarray.make cB [m]) Q E e d acts s := by
  rw [multianewarray.make]
  simp only [wp_bind', W.ite, hm, if_false, wp_pure', W.theClass, hk, hkind, Option.some.injEq, exists_eq_left']
  refine W.newArray_of hk hkind hl hh h1 h2 rfl (fun acts' => ?_)
  rw [show ({ cls := cB, slots := Array.replicate m.toNatClampNeg (defaultValue .int) } : Cell) = arrV cB m.toNatClampNeg (fun _ => .int 0) from arrV_new cB m.toNatClampNeg (.int 0)]
  exact hq acts'
theorem ab_wp2 {cA cB c9 : ClassId} {kA kB : Class} {n m : Int32} (hk : s.vm.classes[cA]? = some kA) (hkind : kA.kind = .array cB (.array .int)) (hkB : s.vm.classes[cB]? = some kB) (hkindB : kB.kind = .array c9 .int) (hn : ¬ n < 0) (hm : ¬ m < 0)
    (hl1 : ¬ n.toNatClampNeg > e.platform.arrayLengthLimit) (hh1 : ¬ n.toNatClampNeg * componentBytes (.array .int) > e.platform.maxHeapBytes) (hl2 : ¬ m.toNatClampNeg > e.platform.arrayLengthLimit) (hh2 : ¬ m.toNatClampNeg * componentBytes .int > e.platform.maxHeapBytes)
    (hc : s.heap.size + 1 + n.toNatClampNeg ≤ e.platform.maxCells) (hs : s.slotsUsed + n.toNatClampNeg + n.toNatClampNeg * m.toNatClampNeg ≤ e.platform.maxSlots)
    {Q : Addr → Pre} (hq : ∀ d' acts', Q s.heap.size d' acts' (ab_fl s cA cB n.toNatClampNeg m.toNatClampNeg n.toNatClampNeg)) : wp (multianewarray.make cA [n, m]) Q E e d acts s := by
  have hfind : ([m].find? (· < 0)) = none := by simp [hm]
  rw [multianewarray.make]
  simp only [wp_bind', W.ite, hn, if_false, wp_pure', W.theClass, hk, hkind, Option.some.injEq, exists_eq_left']
  refine W.newArray_of hk hkind hl1 hh1 (by omega) (by have := Nat.zero_le (n.toNatClampNeg * m.toNatClampNeg); omega) (ab_rfit _ _ (Or.inl rfl)) (fun acts' => ?_)
  rw [show ({ cls := cA, slots := Array.replicate n.toNatClampNeg Value.null } : Cell) = ab_oc cA n.toNatClampNeg s.heap.size 0 from arrV_new cA n.toNatClampNeg .null]
  simp only [hfind]
  rw [ite_self, wp_bind', Std.Legacy.Range.forIn_eq_forIn_range']
  have hsz : ([:n.toNatClampNeg] : Std.Legacy.Range).size = n.toNatClampNeg := by simp [Std.Legacy.Range.size]
  rw [hsz]
  show wp (forIn (List.range' 0 n.toNatClampNeg 1) PUnit.unit _) _ E e d acts' _
  refine wp_forIn_inv (fun rest s' => ∃ i, i ≤ n.toNatClampNeg ∧ rest = List.range' i (n.toNatClampNeg - i) ∧ s' = ab_fl s cA cB n.toNatClampNeg m.toNatClampNeg i) _ _ ⟨0, Nat.zero_le _, rfl, rfl⟩ ?_ ?_
  · rintro x rest s' d' acts2 Q' ⟨i, hi, hl, rfl⟩ hnext
    have hlt : i < n.toNatClampNeg := by
      rcases Nat.lt_or_ge i n.toNatClampNeg with h | h
      · exact h
      · rw [show n.toNatClampNeg - i = 0 by omega] at hl
        cases hl
    rw [show n.toNatClampNeg - i = (n.toNatClampNeg - (i + 1)) + 1 by omega, List.range'_succ] at hl
    obtain ⟨rfl, hrest⟩ := List.cons.inj hl
    obtain ⟨f1, f2, f3, f4, -, -⟩ := ab_fl_f s cA cB n.toNatClampNeg m.toNatClampNeg x
    have hmul : x * m.toNatClampNeg + m.toNatClampNeg ≤ n.toNatClampNeg * m.toNatClampNeg := by
      have := Nat.mul_le_mul_right m.toNatClampNeg (show x + 1 ≤ n.toNatClampNeg from hlt)
      rw [Nat.succ_mul] at this
      exact this
    have hlt0 : s.heap.size < (ab_fl s cA cB n.toNatClampNeg m.toNatClampNeg x).heap.size := by omega
    simp only [wp_bind']
    refine ab_wp1 (by rw [f3]; exact hkB) hkindB hm hl2 hh2 (by rw [f1]; omega) (by rw [f4]; omega) (fun acts3 => ?_)
    simp only [wp_bind', W.writeLoc, wp_pure']
    refine ⟨ab_oc cA n.toNatClampNeg s.heap.size x, by rw [State.heap_pushCell_of_lt (h := hlt0)]; exact f2, by simp [ab_oc, arrV], by unfold ab_oc; rw [arrV_size]; exact hlt, ?_, hnext _ _ _ ⟨x + 1, hlt, hrest, ?_⟩⟩
    · show State.fitsSlot _ cA .none x _ = true
      simp [State.fitsSlot, State.slotType?, f3, hk, hkind, ab_rfit _ _ (Or.inr ⟨_, rfl⟩)]
    · rw [f1, ab_oc_s]
      rfl
  · rintro s' d' acts2 ⟨i, hi, hl, rfl⟩
    have hiN : i = n.toNatClampNeg := by
      rcases Nat.lt_or_ge i n.toNatClampNeg with h | h
      · rw [show n.toNatClampNeg - i = (n.toNatClampNeg - (i + 1)) + 1 by omega, List.range'_succ] at hl
        cases hl
      · omega
    subst hiN
    simp only [wp_pure']
    exact hq _ _
end AbMulti
section AbMulti2
variable {p : Program} {l : Launch} {e : Env} {R : Room} {s : State} {m : MethodId} {args : Array Value} {below : List Frame} {meth : Method} {c : Code} {H : Heap} {locs : List Loc} {cells slots : Nat} {Q : State → Prop}
theorem ab_fl_X {T : State} (X : Stand p l e R s m args below meth c T locs cells slots) (cA cB : ClassId) (N M : Nat) : ∀ i, Stand p l e R s m args below meth c (ab_fl T cA cB N M i) locs (cells + 1 + i) (slots + N + i * M) := by
  intro i
  induction i with
  | zero =>
    have h := X.pushed (ab_oc cA N T.heap.size 0)
    rw [show (ab_oc cA N T.heap.size 0).slots.size = N from arrV_size _ _ _] at h
    simpa [ab_fl] using h
  | succ i ih =>
    obtain ⟨f1, f2, -⟩ := ab_fl_f T cA cB N M i
    have h := (ih.pushed (arrV cB M (fun _ => .int 0))).stored (a := T.heap.size) (by rw [State.heap_pushCell_of_lt (h := show T.heap.size < (ab_fl T cA cB N M i).heap.size by omega)]; exact f2) i (.ref (T.heap.size + 1 + i))
    rw [ab_oc_s, arrV_size] at h
    have h2 := h.dropFresh (fun x hx => by
      rw [List.mem_singleton] at hx
      subst hx
      exact X.heapGrown)
    rw [show slots + N + (i + 1) * M = slots + N + i * M + M by rw [Nat.succ_mul]; omega]
    exact h2
theorem ab_multi {cc : ByteArray} (hexec : p.tables.exec = Jvm.exec) (hb : c.code = cc) {own : String} {index : Nat} (hown : s.vm.findClass own = some m.cls) (hclink : (Cond.classLink own index "[[I").before args s = true)
    {cA cB c9 : ClassId} {kA kB : Class} (hfA : s.vm.findClass "[[I" = some cA) (hkA : s.vm.classes[cA]? = some kA) (hkindA : kA.kind = .array cB (.array .int)) (hkB : s.vm.classes[cB]? = some kB) (hkindB : kB.kind = .array c9 .int)
    {pc : Nat} {ls : Array Slot} {rest : List Value} (hdg : decode cc pc = .ok (.multianewarray index 2, 4)) {n k : Int32} (hn : ¬ n < 0) (hk : ¬ k < 0) (hb1 : n.toNatClampNeg < 100000) (hb2 : k.toNatClampNeg < 100000)
    (hcells : cells + (1 + n.toNatClampNeg) ≤ R.cells) (hslots : slots + (n.toNatClampNeg + n.toNatClampNeg * k.toNatClampNeg) ≤ R.slots)
    (kk : ∀ H1 : Heap, H1.size = H.size + 1 + n.toNatClampNeg → H1[H.size]? = some (ab_oc cA n.toNatClampNeg H.size n.toNatClampNeg) → (∀ a : Nat, a < H.size → H1[a]? = H[a]?) → (∀ j, j < n.toNatClampNeg → H1[H.size + 1 + j]? = some (arrV cB k.toNatClampNeg (fun _ => .int 0))) →
      W p l e R s m args below meth c H1 locs (cells + 1 + n.toNatClampNeg) (slots + n.toNatClampNeg + n.toNatClampNeg * k.toNatClampNeg) Q (F0 m (pc + 4) ls (.ref H.size :: rest))) : W p l e R s m args below meth c H locs cells slots Q (F0 m pc ls (.int k :: .int n :: rest)) := by
  intro T hT X
  subst hT; subst hb
  have hpl : e.platform.magicAccessors = ({} : Platform).magicAccessors := by rw [X.admits.platform]
  obtain ⟨c0, hfc0, hcl⟩ := Cond.classLink_spec hown hclink e.platform hpl
  cases hfA.symm.trans hfc0
  obtain ⟨hg₁, hwarm₁, hready₁⟩ := State.classEntry (e := e) X.warmed hcl
  generalize T.vm.noted m.cls index (.cls cA) = vm₁ at hg₁ hwarm₁ hready₁
  obtain ⟨kA₁, hkA₁, heA⟩ := hwarm₁.alike.2.2 _ _ hkA
  obtain ⟨kB₁, hkB₁, heB⟩ := hwarm₁.alike.2.2 _ _ hkB
  have X₁ := X.noted hwarm₁
  obtain ⟨hr1, hr2⟩ := X.roomAbove hcells hslots
  have XF := ab_fl_X X₁ cA cB n.toNatClampNeg k.toNatClampNeg n.toNatClampNeg
  obtain ⟨f1, f2, -, -, f5, f6⟩ := ab_fl_f (T.setVm vm₁) cA cB n.toNatClampNeg k.toNatClampNeg n.toNatClampNeg
  obtain ⟨t, a1, b1⟩ := kk (ab_fl (T.setVm vm₁) cA cB n.toNatClampNeg k.toNatClampNeg n.toNatClampNeg).heap f1 f2 f5 f6 _ rfl XF
  refine ⟨t, ?_, b1⟩
  have hl1 : ¬ n.toNatClampNeg > e.platform.arrayLengthLimit := by rw [Launch.admits_arrayLengthLimit X.admits]; omega
  have hh1 : ¬ n.toNatClampNeg * componentBytes (.array .int) > e.platform.maxHeapBytes := by
    rw [Launch.admits_maxHeapBytes X.admits]
    show ¬ n.toNatClampNeg * 4 > 536870912
    omega
  have hl2 : ¬ k.toNatClampNeg > e.platform.arrayLengthLimit := by rw [Launch.admits_arrayLengthLimit X.admits]; omega
  have hh2 : ¬ k.toNatClampNeg * componentBytes .int > e.platform.maxHeapBytes := by
    rw [Launch.admits_maxHeapBytes X.admits]
    show ¬ k.toNatClampNeg * 4 > 536870912
    omega
  have hm0 := State.method?_setTop (F0 m pc ls (.int k :: .int n :: rest)) X.here.top
  jvm_step X.here [hexec, hdg]
  simp only [multianewarray.sem, wp_bind', W.resolveClassAt_links hm0 hg₁]
  rw [W.popN, if_neg (by decide)]
  refine ⟨F0 m pc ls (.int k :: .int n :: rest), State.topJava?_setTop' (s := T.setVm vm₁) _ X.here.top, [.int n, .int k], rest, rfl, rfl, ?_⟩
  simp only [List.mapM_cons, List.mapM_nil, wp_bind', wp_pure']
  refine ab_wp2 (kA := kA₁) (kB := kB₁) (c9 := c9) hkA₁ (by rw [heA]; exact hkindA) hkB₁ (by rw [heB]; exact hkindB) hn hk hl1 hh1 hl2 hh2 (by show T.heap.size + 1 + _ ≤ _; omega) (by show T.slotsUsed + _ + _ ≤ _; omega) (fun d' acts' => ?_)
  have eS : ∀ f1 f2 : JFrame, ((T.setTop f1).setVm vm₁).setTop f2 = (T.setVm vm₁).setTop f2 := fun f1 f2 => by
    show ((T.setVm vm₁).setTop f1).setTop f2 = _
    rw [State.setTop_setTop]
  rw [eS, ab_fl_t]
  simp only [wp_bind', W.mark, W.pushRef, State.topJava?_setTop' _ XF.here.top, Option.some.injEq, exists_eq_left', State.setTop_setTop, State.heap_setTop]
  intro acts
  simp [jvm, XF.here.top]
  exact a1
end AbMulti2
