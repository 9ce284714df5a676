-- ===== contracts, returns, calls, throws =====
def ab_rm (d mc ms : Nat) : Room := { frames := d, cells := mc, slots := ms, locals := 100 * d }
def ab_Pc (X : ab_X) (av : List ab_V) (σ : ab_H) : Array Value → State → Prop := fun a U => a = (av.map (ab_v X)).toArray ∧ ab_hr X σ U.heap ∧ ab_K X U
def ab_Qc (X : ab_X) (post : ab_O → ab_H → Prop) : Array Value → State → Outcome → State → Prop := fun _ _ o t => ∃ (r : Option ab_V) (σ' : ab_H), o = .returned (r.map (ab_v X)) ∧ post (.inl r) σ' ∧ ab_hr X σ' t.heap
def ab_en : Nat → String
  | 0 => "java/util/NoSuchElementException"
  | 1 => "java/lang/IllegalArgumentException"
  | _ => "java/lang/IllegalStateException"
def ab_Xc (X : ab_X) (post : ab_O → ab_H → Prop) : String → State → State → Prop := fun E _ t => ∃ (i : Nat) (σ' : ab_H), i < 3 ∧ E = ab_en i ∧ post (.inr i) σ' ∧ ab_hr X σ' t.heap
/-- the contract of method y at these arguments in this heap: within d frames, mc cells and ms slots it comes to an outcome with post -/
def ab_call (d mc ms : Nat) (y : MethodName) (av : List ab_V) (σ : ab_H) (post : ab_O → ab_H → Prop) : Prop :=
  ∀ (l : Launch) (X : ab_X), l.stackTraces = false → ∃ (cc : ByteArray) (maxL : Nat) (ret : Option FieldType), Cond.code y cc maxL ret ∈ ab_ws ∧ maxL ≤ 60 ∧ vx_Met l y (Cond.code y cc maxL ret :: ab_ws) (ab_rm d mc ms) (ab_Pc X av σ) (ab_Qc X post) (ab_Xc X post) mc ms (fun q => X.1 ≤ q)
/-- the same of a method with an exception table -/
def ab_callH (d mc ms : Nat) (y : MethodName) (av : List ab_V) (σ : ab_H) (post : ab_O → ab_H → Prop) : Prop :=
  ∀ (l : Launch) (X : ab_X), l.stackTraces = false → ∃ (cc : ByteArray) (maxL : Nat) (ret : Option FieldType) (hh : List (Nat × Nat × Nat × Nat)), Cond.codeWith y cc maxL ret hh ∈ ab_ws ∧ maxL ≤ 60 ∧ vx_Met l y (Cond.codeWith y cc maxL ret hh :: ab_ws) (ab_rm d mc ms) (ab_Pc X av σ) (ab_Qc X post) (ab_Xc X post) mc ms (fun q => X.1 ≤ q)
theorem ab_goodws : GoodIn ab_ws ab_ws := fun w h => ⟨h, good_of_word (List.mem_filter.mp h).2⟩
theorem ab_goodc {w : Cond} (h : w ∈ ab_ws) : GoodIn ab_ws (w :: ab_ws) := fun x hx => by
  rcases List.mem_cons.mp hx with rfl | hx
  · exact ab_goodws _ h
  · exact ab_goodws _ hx
theorem ab_blind {X : ab_X} {av : List ab_V} {σ : ab_H} : FrameBlind (ab_Pc X av σ) := fun a U g mk q => ⟨q.1, q.2.1, ab_K_same rfl q.2.2⟩
section AbCalls
variable {p : Program} {l : Launch} {e : Env} {R : Room} {s : State} {m : MethodId} {args : Array Value} {below : List Frame} {meth : Method} {c : Code} {Q : State → Prop} {X : ab_X} {nL : Nat} {cc : ByteArray} {own : String} {pc : Nat} {L : ab_L} {S : List ab_V} {σ : ab_H} {k n : Nat} {post : ab_O → ab_H → Prop}
/-- thrown over the frame -/
def ab_gx (p : Program) (l : Launch) (e : Env) (R : Room) (s : State) (m : MethodId) (args : Array Value) (below : List Frame) (meth : Method) (c : Code) (Q : State → Prop) (X : ab_X) (nL : Nat) (pc : Nat) (i : Nat) (L : ab_L) (σ : ab_H) (k n : Nat) : Prop :=
  ∀ (H : Heap) (locs : List Loc) (ls : Array Slot) (q : Addr) (ce : Cell) (rest : List Value), ab_hr X σ H → (∀ z ∈ locs, X.1 ≤ z.base) → ab_lr X nL L ls → k ≤ R.cells → n ≤ R.slots → H[q]? = some ce → ce.vm = .none → s.vm.findClass (ab_en i) = some ce.cls → vx_W p l e R s m args below meth c H locs k n Q (F0 m pc ls rest) q
abbrev ab_Q (below : List Frame) (args : Array Value) (s : State) (R : Room) (X : ab_X) (post : ab_O → ab_H → Prop) : State → Prop := vx_MQ below (ab_Qc X post) (ab_Xc X post) args s R.cells R.slots (fun q => X.1 ≤ q)
theorem ab_iret {z : Int} (F : ab_fx p s m args c X nL cc own) (hlk : meth.locks = false) (hr0 : meth.sig.returnType = some .int) (hd : decode cc pc = .ok (.ireturn, 1)) (hp : post (.inl (some (.inl z))) σ) : ab_g p l e R s m args below meth c (ab_Q below args s R X post) X nL pc L [.inl z] σ k n :=
  fun H locs ls hr hz hl hk hn => vx_ret (W.widen hk hn (W.iret (hlocks := hlk) F.1 F.2.1 hr0 (fun t ht _ => ⟨some (.inl z), σ, rfl, hp, by rw [ht]; exact hr⟩) hz hd))
theorem ab_zret {z : Int} (F : ab_fx p s m args c X nL cc own) (hlk : meth.locks = false) (hr0 : meth.sig.returnType = some .boolean) (hd : decode cc pc = .ok (.ireturn, 1)) (hb : z = 0 ∨ z = 1) (hp : post (.inl (some (.inl z))) σ) : ab_g p l e R s m args below meth c (ab_Q below args s R X post) X nL pc L [.inl z] σ k n :=
  fun H locs ls hr hz hl hk hn => vx_ret (W.widen hk hn (W.zret (ty := .boolean) (hlocks := hlk) F.1 F.2.1 hr0 (by rcases hb with rfl | rfl <;> rfl) (fun t ht _ => ⟨some (.inl z), σ, rfl, hp, by rw [ht]; exact hr⟩) hz hd))
theorem ab_vret (F : ab_fx p s m args c X nL cc own) (hlk : meth.locks = false) (hr0 : meth.sig.returnType = none) (hd : decode cc pc = .ok (.return_, 1)) (hp : post (.inl none) σ) : ab_g p l e R s m args below meth c (ab_Q below args s R X post) X nL pc L [] σ k n :=
  fun H locs ls hr hz hl hk hn => vx_ret (W.widen hk hn (W.vret (hlocks := hlk) F.1 F.2.1 hr0 (fun t ht _ => ⟨none, σ, rfl, hp, by rw [ht]; exact hr⟩) hz hd))
/-- a call has run: what comes behind it, returned or thrown -/
theorem ab_run {mc ms : Nat} {H : Heap} {locs : List Loc} {ls : Array Slot} {st0 : List Value} {a : Array Value} {po : ab_O → ab_H → Prop} (hr : vx_Run p l e R s m args below meth c H locs k n mc ms (F0 m pc ls st0) (S.map (ab_v X)) (ab_Qc X po a) (ab_Xc X po) (fun q => X.1 ≤ q)) (hz : ∀ z ∈ locs, X.1 ≤ z.base) (hl : ab_lr X nL L ls) (hk : k + mc ≤ R.cells) (hn : n + ms ≤ R.slots)
    (h1 : ∀ r σ', po (.inl r) σ' → ab_g p l e R s m args below meth c Q X nL (pc + 3) L (r.toList ++ S) σ' (k + mc) (n + ms)) (h2 : ∀ i σ', i < 3 → po (.inr i) σ' → ab_gx p l e R s m args below meth c Q X nL pc i L σ' (k + mc) (n + ms)) :
    W p l e R s m args below meth c H locs k n Q (F0 m pc ls st0) := by
  intro T hT Y
  rcases hr T hT Y with ⟨v, st₀, t, T', Ls, h0, X', hL, e1, e2, ⟨r, σ', hv, hp, hh⟩, st⟩ | ⟨q, st₀, t, T', Ls, E, ce, h0, X', hL, e1, e2, ⟨i, σ', hi, rfl, hp, hh⟩, hce, hcv, hcl, st⟩
  · have hv2 : v = r.map (ab_v X) := by injection hv
    subst hv2
    have hz' : ∀ z ∈ locs ++ Ls, X.1 ≤ z.base := fun z h => (List.mem_append.mp h).elim (hz z) (hL z)
    obtain ⟨t2, a1, b1⟩ := h1 r σ' hp T'.heap (locs ++ Ls) ls (by rw [e1]; exact hh) hz' hl hk hn T' rfl X'
    refine ⟨t2, st t2 ?_, b1⟩
    have e3 : (r.toList ++ S).map (ab_v X) = (r.map (ab_v X)).toList ++ S.map (ab_v X) := by cases r <;> rfl
    rw [e3] at a1
    exact a1
  · have hz' : ∀ z ∈ locs ++ Ls, X.1 ≤ z.base := fun z h => (List.mem_append.mp h).elim (hz z) (hL z)
    obtain ⟨t2, a1, b1⟩ := h2 i σ' hi hp T'.heap (locs ++ Ls) ls q ce _ (by rw [e1]; exact hh) hz' hl hk hn (by rw [e1]; exact hce) hcv hcl T' rfl X'
    exact ⟨t2, st.trans a1, b1⟩
theorem ab_mr {F1 : JFrame} {S0 : List ab_V} (h : F1.monitorRoom = 0) (hS : S0.length ≤ 8 ∧ S0.all ab_n1 = true) : 2 * F1.monitorRoom + ((S0.map (ab_v X)).map fun v => v.category).sum ≤ 8 := by
  rw [h]
  have key : ∀ S1 : List ab_V, S1.all ab_n1 = true → ((S1.map (ab_v X)).map fun v => v.category).sum = S1.length := by
    intro S1
    induction S1 with
    | nil => intro _; rfl
    | cons v S1 ih =>
      intro h
      rw [List.all_cons, Bool.and_eq_true] at h
      rw [List.map_cons, List.map_cons, List.sum_cons, ih h.2, ab_cat h.1, List.length_cons]
      omega
  rw [key S0 hS.2]
  omega
theorem ab_callV {idx ci d mc ms : Nat} {y : MethodName} {av : List ab_V} {a : Nat} {fs : List ab_V} {po : ab_O → ab_H → Prop} {T : u_T} {N : Nat} (hst : l.stackTraces = false) (F : ab_fx p s m args c X nL cc own) (hd : decode cc pc = .ok (.invokevirtual idx, 3)) (hcall : ab_call d mc ms y (.inr (.inl (some a)) :: av) σ po)
    (hlink : Cond.methodLink own idx y ∈ ab_ws) (hinst : Cond.instanceMethod y ∈ ab_ws) (hsel : Cond.selects y.cls y y ∈ ab_ws) (hini : Cond.initialized y.cls ∈ ab_ws) (hc : vwCl[ci]? = some (y.cls, T, N))
    (hy : y.cls ≠ "java/lang/invoke/MethodHandle" ∧ y.cls ≠ "java/lang/invoke/VarHandle" ∧ (parseMethodDescriptor y.desc).map (fun d => d.parameters.length) = some av.length) (ha : σ.2 a = some (.inl (ci, fs))) (hR : d + 1 ≤ R.frames ∧ 100 * d + 79 ≤ R.locals) (hk1 : k + mc ≤ R.cells) (hn1 : n + ms ≤ R.slots) (hS : S.length ≤ 8 ∧ S.all ab_n1 = true)
    (h1 : ∀ r σ', po (.inl r) σ' → ab_g p l e R s m args below meth c Q X nL (pc + 3) L (r.toList ++ S) σ' (k + mc) (n + ms)) (h2 : ∀ i σ', i < 3 → po (.inr i) σ' → ab_gx p l e R s m args below meth c Q X nL pc i L σ' (k + mc) (n + ms)) :
    ab_g p l e R s m args below meth c Q X nL pc L (av.reverse ++ .inr (.inl (some a)) :: S) σ k n :=
  fun H locs ls hr hz hl hk hn => by
    obtain ⟨bytes, maxL, ret, hcw, hmL, hM⟩ := hcall l X hst
    have hts := F.2.2.2.2.1
    have hrecv := va_recv (tys := ab_t X) (q0 := 0) (a := X.1 + a) (fs := fs.map (ab_v X)) F.2.2.2.2.2.1 (ab_P1 hr ha) hc rfl
    refine ab_run (mc := mc) (ms := ms) (a := (Value.ref (X.1 + a) :: av.map (ab_v X)).toArray) (po := po) ?_ hz hl hk1 hn1 h1 h2
    refine vx_runV (bytes := bytes) (maxL := maxL) (ret := ret) (index := idx) (Ts := ab_ws) (own := own) (C := y.cls) (As := av.map (ab_v X)) (b := X.1 + a) (n := av.length) (nL := nL) ⟨F.1, F.2.1, F.2.2.1, F.2.2.2.1, hts⟩ hM ?_ ⟨ab_blind, hrecv, fun U hU hW => ⟨rfl, by rw [hU]; exact hr, ab_K_warm hW F.2.2.2.2.2⟩⟩ rfl (by rw [List.length_map]) hl.1 ?_ (ab_mr rfl hS) hd ⟨hk1, hn1⟩
    · exact ⟨callB_of av.length hts (ab_goodc hcw) rfl rfl rfl (hts _ hini) (hts _ hlink) hy ⟨hR.1, by show 8 + (maxL + 11) + 100 * d ≤ R.locals; omega⟩, hts _ hinst, hts _ hsel⟩
    · show (av.reverse ++ .inr (.inl (some a)) :: S).map (ab_v X) = _
      rw [List.map_append, List.map_reverse]
      rfl
theorem ab_callS {idx d mc ms : Nat} {y : MethodName} {av : List ab_V} {po : ab_O → ab_H → Prop} (hst : l.stackTraces = false) (F : ab_fx p s m args c X nL cc own) (hd : decode cc pc = .ok (.invokestatic idx, 3)) (hcall : ab_call d mc ms y av σ po)
    (hlink : Cond.methodLink own idx y ∈ ab_ws) (hinst : Cond.static y ∈ ab_ws) (hini : Cond.initialized y.cls ∈ ab_ws)
    (hy : y.cls ≠ "java/lang/invoke/MethodHandle" ∧ y.cls ≠ "java/lang/invoke/VarHandle" ∧ (parseMethodDescriptor y.desc).map (fun d => d.parameters.length) = some av.length) (hR : d + 1 ≤ R.frames ∧ 100 * d + 79 ≤ R.locals) (hk1 : k + mc ≤ R.cells) (hn1 : n + ms ≤ R.slots) (hS : S.length ≤ 8 ∧ S.all ab_n1 = true)
    (h1 : ∀ r σ', po (.inl r) σ' → ab_g p l e R s m args below meth c Q X nL (pc + 3) L (r.toList ++ S) σ' (k + mc) (n + ms)) (h2 : ∀ i σ', i < 3 → po (.inr i) σ' → ab_gx p l e R s m args below meth c Q X nL pc i L σ' (k + mc) (n + ms)) :
    ab_g p l e R s m args below meth c Q X nL pc L (av.reverse ++ S) σ k n :=
  fun H locs ls hr hz hl hk hn => by
    obtain ⟨bytes, maxL, ret, hcw, hmL, hM⟩ := hcall l X hst
    have hts := F.2.2.2.2.1
    refine ab_run (mc := mc) (ms := ms) (a := (av.map (ab_v X)).toArray) (po := po) ?_ hz hl hk1 hn1 h1 h2
    refine vx_runS (bytes := bytes) (maxL := maxL) (ret := ret) (index := idx) (Ts := ab_ws) (own := own) (As := av.map (ab_v X)) (n := av.length) (nL := nL) ⟨F.1, F.2.1, F.2.2.1, F.2.2.2.1, hts⟩ hM ?_ ⟨ab_blind, fun U hU hW => ⟨rfl, by rw [hU]; exact hr, ab_K_warm hW F.2.2.2.2.2⟩⟩ rfl (by rw [List.length_map]) hl.1 ?_ (ab_mr rfl hS) hd ⟨hk1, hn1⟩
    · exact ⟨callB_of av.length hts (ab_goodc hcw) rfl rfl rfl (hts _ hini) (hts _ hlink) hy ⟨hR.1, by show 8 + (maxL + 11) + 100 * d ≤ R.locals; omega⟩, hts _ hinst⟩
    · show (av.reverse ++ S).map (ab_v X) = _
      rw [List.map_append, List.map_reverse]
theorem ab_callSH {idx d mc ms : Nat} {y : MethodName} {av : List ab_V} {po : ab_O → ab_H → Prop} (hst : l.stackTraces = false) (F : ab_fx p s m args c X nL cc own) (hd : decode cc pc = .ok (.invokestatic idx, 3)) (hcall : ab_callH d mc ms y av σ po)
    (hlink : Cond.methodLink own idx y ∈ ab_ws) (hinst : Cond.static y ∈ ab_ws) (hini : Cond.initialized y.cls ∈ ab_ws)
    (hy : y.cls ≠ "java/lang/invoke/MethodHandle" ∧ y.cls ≠ "java/lang/invoke/VarHandle" ∧ (parseMethodDescriptor y.desc).map (fun d => d.parameters.length) = some av.length) (hR : d + 1 ≤ R.frames ∧ 100 * d + 79 ≤ R.locals) (hk1 : k + mc ≤ R.cells) (hn1 : n + ms ≤ R.slots) (hS : S.length ≤ 8 ∧ S.all ab_n1 = true)
    (h1 : ∀ r σ', po (.inl r) σ' → ab_g p l e R s m args below meth c Q X nL (pc + 3) L (r.toList ++ S) σ' (k + mc) (n + ms)) (h2 : ∀ i σ', i < 3 → po (.inr i) σ' → ab_gx p l e R s m args below meth c Q X nL pc i L σ' (k + mc) (n + ms)) :
    ab_g p l e R s m args below meth c Q X nL pc L (av.reverse ++ S) σ k n :=
  fun H locs ls hr hz hl hk hn => by
    obtain ⟨bytes, maxL, ret, hh, hcw, hmL, hM⟩ := hcall l X hst
    have hts := F.2.2.2.2.1
    have hwW : ∀ w ∈ (Cond.codeWith y bytes maxL ret hh :: ab_ws), w ∈ ab_ws := fun w hw => (List.mem_cons.mp hw).elim (fun e => by rw [e]; exact hcw) id
    refine ab_run (mc := mc) (ms := ms) (a := (av.map (ab_v X)).toArray) (po := po) ?_ hz hl hk1 hn1 h1 h2
    refine vx_runSX (hh := hh) (bytes := bytes) (maxL := maxL) (ret := ret) (index := idx) (Ts := ab_ws) (own := own) (As := av.map (ab_v X)) (n := av.length) (nL := nL) ⟨F.1, F.2.1, F.2.2.1, F.2.2.2.1, hts⟩ hM ?_ ⟨ab_blind, fun U hU hW => ⟨rfl, by rw [hU]; exact hr, ab_K_warm hW F.2.2.2.2.2⟩⟩ rfl (by rw [List.length_map]) hl.1 ?_ (ab_mr rfl hS) hd ⟨hk1, hn1⟩
    · refine vx_cwSW (ws' := ab_ws) av.length hts ?_ rfl rfl rfl hy ⟨hR.1, by show 8 + (maxL + 11) + 100 * d ≤ R.locals; omega⟩
      intro w hw
      have h9 : w ∈ ab_ws := by
        rcases List.mem_append.mp hw with h | h
        · simp only [List.mem_cons, List.not_mem_nil, or_false] at h
          rcases h with rfl | rfl | rfl
          · exact hlink
          · exact hinst
          · exact hini
        · exact hwW w h
      exact ab_goodws w h9
    · show (av.reverse ++ S).map (ab_v X) = _
      rw [List.map_append, List.map_reverse]
end AbCalls
