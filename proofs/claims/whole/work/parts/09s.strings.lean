-- ===== the JDK's own members over the string constants =====
/-- the char at place j of the q-th string constant -/
def ab_chr (q j : Nat) : Int := ((ab_sb.getD q []).getD j 0).toInt
theorem ab_sb_ok : ∀ q, q < 3 → (ab_sl.getD q 0 = (ab_sb.getD q []).length ∧ ab_shr (ab_sl.getD q 0 : Nat) 0 = (ab_sl.getD q 0 : Nat) ∧ ab_sl.getD q 0 < 100) ∧ ∀ b ∈ ab_sb.getD q [], 0 ≤ b.toInt ∧ b.toInt < 128 := by decide +kernel
theorem ab_chr_l {q j : Nat} (hq : q < 3) (hj : j < ab_sl.getD q 0) : 0 ≤ ab_chr q j ∧ ab_chr q j < 128 := by
  obtain ⟨⟨e, -⟩, h⟩ := ab_sb_ok q hq
  unfold ab_chr
  rw [List.getD_eq_getElem?_getD, List.getElem?_eq_getElem (by omega)]
  exact h _ (List.getElem_mem _)
theorem ab_128 : ∀ z : Fin 128, ((Int32.ofInt ((z.val : Nat) : Int)).toUInt32 % 65536).toInt32 = Int32.ofInt ((z.val : Nat) : Int) ∧ ab_and ((z.val : Nat) : Int) 255 = ((z.val : Nat) : Int) := by decide +kernel
theorem ab_lo {z : Int} (h0 : 0 ≤ z) (h1 : z < 128) : ((Int32.ofInt z).toUInt32 % 65536).toInt32 = Int32.ofInt z ∧ ab_and z 255 = z := by
  have h := ab_128 ⟨z.toNat, by omega⟩
  rw [show (((⟨z.toNat, by omega⟩ : Fin 128).val : Nat) : Int) = z from Int.toNat_of_nonneg h0] at h
  exact h
/-- the words of these members -/
def ab_jl : List Cond := [.code yJ0_length_8abf5 cJ0_length_8abf5 1 (some .int), .code yJ0_coder_7d493 cJ0_coder_7d493 1 (some .byte), .code yJ0_charAt_5068e cJ0_charAt_5068e 2 (some .char), .code yJ0_isLatin1_aae02 cJ0_isLatin1_aae02 1 (some .boolean), .code yJ1_charAt_3b067 cJ1_charAt_3b067 2 (some .char), .code yJ0_checkIndex_df160 cJ0_checkIndex_df160 2 none, .code yJ3_checkIndex_8e157 cJ3_checkIndex_8e157 3 (some .int),
  .fieldLink RJ0 38 RJ0 "COMPACT_STRINGS" "Z", .fieldLink RJ0 1053 RJ3 "SIOOBE_FORMATTER" "Ljava/util/function/BiFunction;", .fieldLink RJ0 9 RJ0 "value" "[B", .fieldLink RJ0 15 RJ0 "coder" "B",
  .methodLink RJ0 335 yJ0_coder_7d493, .methodLink RJ0 492 yJ0_isLatin1_aae02, .methodLink RJ0 495 yJ1_charAt_3b067, .methodLink RJ1 9 yJ0_checkIndex_df160, .methodLink RJ0 1059 yJ3_checkIndex_8e157,
  .instanceMethod yJ0_length_8abf5, .instanceMethod yJ0_charAt_5068e, .instanceMethod yJ0_coder_7d493, .instanceMethod yJ0_isLatin1_aae02, .static yJ1_charAt_3b067, .static yJ0_checkIndex_df160, .static yJ3_checkIndex_8e157,
  .selects RJ0 yJ0_length_8abf5 yJ0_length_8abf5, .selects RJ0 yJ0_charAt_5068e yJ0_charAt_5068e, .selects RJ0 yJ0_coder_7d493 yJ0_coder_7d493, .selects RJ0 yJ0_isLatin1_aae02 yJ0_isLatin1_aae02, .initialized RJ0, .initialized RJ1, .initialized RJ3]
theorem ab_jl_ok : ∀ w ∈ ab_jl, w ∈ lw_tbl ∧ goodWord w = true := by decide +kernel
theorem ab_jw {w : Cond} (h : w ∈ ab_jl) : w ∈ ab_ws := List.mem_filter.mpr (ab_jl_ok w h)
theorem ab_entryJ {y : MethodName} {cc : ByteArray} {maxL : Nat} {ret : Option FieldType} {d : Nat} {av : List ab_V} {σ : ab_H} {post : ab_O → ab_H → Prop}
    (hw : Cond.code y cc maxL ret ∈ ab_ws) (hy : plainName y.cls = true) (hmL : maxL ≤ 60) (hav : (av.all ab_n1 && Nat.ble av.length maxL) = true)
    (h : ∀ (p : Program) (l : Launch) (e : Env) (s : State) (m : MethodId) (args : Array Value) (below : List Frame) (meth : Method) (c : Code) (X : ab_X), l.stackTraces = false → ab_fx p s m args c X maxL cc y.cls → meth.locks = false → meth.sig.returnType = ret →
      ab_g p l e (ab_rm d 0 0) s m args below meth c (ab_Q below args s (ab_rm d 0 0) X post) X maxL 0 (av.map some ++ List.replicate (maxL - av.length) none) [] σ 0 0) : ab_call d 0 0 y av σ post := by
  intro l X hst
  refine ⟨cc, maxL, ret, hw, hmL, vx_ofW hy rfl ?_⟩
  intro p e s m args below meth c s₁ B hml hout hv
  obtain ⟨rfl, hr, hK⟩ := hv
  have hts : ∀ w ∈ ab_ws, w.before (av.map (ab_v X)).toArray s = true := fun w hw => atoms_spec (ws := Cond.code y cc maxL ret :: ab_ws) B.pre w (List.mem_cons_of_mem _ hw)
  have hown : s.vm.findClass y.cls = some m.cls := findClass_of_methodNamed B.named
  have F : ab_fx p s m (av.map (ab_v X)).toArray c X maxL cc y.cls := ⟨B.exec, B.bytes, hml, hown, hts, hK⟩
  have hA := h p l e s m (av.map (ab_v X)).toArray below meth c X hst F B.notSynchronized B.returns
  have hav2 := (Bool.and_eq_true _ _).mp hav
  have hlen : av.length ≤ maxL := Nat.le_of_ble_eq_true hav2.2
  have hsl : ∀ vs : List ab_V, vs.all ab_n1 = true → lg_sl (vs.map (ab_v X)) = vs.map (fun v => Slot.val (ab_v X v)) := by
    intro vs
    induction vs with
    | nil => intro _; rfl
    | cons v vs ih =>
      intro hv
      rw [List.all_cons, Bool.and_eq_true] at hv
      have := ih hv.2
      match v, hv.1 with
      | .inl z, _ => exact congrArg (List.cons _) this
      | .inr (.inl none), _ => exact congrArg (List.cons _) this
      | .inr (.inl (some _)), _ => exact congrArg (List.cons _) this
      | .inr (.inr (.inr _)), _ => exact congrArg (List.cons _) this
  have hle : (lg_sl (av.map (ab_v X))).length ≤ maxL := by rw [hsl av hav2.1, List.length_map]; exact hlen
  have hl := lv_entry (av.map (ab_v X)) (n := maxL) hle
  rw [lg_entry_eq]
  refine hA s.heap [] _ hr (fun z hz => by cases hz) ⟨hl.1, hl.2.1, by simp; omega, fun i v hv => ?_⟩ (Nat.zero_le _) (Nat.zero_le _)
  by_cases hi : i < av.length
  · rw [List.getElem?_append_left (by rw [List.length_map]; exact hi), List.getElem?_map] at hv
    obtain ⟨w, hw1, hw2⟩ := Option.map_eq_some_iff.mp hv
    cases hw2
    refine ⟨List.all_eq_true.mp hav2.1 _ (List.mem_of_getElem? hw1), ?_⟩
    rw [hsl av hav2.1, List.getElem?_toArray, List.getElem?_append_left (by rw [List.length_map]; exact hi), List.getElem?_map, hw1]
    rfl
  · rw [List.getElem?_append_right (by rw [List.length_map]; omega)] at hv
    have := List.getElem?_replicate (n := maxL - av.length) (a := (none : Option ab_V)) (i := i - (av.map some).length)
    rw [this] at hv
    split at hv <;> cases hv
section AbStr
variable {p : Program} {l : Launch} {e : Env} {R : Room} {s : State} {m : MethodId} {args : Array Value} {below : List Frame} {meth : Method} {c : Code} {Q : State → Prop} {X : ab_X} {nL : Nat} {cc : ByteArray} {own : String} {pc : Nat} {L : ab_L} {S : List ab_V} {σ : ab_H} {k n : Nat} {post : ab_O → ab_H → Prop}
theorem ab_kgets {idx : Nat} {C fn fd : String} {w : ab_V} (F : ab_fx p s m args c X nL cc own) (hd : decode cc pc = .ok (.getstatic idx, 3)) (hZ : va_Z C fn fd (ab_v X w) (fun q => X.1 ≤ q) s X.2.2.2.2.2) (hlink : Cond.fieldLink own idx C fn fd ∈ ab_ws) (h : ab_g p l e R s m args below meth c Q X nL (pc + 3) L (w :: S) σ k n) : ab_g p l e R s m args below meth c Q X nL pc L S σ k n :=
  fun H locs ls hr hz hl hk hn => by
    obtain ⟨cf, kf, fi, f, a, cell, h1, h2, h3, h4, h5, h6, h7, h8⟩ := hZ
    exact W.gets F.1 F.2.1 F.2.2.2.1 (F.2.2.2.2.1 _ hlink) h1 h2 h3 h4 (by rw [hr.2.2 a (by omega)]; exact h5) (fun e => by rw [e] at h6; cases h6) h7 rfl hd (h H locs ls hr hz hl hk hn)
theorem ab_kgetf {idx q : Nat} {C fn fd : String} {w : ab_V} (F : ab_fx p s m args c X nL cc own) (hd : decode cc pc = .ok (.getfield idx, 3)) (hZ : va_OF C fn fd (ab_v X w) (X.2.2.2.2.1 q) (fun q => X.1 ≤ q) s X.2.2.2.2.2) (hlink : Cond.fieldLink own idx C fn fd ∈ ab_ws) (h : ab_g p l e R s m args below meth c Q X nL (pc + 3) L (w :: S) σ k n) : ab_g p l e R s m args below meth c Q X nL pc L (.inr (.inr (.inr q)) :: S) σ k n :=
  fun H locs ls hr hz hl hk hn => by
    obtain ⟨cf, kf, fi, f, cell, h1, h2, h3, h4, h5, h6⟩ := hZ
    exact W.getf F.1 F.2.1 F.2.2.2.1 (F.2.2.2.2.1 _ hlink) h1 h2 (by rw [hr.2.2 _ (by omega)]; exact h3) h4 h5 rfl rfl hd (h H locs ls hr hz hl hk hn)
theorem ab_kalen {q N : Nat} {ty : FieldType} {g : Nat → Value} (F : ab_fx p s m args c X nL cc own) (hd : decode cc pc = .ok (.arraylength, 1)) (hZ : va_T ty (X.2.2.2.2.1 q) N g (fun q => X.1 ≤ q) s X.2.2.2.2.2) (h : ab_g p l e R s m args below meth c Q X nL (pc + 1) L (.inl N :: S) σ k n) : ab_g p l e R s m args below meth c Q X nL pc L (.inr (.inr (.inr q)) :: S) σ k n :=
  fun H locs ls hr hz hl hk hn => by
    obtain ⟨cell, h1, h2, h3, h4, h5, h6, h7⟩ := hZ
    exact W.alen (n := Int32.ofInt N) F.1 F.2.1 (by rw [hr.2.2 _ (by omega)]; exact h1) h2 h5 rfl rfl hd (h H locs ls hr hz hl hk hn)
theorem ab_kbald {q N : Nat} {i : Int} {g : Nat → Int32} (F : ab_fx p s m args c X nL cc own) (hd : decode cc pc = .ok (.baload, 1)) (hZ : va_T .byte (X.2.2.2.2.1 q) N (fun j => .int (g j)) (fun q => X.1 ≤ q) s X.2.2.2.2.2) (h0 : 0 ≤ i) (hi : i < N) (hR : ab_R i) (h : ab_g p l e R s m args below meth c Q X nL (pc + 1) L (.inl (g i.toNat).toInt :: S) σ k n) : ab_g p l e R s m args below meth c Q X nL pc L (.inl i :: .inr (.inr (.inr q)) :: S) σ k n :=
  fun H locs ls hr hz hl hk hn => by
    obtain ⟨cell, h1, h2, h3, h4, h5, h6, h7⟩ := hZ
    have hcl := ab_clamp h0 hR
    have hneg : ¬ Int32.ofInt i < 0 := fun q => by have := (ab_lt hR ab_R0).mp q; omega
    have h9 := h H locs ls hr hz hl hk hn
    refine W.bald (v := .int (g i.toNat)) (j := Int32.ofInt i) F.1 F.2.1 (by rw [hr.2.2 _ (by omega)]; exact h1) h2 h3 (fun hq => hq.elim hneg (fun h8 => by rw [hcl] at h8; omega)) (by rw [hcl]; exact h6 _ (by omega)) rfl rfl hd ?_
    have e : ab_v X (.inl (g i.toNat).toInt) = .int (g i.toNat) := congrArg Value.int (ab_of _)
    rw [List.map_cons, e] at h9
    exact h9
theorem ab_kiald {q N : Nat} {i : Int} {g : Nat → Int} (F : ab_fx p s m args c X nL cc own) (hd : decode cc pc = .ok (.iaload, 1)) (hZ : va_T .int (X.2.2.2.2.1 q) N (fun j => .int (Int32.ofInt (g j))) (fun q => X.1 ≤ q) s X.2.2.2.2.2) (h0 : 0 ≤ i) (hi : i < N) (hz1 : N < 100000) (h : ab_g p l e R s m args below meth c Q X nL (pc + 1) L (.inl (g i.toNat) :: S) σ k n) : ab_g p l e R s m args below meth c Q X nL pc L (.inl i :: .inr (.inr (.inr q)) :: S) σ k n :=
  fun H locs ls hr hz hl hk hn => by
    obtain ⟨cell, h1, h2, h3, h4, h5, h6, h7⟩ := hZ
    have hR : ab_R i := by unfold ab_R; omega
    have hcl := ab_clamp h0 hR
    have hneg : ¬ Int32.ofInt i < 0 := fun q => by have := (ab_lt hR ab_R0).mp q; omega
    exact W.iald (v := .int (Int32.ofInt (g i.toNat))) (j := Int32.ofInt i) F.1 F.2.1 (by rw [hr.2.2 _ (by omega)]; exact h1) h2 h3 (fun hq => hq.elim hneg (fun h8 => by rw [hcl] at h8; omega)) (by rw [hcl]; exact h6 _ (by omega)) rfl rfl hd (h H locs ls hr hz hl hk hn)
theorem ab_i2c {z : Int} (F : ab_fx p s m args c X nL cc own) (hd : decode cc pc = .ok (.i2c, 1)) (h0 : 0 ≤ z) (h1 : z < 128) (h : ab_g p l e R s m args below meth c Q X nL (pc + 1) L (.inl z :: S) σ k n) : ab_g p l e R s m args below meth c Q X nL pc L (.inl z :: S) σ k n :=
  fun H locs ls hr hz hl hk hn => lv_i2c F.1 F.2.1 hd (ab_lo h0 h1).1 (h H locs ls hr hz hl hk hn)
theorem ab_kret {z : Int} {ty : FieldType} (F : ab_fx p s m args c X nL cc own) (hlk : meth.locks = false) (hr0 : meth.sig.returnType = some ty) (hd : decode cc pc = .ok (.ireturn, 1)) (hb : narrow ty (.int (Int32.ofInt z)) = .int (Int32.ofInt z)) (hp : post (.inl (some (.inl z))) σ) : ab_g p l e R s m args below meth c (ab_Q below args s R X post) X nL pc L [.inl z] σ k n :=
  fun H locs ls hr hz hl hk hn => vx_ret (W.widen hk hn (W.zret (ty := ty) (hlocks := hlk) F.1 F.2.1 hr0 hb (fun t ht _ => ⟨some (.inl z), σ, rfl, hp, by rw [ht]; exact hr⟩) hz hd))
theorem ab_callK {idx d mc ms q : Nat} {y : MethodName} {av : List ab_V} {po : ab_O → ab_H → Prop} (hst : l.stackTraces = false) (F : ab_fx p s m args c X nL cc own) (hd : decode cc pc = .ok (.invokevirtual idx, 3)) (hcall : ab_call d mc ms y (.inr (.inr (.inr q)) :: av) σ po)
    (hlink : Cond.methodLink own idx y ∈ ab_ws) (hinst : Cond.instanceMethod y ∈ ab_ws) (hsel : Cond.selects y.cls y y ∈ ab_ws) (hini : Cond.initialized y.cls ∈ ab_ws) (hO : va_O y.cls (X.2.2.2.2.1 q) (fun q => X.1 ≤ q) s X.2.2.2.2.2)
    (hy : y.cls ≠ "java/lang/invoke/MethodHandle" ∧ y.cls ≠ "java/lang/invoke/VarHandle" ∧ (parseMethodDescriptor y.desc).map (fun d => d.parameters.length) = some av.length) (hR : d + 1 ≤ R.frames ∧ 100 * d + 79 ≤ R.locals) (hk1 : k + mc ≤ R.cells) (hn1 : n + ms ≤ R.slots) (hS : S.length ≤ 8 ∧ S.all ab_n1 = true)
    (h1 : ∀ r σ', po (.inl r) σ' → ab_g p l e R s m args below meth c Q X nL (pc + 3) L (r.toList ++ S) σ' (k + mc) (n + ms)) (h2 : ∀ i σ', i < 3 → po (.inr i) σ' → ab_gx p l e R s m args below meth c Q X nL pc i L σ' (k + mc) (n + ms)) :
    ab_g p l e R s m args below meth c Q X nL pc L (av.reverse ++ .inr (.inr (.inr q)) :: S) σ k n :=
  fun H locs ls hr hz hl hk hn => by
    obtain ⟨bytes, maxL, ret, hcw, hmL, hM⟩ := hcall l X hst
    have hts := F.2.2.2.2.1
    obtain ⟨cell, o1, o2, o3, o4⟩ := hO
    have hrecv : ∃ cell : Cell, H[X.2.2.2.2.1 q]? = some cell ∧ cell.vm.isStatics = false ∧ s.vm.findClass y.cls = some cell.cls := ⟨cell, by rw [hr.2.2 _ (by omega)]; exact o1, o2, o3⟩
    refine ab_run (mc := mc) (ms := ms) (a := (Value.ref (X.2.2.2.2.1 q) :: av.map (ab_v X)).toArray) (po := po) ?_ hz hl hk1 hn1 h1 h2
    refine vx_runV (bytes := bytes) (maxL := maxL) (ret := ret) (index := idx) (Ts := ab_ws) (own := own) (C := y.cls) (As := av.map (ab_v X)) (b := X.2.2.2.2.1 q) (n := av.length) (nL := nL) ⟨F.1, F.2.1, F.2.2.1, F.2.2.2.1, hts⟩ hM ?_ ⟨ab_blind, hrecv, fun U hU hW => ⟨rfl, by rw [hU]; exact hr, ab_K_warm hW F.2.2.2.2.2⟩⟩ rfl (by rw [List.length_map]) hl.1 ?_ (ab_mr rfl hS) hd ⟨hk1, hn1⟩
    · exact ⟨callB_of av.length hts (ab_goodc hcw) rfl rfl rfl (hts _ hini) (hts _ hlink) hy ⟨hR.1, by show 8 + (maxL + 11) + 100 * d ≤ R.locals; omega⟩, hts _ hinst, hts _ hsel⟩
    · show (av.reverse ++ .inr (.inr (.inr q)) :: S).map (ab_v X) = _
      rw [List.map_append, List.map_reverse]
      rfl
end AbStr
/-- it returns just this and changes nothing -/
abbrev ab_jp (σ : ab_H) (r : Option ab_V) : ab_O → ab_H → Prop := fun r' σ' => r' = .inl r ∧ σ' = σ
theorem ab_R1 : ab_R 1 := by unfold ab_R; omega
section AbJdk
variable {σ : ab_H} {q : Nat}
set_option maxRecDepth 100000 in
theorem j_coder (hq : q < 3) : ab_call 0 0 0 yJ0_coder_7d493 [.inr (.inr (.inr q))] σ (ab_jp σ (some (.inl 0))) := by
  refine ab_entryJ (cc := cJ0_coder_7d493) (maxL := 1) (ret := some .byte) (ab_jw (by decide +kernel)) (by decide +kernel) (by decide) rfl ?_
  intro p l e s m args below meth c X hst F hlk hr0
  obtain ⟨-, -, -, -, -, -, ⟨⟨h8, ha⟩, -⟩, -⟩ := F.2.2.2.2.2
  refine ab_kgets (idx := 38) (w := .inl 1) F (by decide +kernel) ha (ab_jw (by decide +kernel)) ?_
  refine ab_if (cd := .eq) (off := 10) (tgt := 13) F (by decide +kernel) (by decide) ab_R1 (fun h => absurd (show (1 : Int) = 0 from h) (by decide)) (fun _ => ?_)
  refine ab_aload_n (i := 0) (v := .inr (.inr (.inr q))) F (by decide +kernel) rfl rfl ?_
  refine ab_kgetf (idx := 15) (w := .inl 0) F (by decide +kernel) (h8.1 q hq).2.1 (ab_jw (by decide +kernel)) ?_
  refine ab_goto (off := 4) (tgt := 14) F (by decide +kernel) (by decide) ?_
  exact ab_kret F hlk hr0 (by decide +kernel) rfl ⟨rfl, rfl⟩
set_option maxRecDepth 100000 in
theorem j_latin (hq : q < 3) : ab_call 0 0 0 yJ0_isLatin1_aae02 [.inr (.inr (.inr q))] σ (ab_jp σ (some (.inl 1))) := by
  refine ab_entryJ (cc := cJ0_isLatin1_aae02) (maxL := 1) (ret := some .boolean) (ab_jw (by decide +kernel)) (by decide +kernel) (by decide) rfl ?_
  intro p l e s m args below meth c X hst F hlk hr0
  obtain ⟨-, -, -, -, -, -, ⟨⟨h8, ha⟩, -⟩, -⟩ := F.2.2.2.2.2
  refine ab_kgets (idx := 38) (w := .inl 1) F (by decide +kernel) ha (ab_jw (by decide +kernel)) ?_
  refine ab_if (cd := .eq) (off := 14) (tgt := 17) F (by decide +kernel) (by decide) ab_R1 (fun h => absurd (show (1 : Int) = 0 from h) (by decide)) (fun _ => ?_)
  refine ab_aload_n (i := 0) (v := .inr (.inr (.inr q))) F (by decide +kernel) rfl rfl ?_
  refine ab_kgetf (idx := 15) (w := .inl 0) F (by decide +kernel) (h8.1 q hq).2.1 (ab_jw (by decide +kernel)) ?_
  refine ab_if (cd := .ne) (off := 7) (tgt := 17) F (by decide +kernel) (by decide) ab_R0 (fun h => absurd rfl h) (fun _ => ?_)
  refine ab_iconst (z := 1) F (by decide +kernel) ?_
  refine ab_goto (off := 4) (tgt := 18) F (by decide +kernel) (by decide) ?_
  exact ab_kret F hlk hr0 (by decide +kernel) rfl ⟨rfl, rfl⟩
set_option maxRecDepth 100000 in
theorem j_length (hq : q < 3) : ab_call 1 0 0 yJ0_length_8abf5 [.inr (.inr (.inr q))] σ (ab_jp σ (some (.inl (ab_sl.getD q 0 : Nat)))) := by
  obtain ⟨⟨-, e0, -⟩, -⟩ := ab_sb_ok q hq
  refine ab_entryJ (cc := cJ0_length_8abf5) (maxL := 1) (ret := some .int) (ab_jw (by decide +kernel)) (by decide +kernel) (by decide) rfl ?_
  intro p l e s m args below meth c X hst F hlk hr0
  obtain ⟨-, -, -, -, -, -, ⟨⟨h8, ha⟩, -⟩, -⟩ := F.2.2.2.2.2
  refine ab_aload_n (i := 0) (v := .inr (.inr (.inr q))) F (by decide +kernel) rfl rfl ?_
  refine ab_kgetf (idx := 9) (w := .inr (.inr (.inr (10 + q)))) F (by decide +kernel) (h8.1 q hq).2.2.1 (ab_jw (by decide +kernel)) ?_
  refine ab_kalen F (by decide +kernel) (h8.1 q hq).2.2.2 ?_
  refine ab_aload_n (i := 0) (v := .inr (.inr (.inr q))) F (by decide +kernel) rfl rfl ?_
  refine ab_callK (idx := 335) (av := []) hst F (by decide +kernel) (j_coder hq) (ab_jw (by decide +kernel)) (ab_jw (by decide +kernel)) (ab_jw (by decide +kernel)) (ab_jw (by decide +kernel)) (h8.1 q hq).1 (by decide +kernel) ⟨Nat.le_refl _, by decide⟩ (Nat.le_refl _) (Nat.le_refl _) ⟨by simp, rfl⟩ (fun r σ' hp => ?_) (fun i σ' _ hp => nomatch hp.1)
  obtain ⟨hr, rfl⟩ := hp
  cases hr
  refine ab_ishr F (by decide +kernel) ?_
  rw [e0]
  exact ab_kret F hlk hr0 (by decide +kernel) rfl ⟨rfl, rfl⟩
set_option maxRecDepth 100000 in
theorem j_pre {i z : Int} {f : ab_V} (hf : ab_n1 f = true) (h0 : 0 ≤ i) (h1 : i < z) (hi : ab_R i) (hz : ab_R z) : ab_call 0 0 0 yJ3_checkIndex_8e157 [.inl i, .inl z, f] σ (ab_jp σ (some (.inl i))) := by
  refine ab_entryJ (cc := cJ3_checkIndex_8e157) (maxL := 3) (ret := some .int) (ab_jw (by decide +kernel)) (by decide +kernel) (by decide) (by show ((true && (true && (ab_n1 f && true))) && true) = true; rw [hf]; rfl) ?_
  intro p l e s m args below meth c X hst F hlk hr0
  refine ab_iload_n (i := 0) (z := i) F (by decide +kernel) rfl ?_
  refine ab_if (cd := .lt) (off := 8) (tgt := 9) F (by decide +kernel) (by decide) hi (fun h => absurd h (by show ¬ i < 0; omega)) (fun _ => ?_)
  refine ab_iload_n (i := 0) (z := i) F (by decide +kernel) rfl ?_
  refine ab_iload_n (i := 1) (z := z) F (by decide +kernel) rfl ?_
  refine ab_icmp (cd := .lt) (off := 10) (tgt := 16) F (by decide +kernel) (by decide) hi hz (fun _ => ?_) (fun h => absurd h1 h)
  refine ab_iload_n (i := 0) (z := i) F (by decide +kernel) rfl ?_
  exact ab_kret F hlk hr0 (by decide +kernel) rfl ⟨rfl, rfl⟩
set_option maxRecDepth 100000 in
theorem j_check {i z : Int} (h0 : 0 ≤ i) (h1 : i < z) (hi : ab_R i) (hz : ab_R z) : ab_call 1 0 0 yJ0_checkIndex_df160 [.inl i, .inl z] σ (ab_jp σ none) := by
  refine ab_entryJ (cc := cJ0_checkIndex_df160) (maxL := 2) (ret := none) (ab_jw (by decide +kernel)) (by decide +kernel) (by decide) rfl ?_
  intro p l e s m args below meth c X hst F hlk hr0
  obtain ⟨-, -, -, -, -, -, ⟨-, hb, -⟩, -⟩ := F.2.2.2.2.2
  refine ab_iload_n (i := 0) (z := i) F (by decide +kernel) rfl ?_
  refine ab_iload_n (i := 1) (z := z) F (by decide +kernel) rfl ?_
  have main : ∀ w : ab_V, ab_n1 w = true → va_Z RJ3 "SIOOBE_FORMATTER" "Ljava/util/function/BiFunction;" (ab_v X w) (fun q => X.1 ≤ q) s X.2.2.2.2.2 → ab_g p l e (ab_rm 1 0 0) s m args below meth c (ab_Q below args s (ab_rm 1 0 0) X (ab_jp σ none)) X 2 (0 + 1 + 1) ([Sum.inl i, Sum.inl z].map some ++ List.replicate (2 - [Sum.inl i, (Sum.inl z : ab_V)].length) none) [.inl z, .inl i] σ 0 0 := fun w hw hZ => by
    refine ab_kgets (idx := 1053) (w := w) F (by decide +kernel) hZ (ab_jw (by decide +kernel)) ?_
    refine ab_callS (idx := 1059) (av := [.inl i, .inl z, w]) (S := []) hst F (by decide +kernel) (j_pre hw h0 h1 hi hz) (ab_jw (by decide +kernel)) (ab_jw (by decide +kernel)) (ab_jw (by decide +kernel)) ⟨by decide +kernel, by decide +kernel, (by decide +kernel : (parseMethodDescriptor yJ3_checkIndex_8e157.desc).map (fun d => d.parameters.length) = some 3)⟩ ⟨Nat.le_refl _, by decide⟩ (Nat.le_refl _) (Nat.le_refl _) ⟨by simp, rfl⟩ (fun r σ' hp => ?_) (fun i σ' _ hp => nomatch hp.1)
    obtain ⟨hr, rfl⟩ := hp
    cases hr
    refine ab_pop F (by decide +kernel) rfl ?_
    exact ab_vret F hlk hr0 (by decide +kernel) ⟨rfl, rfl⟩
  rcases hb with hb | hb
  · exact main (.inr (.inl none)) rfl hb
  · exact main (.inr (.inr (.inr 20))) rfl hb
set_option maxRecDepth 100000 in
theorem j_char1 {i : Int} (hq : q < 3) (h0 : 0 ≤ i) (h1 : i < (ab_sl.getD q 0 : Nat)) : ab_call 2 0 0 yJ1_charAt_3b067 [.inr (.inr (.inr (10 + q))), .inl i] σ (ab_jp σ (some (.inl (ab_chr q i.toNat)))) := by
  obtain ⟨⟨-, -, e0⟩, -⟩ := ab_sb_ok q hq
  have hi : ab_R i := by unfold ab_R; omega
  have hz : ab_R ((ab_sl.getD q 0 : Nat) : Int) := by unfold ab_R; omega
  obtain ⟨c0, c1⟩ := ab_chr_l (q := q) (j := i.toNat) hq (by omega)
  refine ab_entryJ (cc := cJ1_charAt_3b067) (maxL := 2) (ret := some .char) (ab_jw (by decide +kernel)) (by decide +kernel) (by decide) rfl ?_
  intro p l e s m args below meth c X hst F hlk hr0
  obtain ⟨-, -, -, -, -, -, ⟨⟨h8, ha⟩, -⟩, -⟩ := F.2.2.2.2.2
  refine ab_iload_n (i := 1) (z := i) F (by decide +kernel) rfl ?_
  refine ab_aload_n (i := 0) (v := .inr (.inr (.inr (10 + q)))) F (by decide +kernel) rfl rfl ?_
  refine ab_kalen F (by decide +kernel) (h8.1 q hq).2.2.2 ?_
  refine ab_callS (idx := 9) (av := [.inl i, .inl (ab_sl.getD q 0 : Nat)]) (S := []) hst F (by decide +kernel) (j_check h0 h1 hi hz) (ab_jw (by decide +kernel)) (ab_jw (by decide +kernel)) (ab_jw (by decide +kernel)) ⟨by decide +kernel, by decide +kernel, (by decide +kernel : (parseMethodDescriptor yJ0_checkIndex_df160.desc).map (fun d => d.parameters.length) = some 2)⟩ ⟨Nat.le_refl _, by decide⟩ (Nat.le_refl _) (Nat.le_refl _) ⟨by simp, rfl⟩ (fun r σ' hp => ?_) (fun i σ' _ hp => nomatch hp.1)
  obtain ⟨hr, rfl⟩ := hp
  cases hr
  refine ab_aload_n (i := 0) (v := .inr (.inr (.inr (10 + q)))) F (by decide +kernel) rfl rfl ?_
  refine ab_iload_n (i := 1) (z := i) F (by decide +kernel) rfl ?_
  refine ab_kbald F (by decide +kernel) (h8.1 q hq).2.2.2 h0 h1 hi ?_
  refine ab_sipush (z := 255) F (by decide +kernel) (by decide +kernel) ?_
  refine ab_iand F (by decide +kernel) ?_
  show ab_g _ _ _ _ _ _ _ _ _ _ _ _ _ _ _ [.inl (ab_and (ab_chr q i.toNat) 255)] _ _ _
  rw [(ab_lo c0 c1).2]
  refine ab_i2c F (by decide +kernel) c0 c1 ?_
  exact ab_kret F hlk hr0 (by decide +kernel) (congrArg Value.int (ab_lo c0 c1).1) ⟨rfl, rfl⟩
set_option maxRecDepth 100000 in
theorem j_charAt {i : Int} (hq : q < 3) (h0 : 0 ≤ i) (h1 : i < (ab_sl.getD q 0 : Nat)) : ab_call 3 0 0 yJ0_charAt_5068e [.inr (.inr (.inr q)), .inl i] σ (ab_jp σ (some (.inl (ab_chr q i.toNat)))) := by
  obtain ⟨c0, c1⟩ := ab_chr_l (q := q) (j := i.toNat) hq (by omega)
  refine ab_entryJ (cc := cJ0_charAt_5068e) (maxL := 2) (ret := some .char) (ab_jw (by decide +kernel)) (by decide +kernel) (by decide) rfl ?_
  intro p l e s m args below meth c X hst F hlk hr0
  obtain ⟨-, -, -, -, -, -, ⟨⟨h8, ha⟩, -⟩, -⟩ := F.2.2.2.2.2
  refine ab_aload_n (i := 0) (v := .inr (.inr (.inr q))) F (by decide +kernel) rfl rfl ?_
  refine ab_callK (idx := 492) (av := []) (S := []) hst F (by decide +kernel) (j_latin hq) (ab_jw (by decide +kernel)) (ab_jw (by decide +kernel)) (ab_jw (by decide +kernel)) (ab_jw (by decide +kernel)) (h8.1 q hq).1 (by decide +kernel) ⟨by decide, by decide⟩ (Nat.le_refl _) (Nat.le_refl _) ⟨by simp, rfl⟩ (fun r σ' hp => ?_) (fun i σ' _ hp => nomatch hp.1)
  obtain ⟨hr, rfl⟩ := hp
  cases hr
  refine ab_if (cd := .eq) (off := 12) (tgt := 16) F (by decide +kernel) (by decide) ab_R1 (fun h => absurd (show (1 : Int) = 0 from h) (by decide)) (fun _ => ?_)
  refine ab_aload_n (i := 0) (v := .inr (.inr (.inr q))) F (by decide +kernel) rfl rfl ?_
  refine ab_kgetf (idx := 9) (w := .inr (.inr (.inr (10 + q)))) F (by decide +kernel) (h8.1 q hq).2.2.1 (ab_jw (by decide +kernel)) ?_
  refine ab_iload_n (i := 1) (z := i) F (by decide +kernel) rfl ?_
  refine ab_callS (idx := 495) (av := [.inr (.inr (.inr (10 + q))), .inl i]) (S := []) hst F (by decide +kernel) (j_char1 hq h0 h1) (ab_jw (by decide +kernel)) (ab_jw (by decide +kernel)) (ab_jw (by decide +kernel)) ⟨by decide +kernel, by decide +kernel, (by decide +kernel : (parseMethodDescriptor yJ1_charAt_3b067.desc).map (fun d => d.parameters.length) = some 2)⟩ ⟨Nat.le_refl _, by decide⟩ (Nat.le_refl _) (Nat.le_refl _) ⟨by simp, rfl⟩ (fun r σ' hp => ?_) (fun i σ' _ hp => nomatch hp.1)
  obtain ⟨hr, rfl⟩ := hp
  cases hr
  exact ab_kret F hlk hr0 (by decide +kernel) (congrArg Value.int (ab_lo c0 c1).1) ⟨rfl, rfl⟩
end AbJdk
