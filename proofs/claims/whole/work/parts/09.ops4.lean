section AbOps4
variable {p : Program} {l : Launch} {e : Env} {R : Room} {s : State} {m : MethodId} {args : Array Value} {below : List Frame} {meth : Method} {c : Code} {Q : State → Prop} {X : ab_X} {nL : Nat} {cc : ByteArray} {own : String} {pc : Nat} {L : ab_L} {S : List ab_V} {σ : ab_H} {k n : Nat} {post : ab_O → ab_H → Prop}
theorem ab_aret {v : ab_V} {rt : FieldType} (F : ab_fx p s m args c X nL cc own) (hlk : meth.locks = false) (hr0 : meth.sig.returnType = some rt) (hrt : rt.isReference = true) (hd : decode cc pc = .ok (.areturn, 1)) (hv : ab_isr v = true) (hp : post (.inl (some v)) σ) : ab_g p l e R s m args below meth c (ab_Q below args s R X post) X nL pc L [v] σ k n :=
  fun H locs ls hr hz hl hk hn => by
    match v, hv, hp with
    | .inr (.inl (some a)), _, hp => exact vx_ret (W.widen hk hn (W.aret (hlocks := hlk) F.1 F.2.1 hr0 (by cases rt <;> first | exact Or.inl ⟨_, rfl⟩ | exact Or.inr ⟨_, rfl⟩ | cases hrt) (Or.inr ⟨X.1 + a, rfl⟩) (fun t ht _ => ⟨some (.inr (.inl (some a))), σ, rfl, hp, by rw [ht]; exact hr⟩) hz hd))
    | .inr (.inl none), _, hp => exact vx_ret (W.widen hk hn (W.aret (hlocks := hlk) F.1 F.2.1 hr0 (by cases rt <;> first | exact Or.inl ⟨_, rfl⟩ | exact Or.inr ⟨_, rfl⟩ | cases hrt) (Or.inl rfl) (fun t ht _ => ⟨some (.inr (.inl none)), σ, rfl, hp, by rw [ht]; exact hr⟩) hz hd))
    | .inr (.inr (.inr a)), _, hp => exact vx_ret (W.widen hk hn (W.aret (hlocks := hlk) F.1 F.2.1 hr0 (by cases rt <;> first | exact Or.inl ⟨_, rfl⟩ | exact Or.inr ⟨_, rfl⟩ | cases hrt) (Or.inr ⟨X.2.2.2.2.1 a, rfl⟩) (fun t ht _ => ⟨some (.inr (.inr (.inr a))), σ, rfl, hp, by rw [ht]; exact hr⟩) hz hd))
theorem ab_ifnn {r : Option Nat} {off : Int} {tgt : Nat} (F : ab_fx p s m args c X nL cc own) (hd : decode cc pc = .ok (.ifnonnull off, 3)) (ht : (pc : Int) + off = (tgt : Int)) (h1 : r ≠ none → ab_g p l e R s m args below meth c Q X nL tgt L S σ k n) (h2 : r = none → ab_g p l e R s m args below meth c Q X nL (pc + 3) L S σ k n) : ab_g p l e R s m args below meth c Q X nL pc L (.inr (.inl r) :: S) σ k n :=
  fun H locs ls hr hz hl hk hn => by
    cases r with
    | none => exact lv_ifnonnullN F.1 F.2.1 hd (h2 rfl H locs ls hr hz hl hk hn)
    | some a => exact lv_ifnonnull F.1 F.2.1 hd ht (h1 (fun h => by cases h) H locs ls hr hz hl hk hn)
theorem ab_ldc {idx : Nat} {v : Int32} {z : Int} (F : ab_fx p s m args c X nL cc own) (hd : decode cc pc = .ok (.ldc idx, 2)) (hw : Cond.constant own idx v ∈ ab_ws) (hv : v = Int32.ofInt z) (h : ab_g p l e R s m args below meth c Q X nL (pc + 2) L (.inl z :: S) σ k n) : ab_g p l e R s m args below meth c Q X nL pc L S σ k n :=
  fun H locs ls hr hz hl hk hn => lv_ldc F.1 F.2.1 F.2.2.2.1 (F.2.2.2.2.1 _ hw) hd (by rw [hv]; exact h H locs ls hr hz hl hk hn)
theorem ab_i2l {z : Int} (F : ab_fx p s m args c X nL cc own) (hd : decode cc pc = .ok (.i2l, 1)) (hz1 : ab_R z) (h : ab_g p l e R s m args below meth c Q X nL (pc + 1) L (.inr (.inr (.inl z)) :: S) σ k n) : ab_g p l e R s m args below meth c Q X nL pc L (.inl z :: S) σ k n :=
  fun H locs ls hr hz hl hk hn => lv_i2l F.1 F.2.1 hd (v := Int64.ofInt z) (by
    apply Int64.toInt_inj.mp
    rw [Int32.toInt_toInt64, ab_i32 _ hz1, Int64.toInt_ofInt]
    unfold ab_R at hz1
    have e : (Int64.size : Int) = 18446744073709551616 := rfl
    symm
    apply Int.bmod_eq_of_le <;> omega) (h H locs ls hr hz hl hk hn)
theorem ab_lconst {z : Fin 2} (F : ab_fx p s m args c X nL cc own) (hd : decode cc pc = .ok (.lconst z, 1)) (h : ab_g p l e R s m args below meth c Q X nL (pc + 1) L (.inr (.inr (.inl (z : Nat))) :: S) σ k n) : ab_g p l e R s m args below meth c Q X nL pc L S σ k n :=
  fun H locs ls hr hz hl hk hn => lv_lconst F.1 F.2.1 hd (v := Int64.ofInt (z : Nat)) rfl (h H locs ls hr hz hl hk hn)
theorem ab_i64 (a : Int) (h : ab_R a) : (Int64.ofInt a).toInt = a := by
  rw [Int64.toInt_ofInt]
  unfold ab_R at h
  have e : (Int64.size : Int) = 18446744073709551616 := rfl
  apply Int.bmod_eq_of_le <;> omega
theorem ab_lcmp {x y : Int} (F : ab_fx p s m args c X nL cc own) (hd : decode cc pc = .ok (.lcmp, 1)) (hx : ab_R x) (hy : ab_R y) (h : ∀ z : Int, ab_R z → (z = 0 ↔ x = y) → ab_g p l e R s m args below meth c Q X nL (pc + 1) L (.inl z :: S) σ k n) : ab_g p l e R s m args below meth c Q X nL pc L (.inr (.inr (.inl y)) :: .inr (.inr (.inl x)) :: S) σ k n :=
  fun H locs ls hr hz hl hk hn => by
    refine W.lcmp F.1 F.2.1 hd ?_
    have h2 := h (lg_cmp (Int64.ofInt x) (Int64.ofInt y)).toInt (by
      unfold ab_R
      exact ⟨Int32.le_toInt _, Int32.toInt_lt _⟩) (by
      unfold lg_cmp
      simp only [gt_iff_lt, Int64.lt_iff_toInt_lt, ← Int64.toInt_inj, ab_i64 x hx, ab_i64 y hy]
      split
      · exact ⟨fun h => absurd h (by decide), fun h => by omega⟩
      · split
        · next h => exact ⟨fun _ => h, fun _ => rfl⟩
        · next h => exact ⟨fun h => absurd h (by decide), fun q => absurd q h⟩) H locs ls hr hz hl hk hn
    simpa [ab_v, ab_of] using h2
theorem ab_swT {x lo0 hi dflt : Int} {offs : Array Int} {len : Nat} {pcs : Nat → Nat} (F : ab_fx p s m args c X nL cc own) (hd : decode cc pc = .ok (.tableswitch dflt lo0 hi offs, len)) (hx : ab_R x) (hhi : hi = lo0 + (offs.size : Int) - 1) {ts : List Nat} {d : Nat} (hts : ts.length = offs.size) (ht : ∀ j off, offs[j]? = some off → (pc : Int) + off = ((pcs (ts.getD j 0) : Nat) : Int)) (hdf : (pc : Int) + dflt = ((pcs d : Nat) : Int))
    (h : ab_sw (fun b => ab_g p l e R s m args below meth c Q X nL (pcs b) L S σ k n) x lo0 ts d) : ab_g p l e R s m args below meth c Q X nL pc L (.inl x :: S) σ k n := by
  have key : ∀ (ts' : List Nat) (lo : Int), ab_sw (fun b => ab_g p l e R s m args below meth c Q X nL (pcs b) L S σ k n) x lo ts' d → (∀ j : Nat, x = lo + j → j < ts'.length → ab_g p l e R s m args below meth c Q X nL (pcs (ts'.getD j 0)) L S σ k n) ∧ ((x < lo ∨ lo + ts'.length ≤ x) → ab_g p l e R s m args below meth c Q X nL (pcs d) L S σ k n) := by
    intro ts'
    induction ts' with
    | nil => intro lo h; exact ⟨fun j _ hj => by simp at hj, fun _ => h⟩
    | cons t ts' ih =>
      intro lo h
      obtain ⟨h1, h2⟩ := h
      constructor
      · intro j hj hlt
        cases j with
        | zero => exact h1 (by simpa using hj)
        | succ j =>
          have := (ih (lo + 1) (h2 (by omega))).1 j (by omega) (by simpa using hlt)
          simpa using this
      · intro hor
        refine (ih (lo + 1) (h2 ?_)).2 ?_
        · rw [List.length_cons] at hor; omega
        · rw [List.length_cons] at hor; omega
  obtain ⟨k1, k2⟩ := key ts lo0 h
  intro H locs ls hr hz hl hk hn
  by_cases h1 : x < lo0 ∨ hi < x
  · exact lv_tableOut F.1 F.2.1 hd (by rw [ab_i32 x hx]; exact h1) hdf (k2 (by rw [hts]; omega) H locs ls hr hz hl hk hn)
  · have hj : (x - lo0).toNat < offs.size := by omega
    exact lv_tableIn F.1 F.2.1 hd (by rw [ab_i32 x hx]; omega) (by rw [ab_i32 x hx]; omega) (off := offs[(x - lo0).toNat]) (by rw [ab_i32 x hx]; exact Array.getElem?_eq_getElem hj) (ht _ _ (Array.getElem?_eq_getElem hj)) (k1 (x - lo0).toNat (by omega) (by omega) H locs ls hr hz hl hk hn)
theorem ab_callI {idx d mc ms : Nat} {y : MethodName} {av : List ab_V} {a : Nat} {po : ab_O → ab_H → Prop} (hst : l.stackTraces = false) (F : ab_fx p s m args c X nL cc own) (hd : decode cc pc = .ok (.invokespecial idx, 3)) (hcall : ab_call d mc ms y (.inr (.inl (some a)) :: av) σ po)
    (hlink : Cond.methodLink own idx y ∈ ab_ws ∨ (own, idx, y) ∈ ab_nest) (hinst : Cond.instanceMethod y ∈ ab_ws) (hini : Cond.initialized y.cls ∈ ab_ws) (hyn : y.name = "<init>")
    (hy : y.cls ≠ "java/lang/invoke/MethodHandle" ∧ y.cls ≠ "java/lang/invoke/VarHandle" ∧ (parseMethodDescriptor y.desc).map (fun d => d.parameters.length) = some av.length ∧ (parseMethodDescriptor y.desc).map (fun d => d.returnType) = some none) (hR : d + 1 ≤ R.frames ∧ 100 * d + 79 ≤ R.locals) (hk1 : k + mc ≤ R.cells) (hn1 : n + ms ≤ R.slots) (hS : S.length ≤ 8 ∧ S.all ab_n1 = true)
    (h1 : ∀ r σ', po (.inl r) σ' → ab_g p l e R s m args below meth c Q X nL (pc + 3) L (r.toList ++ S) σ' (k + mc) (n + ms)) (h2 : ∀ i σ', i < 3 → po (.inr i) σ' → ab_gx p l e R s m args below meth c Q X nL pc i L σ' (k + mc) (n + ms)) :
    ab_g p l e R s m args below meth c Q X nL pc L (av.reverse ++ .inr (.inl (some a)) :: S) σ k n :=
  fun H locs ls hr hz hl hk hn => by
    obtain ⟨bytes, maxL, ret, hcw, hmL, hM⟩ := hcall l X hst
    have hts := F.2.2.2.2.1
    have hret : ret = none := by
      obtain ⟨mk, hnm⟩ := Cond.code_named (hts _ hcw)
      obtain ⟨mt, cM, hm1, hm2, hm3, hm4, hm5, hm6, hm7, hm8⟩ := Cond.code_spec hnm (hts _ hcw)
      have h5 := hy.2.2.2
      rw [hm8] at h5
      have h6 : mt.sig.returnType = none := by simpa using h5
      rw [← hm5, h6]
    subst hret
    refine ab_run (mc := mc) (ms := ms) (a := (Value.ref (X.1 + a) :: av.map (ab_v X)).toArray) (po := po) ?_ hz hl hk1 hn1 h1 h2
    have hstk : (av.reverse ++ .inr (.inl (some a)) :: S).map (ab_v X) = (av.map (ab_v X)).reverse ++ .ref (X.1 + a) :: S.map (ab_v X) := by
      rw [List.map_append, List.map_reverse]
      rfl
    have hR2 : (ab_rm d mc ms).frames + 1 ≤ R.frames ∧ 8 + (maxL + 11) + (ab_rm d mc ms).locals ≤ R.locals := ⟨hR.1, by show 8 + (maxL + 11) + 100 * d ≤ R.locals; omega⟩
    have hy3 := And.intro hy.1 (And.intro hy.2.1 hy.2.2.1)
    rcases hlink with hlink | hlink
    · exact vx_runI (bytes := bytes) (maxL := maxL) (index := idx) (Ts := ab_ws) (own := own) (As := av.map (ab_v X)) (b := X.1 + a) (n := av.length) (nL := nL) ⟨F.1, F.2.1, F.2.2.1, F.2.2.2.1, hts⟩ hM ⟨callB_of av.length hts (ab_goodc hcw) rfl rfl rfl (hts _ hini) (hts _ hlink) hy3 hR2, hyn, hts _ hinst⟩ ⟨ab_blind, fun U hU hW => ⟨rfl, by rw [hU]; exact hr, ab_K_warm hW F.2.2.2.2.2⟩⟩ rfl (by rw [List.length_map]) hl.1 hstk (ab_mr rfl hS) hd ⟨hk1, hn1⟩
    · exact vx_runIN (bytes := bytes) (maxL := maxL) (index := idx) (Ts := ab_ws) (own := own) (host := RX9) (As := av.map (ab_v X)) (b := X.1 + a) (n := av.length) (nL := nL) ⟨F.1, F.2.1, F.2.2.1, F.2.2.2.1, hts⟩ hM ⟨va_cnB av.length hts (ab_goodc hcw) rfl rfl rfl (F.2.2.2.2.2.2.1 _ hlink) (hts _ hini) hy3 hR2, hyn, hts _ hinst⟩ ⟨ab_blind, fun U hU hW => ⟨rfl, by rw [hU]; exact hr, ab_K_warm hW F.2.2.2.2.2⟩⟩ rfl (by rw [List.length_map]) hl.1 hstk (ab_mr rfl hS) hd ⟨hk1, hn1⟩
end AbOps4
