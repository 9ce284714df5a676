def ab_enm : List String := ["java/lang/RuntimeException", "java/lang/Exception"]
/-- the throws of the class: class link, text, constructor link, place of the text -/
def ab_thr : Nat → Nat × Nat × Nat × Nat × String
  | 0 => (322, 324, 326, 3, "there is none such")
  | 1 => (329, 331, 333, 4, "an argument is not one of those allowed")
  | _ => (334, 336, 338, 5, "not in this state")
theorem ab_mem {w : Cond} (h : w ∈ lw_tbl) (g : goodWord w = true) : w ∈ ab_ws := List.mem_filter.mpr ⟨h, g⟩
def ab_thX : Nat → String × Nat × ByteArray
  | 0 => ("java/util/NoSuchElementException", 13, ⟨#[0x2a, 0x2b, 0xb7, 0x00, 0x0d, 0xb1]⟩)
  | 1 => ("java/lang/IllegalArgumentException", 7, Bundle.six)
  | _ => ("java/lang/IllegalStateException", 7, Bundle.six)
def ab_thW (i : Nat) : List Cond := (ab_oA RX9 (ab_thr i).2.2.1 (ab_thX i).1 (ab_thX i).2.1 (ab_thX i).2.2 "java/lang/RuntimeException" ["java/lang/Exception"]).filter vx_no
theorem ab_thW_g : ∀ i, i < 3 → ∀ w ∈ (ab_thW i).filter goodWord, w ∈ lw_tbl := by decide +kernel
theorem ab_thW_b : ∀ i, i < 3 → ∀ w ∈ (ab_thW i).filter (fun w => !goodWord w), w ∈ Cond.castable (ab_thX i).1 (ab_thX i).1 :: ab_decl.map Cond.declares := by decide +kernel
theorem ab_thW_o : ∀ i, i < 3 → ∀ w ∈ Cond.classLink RX9 (ab_thr i).1 (ab_thX i).1 :: Cond.initialized (ab_thX i).1 :: ab_thW i, vx_ot w = true := by decide +kernel
theorem ab_thW_c : ∀ i, i < 3 → (Cond.classLink RX9 (ab_thr i).1 (ab_thX i).1 ∈ lw_tbl ∧ goodWord (Cond.classLink RX9 (ab_thr i).1 (ab_thX i).1) = true) ∧ (Cond.initialized (ab_thX i).1 ∈ lw_tbl ∧ goodWord (Cond.initialized (ab_thX i).1) = true) := by decide +kernel
theorem ab_thX_d : ∀ i, i < 3 → decode (ab_thX i).2.2 0 = .ok (.aload_n 0, 1) ∧ decode (ab_thX i).2.2 1 = .ok (.aload_n 1, 1) ∧ decode (ab_thX i).2.2 2 = .ok (.invokespecial (ab_thX i).2.1, 3) ∧ decode (ab_thX i).2.2 5 = .ok (.return_, 1) := by decide +kernel
theorem ab_thX_s : ∀ i, i < 3 → (RX9, (ab_thr i).2.1, (ab_thr i).2.2.2.2, (ab_thr i).2.2.2.1) ∈ ab_strs ∧ ((ab_thX i).1, (ab_thX i).1) ∈ ab_cast ∧ ab_en i = (ab_thX i).1 ∧ Bundle.fit (ab_thX i).1 = true := by decide +kernel
section AbThrow
variable {p : Program} {l : Launch} {e : Env} {R : Room} {s : State} {m : MethodId} {args : Array Value} {below : List Frame} {meth : Method} {c : Code} {X : ab_X} {nL : Nat} {cc : ByteArray} {pc : Nat} {L : ab_L} {σ : ab_H} {k n : Nat} {post : ab_O → ab_H → Prop}
theorem ab_throw {i : Nat} (hi : i < 3) (hst : l.stackTraces = false) (F : ab_fx p s m args c X nL cc RX9) (hlk : meth.locks = false)
    (hout : ∀ x ∈ c.exceptionTable.toList, False) (d0 : decode cc pc = .ok (.new (ab_thr i).1, 3)) (d3 : decode cc (pc + 3) = .ok (.dup, 1)) (d4 : decode cc (pc + 4) = .ok (.ldc_w (ab_thr i).2.1, 3)) (d7 : decode cc (pc + 7) = .ok (.invokespecial (ab_thr i).2.2.1, 3)) (d10 : decode cc (pc + 10) = .ok (.athrow, 1))
    (hR : 6 ≤ R.frames ∧ 100 ≤ R.locals) (hk1 : k + 1 ≤ R.cells) (hn1 : n + 6 ≤ R.slots) (hp : ∀ q : Nat, σ.1 ≤ q → post (.inr i) (q, σ.2)) : ab_g p l e R s m args below meth c (ab_Q below args s R X post) X nL pc L [] σ k n :=
  fun H locs ls hr hz hl hk hn => by
    have hts := F.2.2.2.2.1
    obtain ⟨hKa, h1, h2, h3, h4, ⟨h6, h7⟩, -, h9⟩ := F.2.2.2.2.2
    obtain ⟨D0, D1, D2, D5⟩ := ab_thX_d i hi
    obtain ⟨S1, S2, S3, S4⟩ := ab_thX_s i hi
    obtain ⟨⟨C1, C2⟩, C3, C4⟩ := ab_thW_c i hi
    have hkp : ∀ a : Nat, a < X.2.2.2.2.2.size → ¬ X.1 ≤ a → H[a]? = X.2.2.2.2.2[a]? := fun a ha _ => hr.2.2 a (by omega)
    have hB : ∀ w ∈ Cond.castable (ab_thX i).1 (ab_thX i).1 :: ab_decl.map Cond.declares, w.before args s = true := fun w hw => by
      rcases List.mem_cons.mp hw with rfl | hw
      · exact va_Nw.use rfl (h3.1 _ S2)
      · obtain ⟨y, hy, rfl⟩ := List.mem_map.mp hw
        exact va_Nw.use rfl (h3.2 y hy)
    refine ab_make (own := RX9) (cls := (ab_thX i).1) (text := (ab_thr i).2.2.2.2) (sN := "java/lang/RuntimeException") (r := ["java/lang/Exception"]) (ik := (ab_thr i).1) (is := (ab_thr i).2.1) (ic := (ab_thr i).2.2.1) (sa := X.2.2.2.2.1 (ab_thr i).2.2.2.1) (ix := (ab_thX i).2.1) (rx := (ab_thX i).2.2) (A := fun q => X.1 ≤ q) (rest := []) F.1 F.2.1 hst D0 D1 D2 D5 F.2.2.2.1 S4 (by decide +kernel) (by decide +kernel) (hts _ (ab_mem C1 C2)) (hts _ (ab_mem C3 C4)) (h2 _ S1) (vx_hat (fun w hw => hts w (ab_mem (ab_thW_g i hi w hw) (List.mem_filter.mp hw).2)) (ab_thW_b i hi) hB) (ab_thW_o i hi) (h6.kept hkp) (h7.kept hkp) (hl.1.trans F.2.2.1.symm) d0 d3 d4 d7 (by show 1 + 4 < R.frames; omega) (by show 0 + (13 * (1 + 2) + 43) ≤ R.locals; omega) hk1 hn1 (fun q ce H1 e1 e2 e3 e4 e5 => ?_)
    have hr1 : ab_hr X (H1.size - X.1, σ.2) H1 := ⟨by have := hr.1; show H1.size = X.1 + (H1.size - X.1); omega, fun a c0 hc0 => (hr.2.1 a c0 hc0).kept (e5 _ (hr.2.1 a c0 hc0).lt), fun q hq => (e5 q (by have := hr.1; omega)).trans (hr.2.2 q hq)⟩
    exact vx_athrow F.1 F.2.1 d10 (vx_out (E := (ab_thX i).1) (ce := ce) (fun x hx => (hout x hx).elim) hlk e1 e2 e3 (fun t ht _ => ⟨i, (H1.size - X.1, σ.2), hi, S3.symm, hp _ (by have := hr.1; omega), by rw [ht]; exact hr1⟩) hz hk1 hn1)
end AbThrow
section AbSpec
variable {p : Program} {l : Launch} {e : Env} {R : Room} {s : State} {m : MethodId} {args : Array Value} {below : List Frame} {meth : Method} {c : Code} {Q : State → Prop} {X : ab_X} {nL : Nat} {cc : ByteArray} {own : String} {pc : Nat} {L : ab_L} {S : List ab_V} {σ : ab_H} {k n : Nat}
theorem ab_sum8 {S : List ab_V} (hS : S.length ≤ 8 ∧ S.all ab_n1 = true) : ((S.map (ab_v X)).map fun v => v.category).sum ≤ 8 := by
  have := ab_mr (X := X) (F1 := F0 (default : MethodId) 0 #[] []) rfl hS
  omega
theorem ab_max {idx : Nat} {x y : Int} (F : ab_fx p s m args c X nL cc own) (hd : decode cc pc = .ok (.invokestatic idx, 3)) (w1 : Cond.methodLink own idx Lib.Math.max.name ∈ ab_ws) (w2 : Cond.static Lib.Math.max.name ∈ ab_ws) (w3 : Cond.initialized "java/lang/Math" ∈ ab_ws) (w4 : Cond.code Lib.Math.max.name Lib.Math.max.code 2 (some .int) ∈ ab_ws) (hR : 1 ≤ R.frames ∧ 21 ≤ R.locals) (hS : S.length ≤ 8 ∧ S.all ab_n1 = true) (hx : ab_R x) (hy : ab_R y)
    (h : ab_g p l e R s m args below meth c Q X nL (pc + 3) L (.inl (max x y) :: S) σ k n) : ab_g p l e R s m args below meth c Q X nL pc L (.inl y :: .inl x :: S) σ k n :=
  fun H locs ls hr hz hl hk hn => va_mmax F.1 F.2.1 (F.2.2.1.trans hl.1.symm) F.2.2.2.1 (F.2.2.2.2.1 _ w1) (F.2.2.2.2.1 _ w2) (F.2.2.2.2.1 _ w3) (F.2.2.2.2.1 _ w4) hR.1 (by have := ab_sum8 (X := X) hS; omega) hk hn hd (by
    have e1 : (if Int32.ofInt x < Int32.ofInt y then Int32.ofInt y else Int32.ofInt x) = Int32.ofInt (max x y) := by
      by_cases q : x < y
      · rw [if_pos ((ab_lt hx hy).mpr q), show max x y = y by omega]
      · rw [if_neg (fun r => q ((ab_lt hx hy).mp r)), show max x y = x by omega]
    rw [e1]
    exact h H locs ls hr hz hl hk hn)
theorem ab_min {idx : Nat} {x y : Int} (F : ab_fx p s m args c X nL cc own) (hd : decode cc pc = .ok (.invokestatic idx, 3)) (w1 : Cond.methodLink own idx Lib.Math.min.name ∈ ab_ws) (w2 : Cond.static Lib.Math.min.name ∈ ab_ws) (w3 : Cond.initialized "java/lang/Math" ∈ ab_ws) (w4 : Cond.code Lib.Math.min.name Lib.Math.min.code 2 (some .int) ∈ ab_ws) (hR : 1 ≤ R.frames ∧ 21 ≤ R.locals) (hS : S.length ≤ 8 ∧ S.all ab_n1 = true) (hx : ab_R x) (hy : ab_R y)
    (h : ab_g p l e R s m args below meth c Q X nL (pc + 3) L (.inl (min x y) :: S) σ k n) : ab_g p l e R s m args below meth c Q X nL pc L (.inl y :: .inl x :: S) σ k n :=
  fun H locs ls hr hz hl hk hn => va_mmin F.1 F.2.1 (F.2.2.1.trans hl.1.symm) F.2.2.2.1 (F.2.2.2.2.1 _ w1) (F.2.2.2.2.1 _ w2) (F.2.2.2.2.1 _ w3) (F.2.2.2.2.1 _ w4) hR.1 (by have := ab_sum8 (X := X) hS; omega) hk hn hd (by
    have e1 : (if Int32.ofInt y < Int32.ofInt x then Int32.ofInt y else Int32.ofInt x) = Int32.ofInt (min x y) := by
      by_cases q : y < x
      · rw [if_pos ((ab_lt hy hx).mpr q), show min x y = y by omega]
      · rw [if_neg (fun r => q ((ab_lt hy hx).mp r)), show min x y = x by omega]
    rw [e1]
    exact h H locs ls hr hz hl hk hn)
/-- copied: n from place sp of f to place dp of g -/
def ab_cp (f g : Nat → Int) (sp dp n : Int) : Nat → Int := fun j => if dp.toNat ≤ j ∧ j < dp.toNat + n.toNat then f (sp.toNat + (j - dp.toNat)) else g j
theorem ab_copy {idx : Nat} {a0 a1 N M : Nat} {f g : Nat → Int} {sp dp z : Int} (F : ab_fx p s m args c X nL cc own) (hd : decode cc pc = .ok (.invokestatic idx, 3)) (w1 : Cond.methodLink own idx arraycopyName ∈ ab_ws) (w2 : Cond.native arraycopyName ∈ ab_ws) (w3 : Cond.static arraycopyName ∈ ab_ws) (w4 : Cond.initialized "java/lang/System" ∈ ab_ws) (hR : 1 ≤ R.frames ∧ 60 ≤ R.locals) (hS : S.length ≤ 8 ∧ S.all ab_n1 = true)
    (ha0 : σ.2 a0 = some (.inr (.inl (0, N, f)))) (ha1 : σ.2 a1 = some (.inr (.inl (0, M, g)))) (h1 : 0 ≤ sp) (h2 : 0 ≤ dp) (h3 : 0 ≤ z) (h4 : sp + z ≤ N) (h5 : dp + z ≤ M) (hN : (N : Int) < 2147483648) (hM : (M : Int) < 2147483648)
    (h : ab_g p l e R s m args below meth c Q X nL (pc + 3) L S (ab_st σ a1 (.inr (.inl (0, M, ab_cp f g sp dp z)))) k n) : ab_g p l e R s m args below meth c Q X nL pc L (.inl z :: .inl dp :: .inr (.inl (some a1)) :: .inl sp :: .inr (.inl (some a0)) :: S) σ k n := by
  intro H locs ls hr hz hl hk hn T hT Y
  have hspR : ab_R sp := by unfold ab_R; omega
  have hdpR : ab_R dp := by unfold ab_R; omega
  have hzR : ab_R z := by unfold ab_R; omega
  have hK := F.2.2.2.2.2.1
  have hts := F.2.2.2.2.1
  have hc0 : H[X.1 + a0]? = some (vp_cell (X.2.2.1 0) (N, .inl fun j => Int32.ofInt (f j))) := hr.2.1 a0 _ ha0
  have hc1 : H[X.1 + a1]? = some (vp_cell (X.2.2.1 0) (M, .inl fun j => Int32.ofInt (g j))) := hr.2.1 a1 _ ha1
  obtain ⟨-, k0, hk0, cm0, hkk0⟩ := (hK.2 0 _ rfl).1 N (fun j => .int (Int32.ofInt (f j)))
  obtain ⟨-, k1, hk1, cm1, hkk1⟩ := (hK.2 0 _ rfl).1 M (fun j => .int (Int32.ofInt (g j)))
  have neg : ∀ {x : Int}, 0 ≤ x → ab_R x → ¬ Int32.ofInt x < 0 := fun h0 hR q => by have := (ab_lt hR ab_R0).mp q; omega
  obtain ⟨vm', X', step⟩ := Y.arraycopy F.1 F.2.2.2.1 (hts _ w1) (hts _ w2) (hts _ w3) (hts _ w4) (src := X.1 + a0) (dst := X.1 + a1) (cs := vp_cell (X.2.2.1 0) (N, .inl fun j => Int32.ofInt (f j))) (cd := vp_cell (X.2.2.1 0) (M, .inl fun j => Int32.ofInt (g j))) (srcPos := Int32.ofInt sp) (destPos := Int32.ofInt dp) (n := Int32.ofInt z) (by rw [hT]; exact hc0) (by rw [hT]; exact hc1)
    (fun _ h => by cases h) (fun _ h => by cases h) (fun h => by cases h) (fun h => by cases h) hk0 hk1 hkk0 hkk1 (by simp [refKind]) (neg h1 hspR) (neg h2 hdpR) (neg h3 hzR)
    (by rw [ab_i32 _ hspR, ab_i32 _ hzR]; show ¬ _ > ((arrV _ N (fun j => .int (Int32.ofInt (f j)))).slots.size : Int); rw [arrV_size]; omega)
    (by rw [ab_i32 _ hdpR, ab_i32 _ hzR]; show ¬ _ > ((arrV _ M (fun j => .int (Int32.ofInt (g j)))).slots.size : Int); rw [arrV_size]; omega)
    (fun vm₁ _ i hi => by
      rw [ab_clamp h3 hzR] at hi
      rw [ab_clamp h1 hspR]
      have e : (vp_cell (X.2.2.1 0) (N, .inl fun j => Int32.ofInt (f j))).slots.getD (sp.toNat + i) .null = .int (Int32.ofInt (f (sp.toNat + i))) := by
        show (arrV _ N (fun j => .int (Int32.ofInt (f j)))).slots.getD _ _ = _
        rw [Array.getD_eq_getD_getElem?, arrV_read _ _ (by omega)]
        rfl
      refine ⟨?_, ?_⟩
      · rw [e]; rfl
      · rw [e]; exact trivial)
    (g := F0 m pc ls (.int (Int32.ofInt z) :: .int (Int32.ofInt dp) :: .ref (X.1 + a1) :: .int (Int32.ofInt sp) :: .ref (X.1 + a0) :: S.map (ab_v X))) rfl (hl.1.trans F.2.2.1.symm) (rest := S.map (ab_v X)) rfl (by rw [F.2.1]; exact hd) hR.1 (by
      have := ab_sum8 (X := X) hS
      show 2 * 0 + _ + (nativeFrameWords "java/lang/System" "arraycopy" 5 + 11) ≤ _
      have e9 : nativeFrameWords "java/lang/System" "arraycopy" 5 ≤ 40 := by decide +kernel
      omega)
  have e1 : copied (vp_cell (X.2.2.1 0) (N, .inl fun j => Int32.ofInt (f j))) (vp_cell (X.2.2.1 0) (M, .inl fun j => Int32.ofInt (g j))) (Int32.ofInt sp) (Int32.ofInt dp) (Int32.ofInt z) = vp_cell (X.2.2.1 0) (M, .inl fun j => Int32.ofInt (ab_cp f g sp dp z j)) := by
    refine (va_copied (fun z => Value.int z) (X.2.2.1 0) (X.2.2.1 0) (fun j => Int32.ofInt (f j)) (fun j => Int32.ofInt (g j)) (n0 := N) (n1 := M) (sp := (Int32.ofInt sp).toNatClampNeg) (dp := (Int32.ofInt dp).toNatClampNeg) (n := (Int32.ofInt z).toNatClampNeg) (by rw [ab_clamp h1 hspR, ab_clamp h3 hzR]; omega)).trans ?_
    rw [ab_clamp h1 hspR, ab_clamp h2 hdpR, ab_clamp h3 hzR, vp_cell_i]
    congr 1
    funext j
    unfold va_cpy ab_cp
    split <;> rfl
  rw [e1] at X' step
  have hlt : X.1 + a1 < H.size := (Array.getElem?_eq_some_iff.mp hc1).1
  have oq : ∀ q : Nat, q ≠ X.1 + a1 → (H.setIfInBounds (X.1 + a1) (vp_cell (X.2.2.1 0) (M, .inl fun j => Int32.ofInt (ab_cp f g sp dp z j))))[q]? = H[q]? := fun q hq => by simp [Array.getElem?_setIfInBounds, Ne.symm hq]
  obtain ⟨t, a1', b1⟩ := h (H.setIfInBounds (X.1 + a1) (vp_cell (X.2.2.1 0) (M, .inl fun j => Int32.ofInt (ab_cp f g sp dp z j)))) _ ls (ab_hr_set hr (show (H.setIfInBounds (X.1 + a1) _)[X.1 + a1]? = some _ by simp [Array.getElem?_setIfInBounds, hlt]; rfl) (by simp) oq) (fun q hq => by
      rcases List.mem_append.mp hq with h | h
      · exact hz q h
      · obtain ⟨z, -, hz⟩ := List.mem_map.mp h
        rw [← hz]
        exact Nat.le_add_right _ _) hl hk hn _ (by rw [← hT]; rfl) X'
  exact ⟨t, step t a1', b1⟩
theorem ab_ldcw {idx : Nat} {v : Int32} {z : Int} (F : ab_fx p s m args c X nL cc own) (hd : decode cc pc = .ok (.ldc_w idx, 3)) (hw : Cond.constant own idx v ∈ ab_ws) (hv : v = Int32.ofInt z) (h : ab_g p l e R s m args below meth c Q X nL (pc + 3) L (.inl z :: S) σ k n) : ab_g p l e R s m args below meth c Q X nL pc L S σ k n :=
  fun H locs ls hr hz hl hk hn => lv_ldcw F.1 F.2.1 F.2.2.2.1 (F.2.2.2.2.1 _ hw) hd (by rw [hv]; exact h H locs ls hr hz hl hk hn)
theorem ab_lkT {x dflt : Int} {ps : Array (Int × Int)} {len : Nat} {pcs : Nat → Nat} (F : ab_fx p s m args c X nL cc own) (hd : decode cc pc = .ok (.lookupswitch dflt ps, len)) (hx : ab_R x) (hs : (ps.toList.zip (ps.toList.drop 1)).all (fun (a, next) => a.1 < next.1) = true) {ts : List Nat} {d : Nat} (hts : ts.length = ps.toList.length) (ht : ∀ j q, ps.toList[j]? = some q → (pc : Int) + q.2 = ((pcs (ts.getD j 0) : Nat) : Int)) (hdf : (pc : Int) + dflt = ((pcs d : Nat) : Int))
    (h : ab_lk (fun b => ab_g p l e R s m args below meth c Q X nL (pcs b) L S σ k n) x ps.toList ts d) : ab_g p l e R s m args below meth c Q X nL pc L (.inl x :: S) σ k n := by
  intro H locs ls hr hz hl hk hn
  have key : ∀ (pl : List (Int × Int)) (ts' : List Nat), ts'.length = pl.length → (∀ j q, pl[j]? = some q → (pc : Int) + q.2 = ((pcs (ts'.getD j 0) : Nat) : Int)) → ab_lk (fun b => ab_g p l e R s m args below meth c Q X nL (pcs b) L S σ k n) x pl ts' d → ∃ tgt : Nat, (pc : Int) + Op.lookupswitch.offset pl dflt x = (tgt : Int) ∧ ab_g p l e R s m args below meth c Q X nL tgt L S σ k n := by
    intro pl
    induction pl with
    | nil =>
      intro ts' h1 h2 h3
      cases ts' with
      | nil => exact ⟨pcs d, hdf, h3⟩
      | cons _ _ => simp at h1
    | cons q pl ih =>
      intro ts' h1 h2 h3
      cases ts' with
      | nil => simp at h1
      | cons t ts' =>
        obtain ⟨q1, q2⟩ := q
        obtain ⟨h4, h5⟩ := h3
        by_cases e : x = q1
        · refine ⟨pcs t, ?_, h4 e⟩
          have := h2 0 _ rfl
          simp [Op.lookupswitch.offset, e]
          simpa using this
        · obtain ⟨tgt, e1, e2⟩ := ih ts' (by simpa using h1) (fun j q hj => by have := h2 (j + 1) q (by simpa using hj); simpa using this) (h5 e)
          refine ⟨tgt, ?_, e2⟩
          have e' : ¬ q1 = x := fun r => e r.symm
          simp [Op.lookupswitch.offset, e, e'] at e1 ⊢
          exact e1
  obtain ⟨tgt, e1, e2⟩ := key ps.toList ts hts ht h
  exact lv_lookup F.1 F.2.1 hd hs rfl (by rw [ab_i32 x hx]; exact e1) (e2 H locs ls hr hz hl hk hn)
/-- the element class of a reference array -/
def ab_qn : Nat → String
  | 0 => RX2
  | _ => RX3
theorem ab_anew {idx q : Nat} {z : Int} (F : ab_fx p s m args c X nL cc own) (hd : decode cc pc = .ok (.anewarray idx, 3)) (hq : q < 2) (hw : Cond.classLink own idx (ab_qn q) ∈ ab_ws) (h0 : 0 ≤ z) (hz1 : z < 10000) (hk1 : k + 1 ≤ R.cells) (hn1 : n + z.toNat ≤ R.slots) (h : ab_g p l e R s m args below meth c Q X nL (pc + 3) L (.inr (.inl (some σ.1)) :: S) (ab_nw σ (.inr (.inr (q, z.toNat, fun _ => none)))) (k + 1) (n + z.toNat)) : ab_g p l e R s m args below meth c Q X nL pc L (.inl z :: S) σ k n := by
  intro H locs ls hr hz hl hk hn
  have hzR : ab_R z := by unfold ab_R; omega
  have hneg : ¬ Int32.ofInt z < 0 := fun q => by have := (ab_lt hzR ab_R0).mp q; omega
  have hcl : (Int32.ofInt z).toNatClampNeg = z.toNat := ab_clamp h0 hzR
  have hK := F.2.2.2.2.2.1
  have hover : va_AO (ab_qn q) s := by
    rcases (show q = 0 ∨ q = 1 by omega) with rfl | rfl
    · exact F.2.2.2.2.2.2.2.2.2.1.1
    · exact F.2.2.2.2.2.2.2.2.2.1.2
  have huniq : ∀ cA : ClassId, s.vm.findClass ("[" ++ (FieldType.object (ab_qn q)).toString) = some cA → cA = X.2.2.2.1 q := fun cA hA => by
    rcases (show q = 0 ∨ q = 1 by omega) with rfl | rfl
    · obtain ⟨kA, comp, k1, k2, k3, k4⟩ := (hK.2 3 _ rfl).2
      exact Option.some.inj (hA.symm.trans k4)
    · obtain ⟨kA, comp, k1, k2, k3, k4⟩ := (hK.2 4 _ rfl).2
      exact Option.some.inj (hA.symm.trans k4)
  refine W.anew F.1 F.2.1 F.2.2.2.1 (F.2.2.2.2.1 _ hw) (va_AO.use hover) rfl hd rfl hneg (by rw [hcl]; omega) hk1 (by rw [hcl]; exact hn1) fun cA kA comp f1 f2 f3 f4 => ?_
  cases huniq cA f1
  rw [hcl]
  have e1 : (H.push ({ cls := X.2.2.2.1 q, slots := Array.replicate z.toNat .null, vm := .none } : Cell))[H.size]? = some (arrV (X.2.2.2.1 q) z.toNat (fun _ => .null)) := by rw [Array.getElem?_push_size, ← arrV_new]
  have h2 := h (H.push ({ cls := X.2.2.2.1 q, slots := Array.replicate z.toNat .null, vm := .none } : Cell)) locs ls (ab_hr_push hr (by show _ = some (vp_cell _ _); rw [e1]; rfl) (by rw [Array.size_push]) (fun q hq => by rw [Array.getElem?_push, if_neg (Nat.ne_of_lt hq)])) hz hl hk1 hn1
  rw [show (Value.ref H.size) = ab_v X (.inr (.inl (some σ.1))) from by show _ = Value.ref _; rw [hr.1]]
  exact h2
/-- rows of an array of arrays of ints, made at once -/
def ab_mn (σ : ab_H) (N M : Nat) : ab_H := (σ.1 + 1 + N, fun a => if a = σ.1 then some (.inr (.inr (2, N, fun i => some (σ.1 + 1 + i)))) else if σ.1 < a ∧ a < σ.1 + 1 + N then some (.inr (.inl (0, M, fun _ => 0))) else σ.2 a)
theorem ab_mn_s {σ : ab_H} {N M : Nat} : (ab_mn σ N M).2 σ.1 = some (.inr (.inr (2, N, fun i => some (σ.1 + 1 + i)))) := if_pos rfl
theorem ab_mn_r {σ : ab_H} {N M i : Nat} (hi : i < N) : (ab_mn σ N M).2 (σ.1 + 1 + i) = some (.inr (.inl (0, M, fun _ => 0))) := (if_neg (by omega)).trans (if_pos ⟨by omega, by omega⟩)
theorem ab_mn_n {σ : ab_H} {N M a : Nat} (h : a < σ.1 ∨ σ.1 + N < a) : (ab_mn σ N M).2 a = σ.2 a := (if_neg (by omega)).trans (if_neg (by omega))
theorem ab_mna {idx : Nat} {z w : Int} (F : ab_fx p s m args c X nL cc own) (hd : decode cc pc = .ok (.multianewarray idx 2, 4)) (hw : Cond.classLink own idx "[[I" ∈ ab_ws) (h0 : 0 ≤ z) (hz1 : z < 10000) (h1 : 0 ≤ w) (hw1 : w < 10000) (hk1 : k + 1 + z.toNat ≤ R.cells) (hn1 : n + z.toNat + z.toNat * w.toNat ≤ R.slots) (h : ab_g p l e R s m args below meth c Q X nL (pc + 4) L (.inr (.inl (some σ.1)) :: S) (ab_mn σ z.toNat w.toNat) (k + 1 + z.toNat) (n + z.toNat + z.toNat * w.toNat)) : ab_g p l e R s m args below meth c Q X nL pc L (.inl w :: .inl z :: S) σ k n := by
  intro H locs ls hr hz hl hk hn
  have hK := F.2.2.2.2.2.1
  have hzR : ab_R z := by unfold ab_R; omega
  have hwR : ab_R w := by unfold ab_R; omega
  have hn0 : ¬ Int32.ofInt z < 0 := fun q => by have := (ab_lt hzR ab_R0).mp q; omega
  have hk0 : ¬ Int32.ofInt w < 0 := fun q => by have := (ab_lt hwR ab_R0).mp q; omega
  have cz : (Int32.ofInt z).toNatClampNeg = z.toNat := ab_clamp h0 hzR
  have cw : (Int32.ofInt w).toNatClampNeg = w.toNat := ab_clamp h1 hwR
  obtain ⟨-, -, -, -, -, -, ⟨-, -, -, kA, a1, a2⟩, -⟩ := F.2.2.2.2.2
  obtain ⟨-, kB, b1, c9, b2⟩ := (hK.2 0 _ rfl).1 0 (fun _ => .null)
  have fA : s.vm.findClass "[[I" = some (X.2.2.2.1 2) := (hK.2 5 _ rfl).2
  refine ab_multi F.1 F.2.1 F.2.2.2.1 (F.2.2.2.2.1 _ hw) fA a1 a2 b1 b2 hd hn0 hk0 (by rw [cz]; omega) (by rw [cw]; omega) (by rw [cz]; omega) (by rw [cz, cw]; omega) (fun H1 z1 o1 o2 o3 => ?_)
  rw [cz] at z1 o1 o3
  rw [cw] at o3
  rw [cz, cw]
  have e0 := hr.1
  have hr1 : ab_hr X (ab_mn σ z.toNat w.toNat) H1 := by
    refine ⟨by rw [z1, e0]; show _ = X.1 + (σ.1 + 1 + z.toNat); omega, fun a c2 h2 => ?_, fun q hq => (o2 q (by omega)).trans (hr.2.2 q hq)⟩
    by_cases q1 : a = σ.1
    · subst q1
      rw [ab_mn_s] at h2
      cases h2
      show H1[X.1 + σ.1]? = some (vp_cell (X.2.2.2.1 2) _)
      rw [← e0, o1]
      unfold ab_oc
      show _ = some (arrV (X.2.2.2.1 2) z.toNat (fun j => va_rf ((some (σ.1 + 1 + j)).map (X.1 + ·))))
      congr 1
      unfold arrV
      congr 1
      apply Array.ext
      · simp
      · intro j j1 j2
        have j3 : j < z.toNat := by simpa using j1
        simp only [Array.getElem_ofFn]
        rw [if_pos j3]
        show Value.ref (H.size + 1 + j) = Value.ref (X.1 + (σ.1 + 1 + j))
        rw [show H.size + 1 + j = X.1 + (σ.1 + 1 + j) by omega]
    · by_cases q2 : σ.1 < a ∧ a < σ.1 + 1 + z.toNat
      · obtain ⟨j, rfl⟩ : ∃ j, a = σ.1 + 1 + j := ⟨a - (σ.1 + 1), by omega⟩
        rw [ab_mn_r (by omega)] at h2
        cases h2
        show H1[X.1 + (σ.1 + 1 + j)]? = some (arrV (X.2.2.1 0) w.toNat (fun _ => .int 0))
        rw [show X.1 + (σ.1 + 1 + j) = H.size + 1 + j by omega]
        exact o3 j (by omega)
      · rw [ab_mn_n (by omega)] at h2
        have h3 := hr.2.1 a c2 h2
        exact h3.kept (o2 _ h3.lt)
  have h2 := h H1 locs ls hr1 hz hl hk1 hn1
  rw [show (Value.ref H.size) = ab_v X (.inr (.inl (some σ.1))) from by show _ = Value.ref _; rw [hr.1]]
  exact h2
theorem ab_slen {idx q : Nat} (hst : l.stackTraces = false) (F : ab_fx p s m args c X nL cc own) (hd : decode cc pc = .ok (.invokevirtual idx, 3)) (hw : Cond.methodLink own idx yJ0_length_8abf5 ∈ ab_ws) (hq : q < 3) (hR : 6 ≤ R.frames ∧ 600 ≤ R.locals) (hS : S.length ≤ 8 ∧ S.all ab_n1 = true) (h : ab_g p l e R s m args below meth c Q X nL (pc + 3) L (.inl (ab_sl.getD q 0 : Nat) :: S) σ k n) : ab_g p l e R s m args below meth c Q X nL pc L (.inr (.inr (.inr q)) :: S) σ k n :=
  fun H locs ls hr hz hl hk hn => by
    obtain ⟨-, -, -, -, -, -, ⟨⟨h8, -⟩, -⟩, -⟩ := F.2.2.2.2.2
    refine ab_callK (idx := idx) (av := []) (S := S) hst F hd (j_length hq) hw (ab_jw (by decide +kernel)) (ab_jw (by decide +kernel)) (ab_jw (by decide +kernel)) (h8.1 q hq).1 ⟨by decide +kernel, by decide +kernel, (by decide +kernel : (parseMethodDescriptor yJ0_length_8abf5.desc).map (fun d => d.parameters.length) = some 0)⟩ ⟨by omega, by omega⟩ hk hn hS (fun r σ' hp => ?_) (fun i σ' _ hp => nomatch hp.1) H locs ls hr hz hl hk hn
    obtain ⟨hr9, rfl⟩ := hp
    cases hr9
    exact h
theorem ab_schr {idx q : Nat} {i : Int} (hst : l.stackTraces = false) (F : ab_fx p s m args c X nL cc own) (hd : decode cc pc = .ok (.invokevirtual idx, 3)) (hw : Cond.methodLink own idx yJ0_charAt_5068e ∈ ab_ws) (hq : q < 3) (h0 : 0 ≤ i) (h1 : i < (ab_sl.getD q 0 : Nat)) (hR : 6 ≤ R.frames ∧ 600 ≤ R.locals) (hS : S.length ≤ 8 ∧ S.all ab_n1 = true) (h : ab_g p l e R s m args below meth c Q X nL (pc + 3) L (.inl (ab_chr q i.toNat) :: S) σ k n) : ab_g p l e R s m args below meth c Q X nL pc L (.inl i :: .inr (.inr (.inr q)) :: S) σ k n :=
  fun H locs ls hr hz hl hk hn => by
    obtain ⟨-, -, -, -, -, -, ⟨⟨h8, -⟩, -⟩, -⟩ := F.2.2.2.2.2
    refine ab_callK (idx := idx) (av := [.inl i]) (S := S) hst F hd (j_charAt hq h0 h1) hw (ab_jw (by decide +kernel)) (ab_jw (by decide +kernel)) (ab_jw (by decide +kernel)) (h8.1 q hq).1 ⟨by decide +kernel, by decide +kernel, (by decide +kernel : (parseMethodDescriptor yJ0_charAt_5068e.desc).map (fun d => d.parameters.length) = some 1)⟩ ⟨by omega, by omega⟩ hk hn hS (fun r σ' hp => ?_) (fun i σ' _ hp => nomatch hp.1) H locs ls hr hz hl hk hn
    obtain ⟨hr9, rfl⟩ := hp
    cases hr9
    exact h
end AbSpec
