theorem ab_oiw : Cond.instanceMethod Lib.objectInit ∈ ab_ws ∧ Cond.code Lib.objectInit ⟨#[0xb1]⟩ 1 none ∈ ab_ws := ⟨ab_w_in (i := 158) (by decide +kernel), ab_w_in (i := 159) (by decide +kernel)⟩
theorem ab_dvv (X : ab_X) (ty : Nat → FieldType) (N : Nat) (h : (List.range N).all (fun j => match ty j with
      | .int => true
      | .boolean => true
      | .object _ => true
      | .array _ => true
      | _ => false) = true) : ∀ j, j < N → defaultValue (ty j) = vp_V ((ab_dv ((List.range N).map (fun j => match ty j with
      | .int => 0
      | .boolean => 0
      | _ => 1))).map (ab_v X)) j := by
  intro j hj
  have key : ∀ l : List Nat, (ab_dv l).map (ab_v X) = l.map (fun q => if q = 0 then Value.int 0 else Value.null) := by
    intro l
    induction l with
    | nil => rfl
    | cons q l ih =>
      cases q with
      | zero => show _ :: _ = _ :: _; rw [ih]; rfl
      | succ q => show _ :: _ = _ :: _; rw [ih]; rfl
  rw [key]
  have h2 := List.all_eq_true.mp h j (List.mem_range.mpr hj)
  show _ = (List.map _ _).getD j Value.null
  rw [List.getD_eq_getElem?_getD, List.map_map, List.getElem?_map, List.getElem?_range hj]
  show defaultValue (ty j) = (if (match ty j with
      | .int => 0
      | .boolean => 0
      | _ => 1) = 0 then Value.int 0 else Value.null)
  generalize ty j = t at h2 ⊢
  cases t <;> first | rfl | cases h2
section AbSound
variable {p : Program} {l : Launch} {e : Env} {s : State} {m : MethodId} {args : Array Value} {below : List Frame} {meth : Method} {c : Code} {X : ab_X} {nL : Nat} {cc : ByteArray} {post : ab_O → ab_H → Prop} {d mc ms : Nat} {Xc : Nat → ab_L → ab_H → Nat → Nat → Prop}
theorem ab_objinit {Q : State → Prop} {R : Room} {own : String} {pc idx a : Nat} {L : ab_L} {S : List ab_V} {σ : ab_H} {k n : Nat} (F : ab_fx p s m args c X nL cc own) (hd : decode cc pc = .ok (.invokespecial idx, 3)) (hlink : Cond.methodLink own idx Lib.objectInit ∈ ab_ws) (hR : 1 ≤ R.frames ∧ 20 ≤ R.locals) (hS : S.length ≤ 8 ∧ S.all ab_n1 = true) (h : ab_g p l e R s m args below meth c Q X nL (pc + 3) L S σ k n) : ab_g p l e R s m args below meth c Q X nL pc L (.inr (.inl (some a)) :: S) σ k n :=
  fun H locs ls hr hz hl hk hn => W.objInit F.1 F.2.1 F.2.2.2.1 (F.2.2.2.2.1 _ hlink) (F.2.2.2.2.1 _ ab_oiw.1) (F.2.2.2.2.1 _ ab_oiw.2) rfl (hl.1.trans F.2.2.1.symm) rfl hd hR.1 (by
    have := ab_mr (X := X) (F1 := F0 m pc ls ((Sum.inr (Sum.inl (some a)) :: S : List ab_V).map (ab_v X))) rfl hS
    omega) (h H locs ls hr hz hl hk hn)
theorem ab_ldcS {Q : State → Prop} {R : Room} {own : String} {pc idx q : Nat} {tx : String} {L : ab_L} {S : List ab_V} {σ : ab_H} {k n : Nat} (F : ab_fx p s m args c X nL cc own) (hd : decode cc pc = .ok (.ldc idx, 2)) (hw : (own, idx, tx, q) ∈ ab_strs) (h : ab_g p l e R s m args below meth c Q X nL (pc + 2) L (.inr (.inr (.inr q)) :: S) σ k n) : ab_g p l e R s m args below meth c Q X nL pc L S σ k n :=
  fun H locs ls hr hz hl hk hn T hT Y => by
    have hZ := F.2.2.2.2.2.2.2.1 _ hw
    obtain ⟨t, a1, b1⟩ := h H locs ls hr hz hl hk hn T hT Y
    exact ⟨t, Y.ldcString F.1 F.2.2.2.1 (text := tx) (a := X.2.2.2.2.1 q) hZ.1 hZ.2 (g := F0 m pc ls (S.map (ab_v X))) rfl (by rw [F.2.1]; exact hd) t a1, b1⟩
theorem ab_g_wr {Q : State → Prop} {R : Room} {pc : Nat} {z : Int} {L : ab_L} {S : List ab_V} {σ : ab_H} {k n : Nat} (h : ab_g p l e R s m args below meth c Q X nL pc L (.inl (ab_wr z) :: S) σ k n) : ab_g p l e R s m args below meth c Q X nL pc L (.inl z :: S) σ k n :=
  fun H locs ls hr hz hl hk hn => by
    have h1 := h H locs ls hr hz hl hk hn
    have e : (Sum.inl (ab_wr z) :: S : List ab_V).map (ab_v X) = (Sum.inl z :: S : List ab_V).map (ab_v X) := congrArg (fun v => v :: S.map (ab_v X)) (congrArg Value.int (ab_of (Int32.ofInt z)))
    rw [e] at h1
    exact h1
theorem ab_g_wr2 {Q : State → Prop} {R : Room} {pc : Nat} {x y : Int} {L : ab_L} {S : List ab_V} {σ : ab_H} {k n : Nat} (h : ab_g p l e R s m args below meth c Q X nL pc L (.inl (ab_wr y) :: .inl (ab_wr x) :: S) σ k n) : ab_g p l e R s m args below meth c Q X nL pc L (.inl y :: .inl x :: S) σ k n :=
  fun H locs ls hr hz hl hk hn => by
    have h1 := h H locs ls hr hz hl hk hn
    have e : (Sum.inl (ab_wr y) :: Sum.inl (ab_wr x) :: S : List ab_V).map (ab_v X) = (Sum.inl y :: Sum.inl x :: S : List ab_V).map (ab_v X) := by
      show Value.int (Int32.ofInt (ab_wr y)) :: Value.int (Int32.ofInt (ab_wr x)) :: _ = Value.int (Int32.ofInt y) :: Value.int (Int32.ofInt x) :: _
      unfold ab_wr
      rw [ab_of, ab_of]
    rw [e] at h1
    exact h1
set_option maxHeartbeats 4000000 in
theorem ab_sound {o : Nat} {ret : Option FieldType} {ini : Bool} {pcs : List Nat} {cov : Nat → Bool} (hst : l.stackTraces = false) (F : ab_fx p s m args c X nL cc (ab_cn o)) (hlk : meth.locks = false) (hret : meth.sig.returnType = ret) (hini : ini = true → meth.name = "<init>") (hsc : o = 11 ∧ ret = some .boolean → ∃ (N0 : Nat) (f0 : Nat → Int), va_T .int (X.2.2.2.2.1 21) N0 (fun j => .int (Int32.ofInt (f0 j))) (fun q => X.1 ≤ q) s X.2.2.2.2.2 ∧ N0 < 100000 ∧ (∀ j, ab_R (f0 j)) ∧ ∀ σ k n, Xc 1000 [some (.inl N0)] σ k n ∧ ∀ i : Int, Xc 1001 [some (.inl i), some (.inl (f0 i.toNat))] σ k n) (hout : o = 9 → ∀ x ∈ c.exceptionTable.toList, False)
    (hX : ∀ pc i L σ k n, cov pc = true → i < 3 → Xc i L σ k n → ab_gx p l e (ab_rm d mc ms) s m args below meth c (ab_Q below args s (ab_rm d mc ms) X post) X nL pc i L σ k n) :
    ∀ (is : List ab_I) (b pc : Nat) (L : ab_L) (S : List ab_V) (σ : ab_H) (k n : Nat), ab_ck cc o ret ini nL pcs cov b pc is = true →
      ab_ex (fun b L S σ k n => ab_g p l e (ab_rm d mc ms) s m args below meth c (ab_Q below args s (ab_rm d mc ms) X post) X nL (pcs.getD b 0) L S σ k n) Xc post d mc ms is b L S σ k n →
      ab_g p l e (ab_rm d mc ms) s m args below meth c (ab_Q below args s (ab_rm d mc ms) X post) X nL pc L S σ k n := by
  intro is
  induction is with
  | nil =>
    intro b pc L S σ k n hck h
    have h1 : pcs[b + 1]? = some pc := of_decide_eq_true hck
    have h2 : pcs.getD (b + 1) 0 = pc := by rw [List.getD_eq_getElem?_getD, h1]; rfl
    rw [← h2]
    exact h
  | cons x is ih =>
    intro b pc L S σ k n hck h
    have hbk : ∀ (S' : List ab_V) (k n : Nat) (pc1 : Nat), (∀ S σ k n, ab_ex (fun b L S σ k n => ab_g p l e (ab_rm d mc ms) s m args below meth c (ab_Q below args s (ab_rm d mc ms) X post) X nL (pcs.getD b 0) L S σ k n) Xc post d mc ms is b L S σ k n → ab_g p l e (ab_rm d mc ms) s m args below meth c (ab_Q below args s (ab_rm d mc ms) X post) X nL pc1 L S σ k n) → ∀ r σ', ab_bk (ab_ex (fun b L S σ k n => ab_g p l e (ab_rm d mc ms) s m args below meth c (ab_Q below args s (ab_rm d mc ms) X post) X nL (pcs.getD b 0) L S σ k n) Xc post d mc ms is b L) (fun i => Xc i L) S' k n (.inl r) σ' → ab_g p l e (ab_rm d mc ms) s m args below meth c (ab_Q below args s (ab_rm d mc ms) X post) X nL pc1 L (r.toList ++ S') σ' k n := fun S' k n pc1 hi r σ' hb => by
      cases r with
      | none => exact hi _ _ _ _ hb
      | some v => exact hi _ _ _ _ hb
    obtain ⟨i, y, xs⟩ := x
    by_cases hthr : i = .athrow
    · subst hthr
      obtain ⟨t, rfl, h⟩ := ab_x1_of h
      unfold ab_ck ab_c1 at hck
      rw [if_pos rfl] at hck
      dsimp only at hck h
      split at hck
      · next pc' hpc =>
        split at hpc
        · next hc =>
          obtain ⟨h3, rfl, d0, d3, d4, d7, d10⟩ := hc
          match S, h with
          | [], h => exact ab_throw h3 hst F hlk (hout rfl) d0 d3 d4 d7 d10 ⟨h.1.1, by show 100 ≤ 100 * d; have := h.1.1; omega⟩ h.1.2.1 h.1.2.2 h.2
        · cases hpc
      · cases hck
    · unfold ab_ck at hck
      split at hck
      · next pc' hpc =>
        obtain ⟨len, hd, hlen, hc2, rfl⟩ := ab_c1_of hthr hpc
        dsimp only at hd hlen
        have ihh : ∀ L S σ k n, _ → _ := fun L S σ k n => ih b (pc + len) L S σ k n hck
        have hle : ab_ln i ≠ 0 → len = ab_ln i := fun q => hlen.resolve_right q
        cases i <;> first | exact False.elim h | skip
        case iconst z =>
          cases hle (Nat.succ_ne_zero _)
          exact ab_iconst F hd (ihh _ _ _ _ _ h)
        case bipush z =>
          cases hle (Nat.succ_ne_zero _)
          exact ab_bipush F hd (of_decide_eq_true hc2) (ihh _ _ _ _ _ h)
        case sipush z =>
          cases hle (Nat.succ_ne_zero _)
          exact ab_sipush F hd (of_decide_eq_true hc2) (ihh _ _ _ _ _ h)
        case aconst_null =>
          cases hle (Nat.succ_ne_zero _)
          exact ab_null F hd (ihh _ _ _ _ _ h)
        case iload j =>
          cases hle (Nat.succ_ne_zero _)
          obtain ⟨z, hz, h⟩ := ab_ldI_of h
          exact ab_iload F hd hz (ihh _ _ _ _ _ h)
        case iload_n j =>
          cases hle (Nat.succ_ne_zero _)
          obtain ⟨z, hz, h⟩ := ab_ldI_of h
          exact ab_iload_n F hd hz (ihh _ _ _ _ _ h)
        case aload j =>
          cases hle (Nat.succ_ne_zero _)
          dsimp only [ab_ex] at h
          obtain ⟨v, hz, hv, h⟩ := ab_ldR_of h
          exact ab_aload F hd hv hz (ihh _ _ _ _ _ h)
        case aload_n j =>
          cases hle (Nat.succ_ne_zero _)
          dsimp only [ab_ex] at h
          obtain ⟨v, hz, hv, h⟩ := ab_ldR_of h
          exact ab_aload_n F hd hv hz (ihh _ _ _ _ _ h)
        case istore j =>
          cases hle (Nat.succ_ne_zero _)
          obtain ⟨z, S, rfl, h⟩ := ab_pI_of h
          exact ab_istore F hd (of_decide_eq_true hc2) (ihh _ _ _ _ _ h)
        case istore_n j =>
          cases hle (Nat.succ_ne_zero _)
          obtain ⟨z, S, rfl, h⟩ := ab_pI_of h
          exact ab_istore_n F hd (of_decide_eq_true hc2) (ihh _ _ _ _ _ h)
        case astore j =>
          cases hle (Nat.succ_ne_zero _)
          dsimp only [ab_ex] at h
          obtain ⟨v, S, rfl, hv, h⟩ := ab_pQ_of h
          exact ab_astore F hd hv (of_decide_eq_true hc2) (ihh _ _ _ _ _ h)
        case astore_n j =>
          cases hle (Nat.succ_ne_zero _)
          dsimp only [ab_ex] at h
          obtain ⟨v, S, rfl, hv, h⟩ := ab_pQ_of h
          exact ab_astore_n F hd hv (of_decide_eq_true hc2) (ihh _ _ _ _ _ h)
        case iinc j z =>
          cases hle (Nat.succ_ne_zero _)
          obtain ⟨w, hz, h⟩ := ab_ldI_of h
          exact ab_iinc F hd hz (ihh _ _ _ _ _ h)
        case iadd =>
          cases hle (Nat.succ_ne_zero _)
          obtain ⟨y, S, rfl, h⟩ := ab_pI_of h
          obtain ⟨x, S, rfl, h⟩ := ab_pI_of h
          exact ab_iadd F hd (ihh _ _ _ _ _ h)
        case isub =>
          cases hle (Nat.succ_ne_zero _)
          obtain ⟨y, S, rfl, h⟩ := ab_pI_of h
          obtain ⟨x, S, rfl, h⟩ := ab_pI_of h
          exact ab_isub F hd (ihh _ _ _ _ _ h)
        case imul =>
          cases hle (Nat.succ_ne_zero _)
          obtain ⟨y, S, rfl, h⟩ := ab_pI_of h
          obtain ⟨x, S, rfl, h⟩ := ab_pI_of h
          exact ab_imul F hd (ihh _ _ _ _ _ h)
        case iand =>
          cases hle (Nat.succ_ne_zero _)
          obtain ⟨y, S, rfl, h⟩ := ab_pI_of h
          obtain ⟨x, S, rfl, h⟩ := ab_pI_of h
          exact ab_iand F hd (ihh _ _ _ _ _ h)
        case ior =>
          cases hle (Nat.succ_ne_zero _)
          obtain ⟨y, S, rfl, h⟩ := ab_pI_of h
          obtain ⟨x, S, rfl, h⟩ := ab_pI_of h
          exact ab_ior F hd (ihh _ _ _ _ _ h)
        case ixor =>
          cases hle (Nat.succ_ne_zero _)
          obtain ⟨y, S, rfl, h⟩ := ab_pI_of h
          obtain ⟨x, S, rfl, h⟩ := ab_pI_of h
          exact ab_ixor F hd (ihh _ _ _ _ _ h)
        case ishl =>
          cases hle (Nat.succ_ne_zero _)
          obtain ⟨y, S, rfl, h⟩ := ab_pI_of h
          obtain ⟨x, S, rfl, h⟩ := ab_pI_of h
          exact ab_ishl F hd (ihh _ _ _ _ _ h)
        case ishr =>
          cases hle (Nat.succ_ne_zero _)
          obtain ⟨y, S, rfl, h⟩ := ab_pI_of h
          obtain ⟨x, S, rfl, h⟩ := ab_pI_of h
          exact ab_ishr F hd (ihh _ _ _ _ _ h)
        case iushr =>
          cases hle (Nat.succ_ne_zero _)
          obtain ⟨y, S, rfl, h⟩ := ab_pI_of h
          obtain ⟨x, S, rfl, h⟩ := ab_pI_of h
          exact ab_iushr F hd (ihh _ _ _ _ _ h)
        case idiv =>
          cases hle (Nat.succ_ne_zero _)
          obtain ⟨y, S, rfl, h⟩ := ab_pI_of h
          obtain ⟨x, S, rfl, h⟩ := ab_pI_of h
          exact ab_idiv F hd h.1.1 h.1.2.1 h.1.2.2.1 h.1.2.2.2 (ihh _ _ _ _ _ h.2)
        case irem =>
          cases hle (Nat.succ_ne_zero _)
          obtain ⟨y, S, rfl, h⟩ := ab_pI_of h
          obtain ⟨x, S, rfl, h⟩ := ab_pI_of h
          exact ab_irem F hd h.1.1 h.1.2.1 h.1.2.2.1 h.1.2.2.2 (ihh _ _ _ _ _ h.2)
        case dup =>
          cases hle (Nat.succ_ne_zero _)
          dsimp only [ab_ex] at h
          obtain ⟨v, S, rfl, hv, h⟩ := ab_p1_of h
          exact ab_dup F hd hv (ihh _ _ _ _ _ h)
        case dup2 =>
          cases hle (Nat.succ_ne_zero _)
          dsimp only [ab_ex] at h
          obtain ⟨v, S, rfl, hv, h⟩ := ab_p1_of h
          obtain ⟨w, S, rfl, hw, h⟩ := ab_p1_of h
          exact ab_dup2 F hd hv hw (ihh _ _ _ _ _ h)
        case pop =>
          cases hle (Nat.succ_ne_zero _)
          dsimp only [ab_ex] at h
          obtain ⟨v, S, rfl, hv, h⟩ := ab_p1_of h
          exact ab_pop F hd hv (ihh _ _ _ _ _ h)
        case goto off =>
          cases hle (Nat.succ_ne_zero _)
          obtain ⟨t, rfl, h⟩ := ab_x1_of h
          exact ab_goto F hd (ab_tg_of hc2) h
        case if_icmp cd off =>
          cases hle (Nat.succ_ne_zero _)
          rcases xs with _ | ⟨t, _ | ⟨t2, _ | ⟨t3, xs⟩⟩⟩
          · exact False.elim h
          · obtain ⟨y, S, rfl, h⟩ := ab_pI_of h
            obtain ⟨x, S, rfl, h⟩ := ab_pI_of h
            obtain ⟨⟨hx, hy⟩, h⟩ := h
            exact ab_icmp F hd (ab_tg_of hc2) hx hy (ab_br_of h).1 (fun q => ihh _ _ _ _ _ ((ab_br_of h).2 q))
          · obtain ⟨y, S, rfl, h⟩ := ab_pI_of h
            obtain ⟨x, S, rfl, h⟩ := ab_pI_of h
            exact ab_g_wr2 (ab_icmp F hd (ab_tg_of hc2) (ab_wr_R x) (ab_wr_R y) (ab_br_of h).1 (fun q => ihh _ _ _ _ _ ((ab_br_of h).2 q)))
          · exact False.elim h
        case ifCond cd off =>
          cases hle (Nat.succ_ne_zero _)
          obtain ⟨t, rfl, h⟩ := ab_x1_of h
          obtain ⟨x, S, rfl, h⟩ := ab_pI_of h
          obtain ⟨hx, h⟩ := h
          exact ab_if F hd (ab_tg_of hc2) hx (ab_br_of h).1 (fun q => ihh _ _ _ _ _ ((ab_br_of h).2 q))
        case ifnonnull off =>
          cases hle (Nat.succ_ne_zero _)
          obtain ⟨t, rfl, h⟩ := ab_x1_of h
          match S, h with
          | .inr (.inl r) :: S, h => exact ab_ifnn F hd (ab_tg_of hc2) h.1 (fun q => ihh _ _ _ _ _ (h.2 q))
        case tableswitch df lo hi offs =>
          obtain ⟨t, ts, rfl, h⟩ := ab_xc_of h
          obtain ⟨x, S, rfl, h⟩ := ab_pI_of h
          simp only [ab_c2, Bool.and_eq_true, decide_eq_true_eq] at hc2
          obtain ⟨⟨⟨hdf, hhi⟩, hts⟩, hall⟩ := hc2
          refine ab_swT (pcs := fun b => pcs.getD b 0) F hd h.1 hhi hts (fun j off hj => ?_) (ab_tg_of hdf) h.2
          have hjl : j < offs.size := (Array.getElem?_eq_some_iff.mp hj).1
          have h3 := List.all_eq_true.mp hall j (List.mem_range.mpr hjl)
          rw [hj] at h3
          exact ab_tg_of h3
        case ireturn =>
          cases hle (Nat.succ_ne_zero _)
          match S, h with
          | [.inl z], h =>
            match xs, h, hc2 with
            | [], h, hc2 => exact ab_iret F hlk (hret.trans (of_decide_eq_true hc2)) hd h
            | _ :: _, h, hc2 => exact ab_zret F hlk (hret.trans (of_decide_eq_true hc2)) hd h.1 h.2
        case areturn =>
          cases hle (Nat.succ_ne_zero _)
          match S, h with
          | [.inr (.inl r)], h =>
            match ret, hret, hc2 with
            | some rt, hret, hc2 => exact ab_aret F hlk hret hc2 hd rfl h
        case return_ =>
          cases hle (Nat.succ_ne_zero _)
          match S, h with
          | [], h => exact ab_vret F hlk (hret.trans (of_decide_eq_true hc2)) hd h
        case getfield i =>
          cases hle (Nat.succ_ne_zero _)
          obtain ⟨ci, j, rfl, h⟩ := ab_x2_of h
          obtain ⟨a, S, rfl, fs, hfs, h⟩ := ab_pR_of h
          obtain ⟨v, hv, h⟩ := ab_on_of h
          obtain ⟨hw, hj, hci⟩ := ab_FL_of hc2
          exact ab_get F hd (ab_cls hci).1 hj (ab_cls hci).2.1 hw hfs hv (ihh _ _ _ _ _ h)
        case putfield i =>
          cases hle (Nat.succ_ne_zero _)
          dsimp only [ab_ex] at h
          obtain ⟨ci, j, rfl, h'⟩ := ab_x2_of h
          obtain ⟨v, S, rfl, hv, h⟩ := ab_p1_of h'
          obtain ⟨a, S, rfl, fs, hfs, h⟩ := ab_pR_of h
          obtain ⟨v0, hv0, h⟩ := ab_on_of h
          obtain ⟨hft, h⟩ := ab_fw_of h
          have hc3 := (Bool.and_eq_true _ _).mp hc2
          obtain ⟨hw, hj, hci⟩ := ab_FL_of hc3.1
          have hfin : (ab_T ci j).2.2.2 = false ∨ ((ab_T ci j).2.2.2 = true ∧ meth.name = "<init>" ∧ (ab_T ci j).1 = ab_cn o) := by
            have h4 := hc3.2
            simp only [Bool.or_eq_true, Bool.and_eq_true, decide_eq_true_eq] at h4
            rcases h4 with h4 | ⟨⟨h4, h5⟩, h6⟩
            · exact Or.inl h4
            · exact Or.inr ⟨h5, hini h4, h6⟩
          exact ab_put F hd (ab_cls hci).1 hj (ab_cls hci).2.1 hw (ab_cls hci).2.2.1 (ab_cls hci).2.2.2.1 hfin hfs hft (List.getElem?_eq_some_iff.mp hv0).1 (ihh _ _ _ _ _ h)
        case iaload =>
          cases hle (Nat.succ_ne_zero _)
          match xs, h, hc2 with
          | [], h, hc2 =>
            obtain ⟨i, S, rfl, h⟩ := ab_pI_of h
            obtain ⟨a, S, rfl, N, f, hf, ⟨h0, h1, h2⟩, h⟩ := ab_pR_of h
            exact ab_iald F hd hf h0 h1 (by unfold ab_R; omega) (ihh _ _ _ _ _ h)
          | _ :: _, h, hc2 =>
            obtain ⟨i, S, rfl, h⟩ := ab_pI_of h
            obtain ⟨S, rfl, ⟨h0, h1⟩, h⟩ := ab_pK_of h
            obtain ⟨N0, f0, t1, t2, t3, t4⟩ := hsc (of_decide_eq_true hc2)
            exact ab_kiald F hd t1 h0 (h1 _ (t4 σ k n).1) t2 (ihh _ _ _ _ _ (h _ (t3 _) ((t4 σ k n).2 i)))
        case baload =>
          cases hle (Nat.succ_ne_zero _)
          obtain ⟨i, S, rfl, h⟩ := ab_pI_of h
          obtain ⟨a, S, rfl, N, f, hf, ⟨h0, h1, h2⟩, h⟩ := ab_pR_of h
          exact ab_zald F hd hf h0 h1 (by unfold ab_R; omega) (ihh _ _ _ _ _ h)
        case laload =>
          cases hle (Nat.succ_ne_zero _)
          obtain ⟨i, S, rfl, h⟩ := ab_pI_of h
          obtain ⟨a, S, rfl, N, f, hf, ⟨h0, h1, h2⟩, h⟩ := ab_pR_of h
          exact ab_lald F hd hf h0 h1 (by unfold ab_R; omega) (ihh _ _ _ _ _ h)
        case aaload =>
          cases hle (Nat.succ_ne_zero _)
          obtain ⟨q, rfl, h⟩ := ab_x1_of h
          obtain ⟨i, S, rfl, h⟩ := ab_pI_of h
          obtain ⟨a, S, rfl, N, f, hf, ⟨h0, h1, h2⟩, h⟩ := ab_pR_of h
          exact ab_aald F hd hf (of_decide_eq_true hc2) h0 h1 (by unfold ab_R; omega) (ihh _ _ _ _ _ h)
        case iastore =>
          cases hle (Nat.succ_ne_zero _)
          obtain ⟨z, S, rfl, h⟩ := ab_pI_of h
          obtain ⟨i, S, rfl, h⟩ := ab_pI_of h
          obtain ⟨a, S, rfl, N, f, hf, ⟨h0, h1, h2⟩, h⟩ := ab_pR_of h
          exact ab_iast F hd hf h0 h1 (by unfold ab_R; omega) (ihh _ _ _ _ _ h)
        case bastore =>
          cases hle (Nat.succ_ne_zero _)
          obtain ⟨z, S, rfl, h⟩ := ab_pI_of h
          obtain ⟨i, S, rfl, h⟩ := ab_pI_of h
          obtain ⟨a, S, rfl, N, f, hf, ⟨h0, h1, h2⟩, hz, h⟩ := ab_pR_of h
          exact ab_zast F hd hf h0 h1 (by unfold ab_R; omega) hz (ihh _ _ _ _ _ h)
        case lastore =>
          cases hle (Nat.succ_ne_zero _)
          obtain ⟨z, S, rfl, h⟩ := ab_pJ_of h
          obtain ⟨i, S, rfl, h⟩ := ab_pI_of h
          obtain ⟨a, S, rfl, N, f, hf, ⟨h0, h1, h2⟩, h⟩ := ab_pR_of h
          exact ab_last F hd hf h0 h1 (by unfold ab_R; omega) (ihh _ _ _ _ _ h)
        case aastore =>
          cases hle (Nat.succ_ne_zero _)
          obtain ⟨q, rfl, h⟩ := ab_x1_of h
          obtain ⟨v, S, rfl, h⟩ := ab_pR_of h
          obtain ⟨i, S, rfl, h⟩ := ab_pI_of h
          obtain ⟨a, S, rfl, N, f, fs, hf, hv, ⟨h0, h1, h2⟩, h⟩ := ab_pR_of h
          exact ab_aast F hd hf (of_decide_eq_true hc2) hv h0 h1 (by unfold ab_R; omega) (ihh _ _ _ _ _ h)
        case arraylength =>
          cases hle (Nat.succ_ne_zero _)
          rcases xs with _ | ⟨u, _ | ⟨q, xs⟩⟩
          · obtain ⟨a, S, rfl, h⟩ := ab_pR_of h
            exact False.elim h
          · have hq := of_decide_eq_true hc2
            match S, h with
            | .inr (.inr (.inr q)) :: S, h =>
              obtain ⟨rfl, h⟩ := h
              obtain ⟨N0, f0, t1, t2, t3, t4⟩ := hsc hq
              exact ab_kalen F hd t1 (ihh _ _ _ _ _ (h _ t2 (t4 σ k n).1))
          · obtain ⟨a, S, rfl, h⟩ := ab_pR_of h
            have h : ab_ra (u :: q :: xs) (σ.2 a) _ := h
            match u, q, xs, h, hc2 with
            | 0, q, [], ⟨N, f, hf, h⟩, hc2 => exact ab_alenN F hd hf (of_decide_eq_true hc2) (ihh _ _ _ _ _ h)
            | 1, q, [], ⟨N, f, hf, h⟩, hc2 => exact ab_alenQ F hd hf (of_decide_eq_true hc2) (ihh _ _ _ _ _ h)
        case newarray at0 =>
          cases hle (Nat.succ_ne_zero _)
          obtain ⟨z, S, rfl, ⟨h0, h1, h2, h3⟩, h⟩ := ab_pI_of h
          obtain ⟨q, hq, h⟩ := ab_on_of h
          refine ab_newa F hd hq ?_ h0 h1 h2 h3 (ihh _ _ _ _ _ h)
          cases at0 <;> first | exact ab_ac.1 | exact ab_ac.2.1 | exact ab_ac.2.2 | cases hq
        case new i =>
          cases hle (Nat.succ_ne_zero _)
          obtain ⟨ci, fl, rfl, ⟨h0, h1⟩, h⟩ := ab_xc_of h
          simp only [ab_c2, Bool.and_eq_true, decide_eq_true_eq] at hc2
          obtain ⟨⟨hw, rfl⟩, hall⟩ := hc2
          obtain ⟨hcl, hci⟩ := ab_CL_of hw
          exact ab_new F hd (ab_cls hci).1 (ab_cls hci).2.1 (ab_cls hci).2.2.1 hcl (ab_cls hci).2.2.2.2.1 (ab_cls hci).2.2.2.2.2 (ab_dvv X (ab_ty ci) (ab_N ci) hall) h0 h1 (ihh _ _ _ _ _ h)
        case invokevirtual i =>
          cases hle (Nat.succ_ne_zero _)
          match xs, h, hc2 with
          | [ci, na], h, hc2 =>
            obtain ⟨a, S', hS, fs, hfs, hS8, d', mc', ms', hcall, hdd, hk1, hn1⟩ := ab_pR_of h
            simp only [ab_c2, Bool.and_eq_true, decide_eq_true_eq] at hc2
            obtain ⟨⟨hcov, hml⟩, hpn⟩ := hc2
            obtain ⟨w1, w2, w3, w4, hcn, hci, hm1, hm2⟩ := ab_ml_of hml
            have hlen : na = (S.take na).reverse.length := by
              have : na < S.length := by
                have h9 := congrArg List.length hS
                rw [List.length_drop, List.length_cons] at h9
                omega
              rw [List.length_reverse, List.length_take]
              omega
            have hSS : S = (S.take na).reverse.reverse ++ .inr (.inl (some a)) :: S' := by rw [List.reverse_reverse, ← hS, List.take_append_drop]
            rw [hSS]
            exact ab_callV (N := ab_N ci) (T := ab_T ci) hst F hd hcall w1 w2 w3 w4 (by rw [hcn]; exact (ab_cls hci).1) ⟨hm1, hm2, by rw [← hlen]; exact hpn⟩ hfs ⟨by show d' + 1 ≤ d; omega, by show 100 * d' + 79 ≤ 100 * d; omega⟩ hk1 hn1 (ab_s8_of hS8) (hbk _ _ _ _ (ihh L)) (fun i σ' hi hp => hX _ _ _ _ _ _ hcov hi hp)
          | [0], h, hc2 =>
            match S, h with
            | .inr (.inr (.inr q)) :: S, h => exact ab_slen hst F hd (ab_xl_of hc2) h.1.1 ⟨h.1.2, by show 600 ≤ 100 * d; have := h.1.2; omega⟩ (ab_s8_of h.2.1) (ihh _ _ _ _ _ h.2.2)
          | [1], h, hc2 =>
            match S, h with
            | .inl z :: .inr (.inr (.inr q)) :: S, h => exact ab_schr hst F hd (ab_xl_of hc2) h.1.1 h.1.2.2.1 h.1.2.2.2 ⟨h.1.2.1, by show 600 ≤ 100 * d; have := h.1.2.1; omega⟩ (ab_s8_of h.2.1) (ihh _ _ _ _ _ h.2.2)
        case invokestatic i =>
          cases hle (Nat.succ_ne_zero _)
          match xs, h, hc2 with
          | [na], h, hc2 =>
            obtain ⟨hS8, d', mc', ms', hcall, hdd, hk1, hn1⟩ := h
            simp only [ab_c2, Bool.and_eq_true, decide_eq_true_eq] at hc2
            obtain ⟨⟨hcov, hml⟩, hpn⟩ := hc2
            obtain ⟨w1, w2, w4, hm1, hm2⟩ := ab_ms_of hml
            have hSS : S = (S.take na).reverse.reverse ++ S.drop na := by rw [List.reverse_reverse, List.take_append_drop]
            rw [hSS]
            exact ab_callS hst F hd hcall w1 w2 w4 ⟨hm1, hm2, by rw [List.length_reverse, List.length_take, Nat.min_eq_left (Nat.le_of_ble_eq_true ((Bool.and_eq_true _ _).mp hS8).1)]; exact hpn⟩ ⟨by show d' + 1 ≤ d; omega, by show 100 * d' + 79 ≤ 100 * d; omega⟩ hk1 hn1 (ab_s8_of ((Bool.and_eq_true _ _).mp hS8).2) (hbk _ _ _ _ (ihh L)) (fun i σ' hi hp => hX _ _ _ _ _ _ hcov hi hp)
          | [na, 3], h, hc2 =>
            obtain ⟨hS8, d', mc', ms', hcall, hdd, hk1, hn1⟩ := h
            simp only [ab_c2, Bool.and_eq_true, decide_eq_true_eq] at hc2
            obtain ⟨⟨hcov, hml⟩, hpn⟩ := hc2
            obtain ⟨w1, w2, w4, hm1, hm2⟩ := ab_ms_of hml
            have hSS : S = (S.take na).reverse.reverse ++ S.drop na := by rw [List.reverse_reverse, List.take_append_drop]
            rw [hSS]
            exact ab_callSH hst F hd hcall w1 w2 w4 ⟨hm1, hm2, by rw [List.length_reverse, List.length_take, Nat.min_eq_left (Nat.le_of_ble_eq_true ((Bool.and_eq_true _ _).mp hS8).1)]; exact hpn⟩ ⟨by show d' + 1 ≤ d; omega, by show 100 * d' + 79 ≤ 100 * d; omega⟩ hk1 hn1 (ab_s8_of ((Bool.and_eq_true _ _).mp hS8).2) (hbk _ _ _ _ (ihh L)) (fun i σ' hi hp => hX _ _ _ _ _ _ hcov hi hp)
          | [_, 0], h, hc2 =>
            obtain ⟨y, S, rfl, h⟩ := ab_pI_of h
            obtain ⟨x, S, rfl, h⟩ := ab_pI_of h
            exact ab_max F hd (ab_xl_of hc2) ab_xw.1.1 ab_xw.2.2.1 ab_xw.1.2 ⟨h.1.2.2, by show 21 ≤ 100 * d; have := h.1.2.2; omega⟩ (ab_s8_of h.2.1) h.1.1 h.1.2.1 (ihh _ _ _ _ _ h.2.2)
          | [_, 1], h, hc2 =>
            obtain ⟨y, S, rfl, h⟩ := ab_pI_of h
            obtain ⟨x, S, rfl, h⟩ := ab_pI_of h
            exact ab_min F hd (ab_xl_of hc2) ab_xw.2.1.1 ab_xw.2.2.1 ab_xw.2.1.2 ⟨h.1.2.2, by show 21 ≤ 100 * d; have := h.1.2.2; omega⟩ (ab_s8_of h.2.1) h.1.1 h.1.2.1 (ihh _ _ _ _ _ h.2.2)
          | [_, 2], h, hc2 =>
            obtain ⟨z, S, rfl, h⟩ := ab_pI_of h
            obtain ⟨dp, S, rfl, h⟩ := ab_pI_of h
            obtain ⟨a1, S, rfl, h⟩ := ab_pR_of h
            obtain ⟨sp, S, rfl, h⟩ := ab_pI_of h
            obtain ⟨a0, S, rfl, N, f, M, g, hf, hg, ⟨q1, q2, q3, q4, q5, q6, q7, q8⟩, hS8, h⟩ := ab_pR_of h
            exact ab_copy F hd (ab_xl_of hc2) ab_xw.2.2.2.1 ab_xw.2.2.2.2.1 ab_xw.2.2.2.2.2 ⟨q8, by show 60 ≤ 100 * d; omega⟩ (ab_s8_of hS8) hf hg q1 q2 q3 q4 q5 q6 q7 (ihh _ _ _ _ _ h)
        case ldc_w i =>
          cases hle (Nat.succ_ne_zero _)
          obtain ⟨v, rfl, h⟩ := ab_x1_of h
          exact ab_ldcw F hd (ab_CT_of hc2) rfl (ihh _ _ _ _ _ h)
        case lookupswitch df ps =>
          obtain ⟨t, ts, rfl, h⟩ := ab_xc_of h
          obtain ⟨x, S, rfl, h⟩ := ab_pI_of h
          simp only [ab_c2, Bool.and_eq_true, decide_eq_true_eq] at hc2
          obtain ⟨⟨⟨hdf, hsr⟩, hts⟩, hall⟩ := hc2
          refine ab_lkT (pcs := fun b => pcs.getD b 0) F hd h.1 hsr hts (fun j q hj => ?_) (ab_tg_of hdf) h.2
          have hjl : j < ps.toList.length := (List.getElem?_eq_some_iff.mp hj).1
          have h3 := List.all_eq_true.mp hall j (List.mem_range.mpr hjl)
          rw [hj] at h3
          exact ab_tg_of h3
        case anewarray i =>
          cases hle (Nat.succ_ne_zero _)
          obtain ⟨q, rfl, h⟩ := ab_x1_of h
          obtain ⟨z, S, rfl, ⟨h0, h1, h2, h3⟩, h⟩ := ab_pI_of h
          simp only [ab_c2, Bool.and_eq_true, decide_eq_true_eq] at hc2
          have hw := (ab_CL_of (o := o) (i := i) (ci := ab_qc q) (by simpa using hc2.2)).1
          have hq2 := hc2.1
          refine ab_anew F hd hq2 ?_ h0 h1 h2 h3 (ihh _ _ _ _ _ h)
          rcases (show q = 0 ∨ q = 1 by omega) with rfl | rfl
          · exact hw
          · exact hw
        case multianewarray i q =>
          cases hle (Nat.succ_ne_zero _)
          obtain ⟨w, S, rfl, h⟩ := ab_pI_of h
          obtain ⟨z, S, rfl, ⟨h0, h1, h2, h3, h4, h5⟩, h'⟩ := ab_pI_of h
          simp only [ab_c2, Bool.and_eq_true, decide_eq_true_eq] at hc2
          obtain ⟨rfl, hc2⟩ := hc2
          obtain ⟨u, hu, hc2⟩ := List.any_eq_true.mp hc2
          simp only [Bool.and_eq_true, decide_eq_true_eq] at hc2
          obtain ⟨rfl, rfl⟩ := hc2
          have hu2 : u = (10, 20) := by simpa [ab_CM] using hu
          subst hu2
          exact ab_mna F hd ab_CM_ok h0 h1 h2 h3 h4 h5 (ihh _ _ _ _ _ h')
        case invokespecial i =>
          cases hle (Nat.succ_ne_zero _)
          obtain ⟨na, fl, rfl, h'⟩ := ab_xc_of h
          clear h
          match fl, h', hc2 with
          | [], h, hc2 =>
            obtain ⟨a, S', hS, hS8, d', mc', ms', hcall, hdd, hk1, hn1⟩ := ab_pR_of h
            simp only [ab_c2, Bool.and_eq_true, decide_eq_true_eq] at hc2
            obtain ⟨⟨hcov, hml⟩, hpn⟩ := hc2
            obtain ⟨w1, w2, w4, hyn, hyr, hm1, hm2⟩ := ab_mi_of hml
            have hlen : na = (S.take na).reverse.length := by
              have : na < S.length := by
                have h9 := congrArg List.length hS
                rw [List.length_drop, List.length_cons] at h9
                omega
              rw [List.length_reverse, List.length_take]
              omega
            have hSS : S = (S.take na).reverse.reverse ++ .inr (.inl (some a)) :: S' := by rw [List.reverse_reverse, ← hS, List.take_append_drop]
            rw [hSS]
            exact ab_callI hst F hd hcall w1 w2 w4 hyn ⟨hm1, hm2, by rw [← hlen]; exact hpn, hyr⟩ ⟨by show d' + 1 ≤ d; omega, by show 100 * d' + 79 ≤ 100 * d; omega⟩ hk1 hn1 (ab_s8_of hS8) (hbk _ _ _ _ (ihh L)) (fun i σ' hi hp => hX _ _ _ _ _ _ hcov hi hp)
          | [q], h, hc2 =>
            obtain ⟨a, S', rfl, hS8, hd1, h⟩ := ab_pR_of h
            exact ab_objinit F hd (ab_w_in hc2) ⟨hd1, by show 20 ≤ 100 * d; omega⟩ (ab_s8_of hS8) (ihh _ _ _ _ _ h)
        case ldc i =>
          cases hle (Nat.succ_ne_zero _)
          match xs, h, hc2 with
          | [v], h, hc2 => exact ab_ldc F hd (ab_CT_of hc2) rfl (ihh _ _ _ _ _ h)
          | [_, q], h, hc2 =>
            have hc3 := (Bool.and_eq_true _ _).mp hc2
            obtain ⟨u, hu, h4⟩ := List.any_eq_true.mp hc3.2
            simp only [Bool.and_eq_true, decide_eq_true_eq] at h4
            obtain ⟨u1, u2, u3, u4⟩ := u
            obtain ⟨⟨rfl, rfl⟩, rfl⟩ := h4
            exact ab_ldcS F hd hu (ihh _ _ _ _ _ h)
        case i2l =>
          cases hle (Nat.succ_ne_zero _)
          rcases xs with _ | ⟨t, xs⟩
          · obtain ⟨z, S, rfl, hz, h⟩ := ab_pI_of h
            exact ab_i2l F hd hz (ihh _ _ _ _ _ h)
          · obtain ⟨z, S, rfl, h⟩ := ab_pI_of h
            exact ab_g_wr (ab_i2l F hd (ab_wr_R z) (ihh _ _ _ _ _ h))
        case lconst z =>
          cases hle (Nat.succ_ne_zero _)
          exact ab_lconst F hd (ihh _ _ _ _ _ h)
        case lcmp =>
          cases hle (Nat.succ_ne_zero _)
          obtain ⟨y, S, rfl, h⟩ := ab_pJ_of h
          obtain ⟨x, S, rfl, ⟨hx, hy⟩, h⟩ := ab_pJ_of h
          exact ab_lcmp F hd hx hy (fun z hz hq => ihh _ _ _ _ _ (h z hz hq))
        case athrow => exact absurd rfl hthr
      · cases hck
end AbSound
