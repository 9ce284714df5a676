def ab_cks (cc : ByteArray) (o : Nat) (ret : Option FieldType) (ini : Bool) (nL : Nat) (pcs : List Nat) (cov : Nat → Bool) : Nat → List (List ab_I) → Bool
  | _, [] => true
  | b, blk :: bs => ab_ck cc o ret ini nL pcs cov b (pcs.getD b 0) blk && ab_cks cc o ret ini nL pcs cov (b + 1) bs
theorem ab_cks_of {cc : ByteArray} {o : Nat} {ret : Option FieldType} {ini : Bool} {nL : Nat} {pcs : List Nat} {cov : Nat → Bool} : ∀ (bs : List (List ab_I)) (b0 : Nat), ab_cks cc o ret ini nL pcs cov b0 bs = true → ∀ b blk, bs[b]? = some blk → ab_ck cc o ret ini nL pcs cov (b0 + b) (pcs.getD (b0 + b) 0) blk = true := by
  intro bs
  induction bs with
  | nil => intro b0 _ b blk h; simp at h
  | cons x bs ih =>
    intro b0 h b blk hb
    have h := (Bool.and_eq_true _ _).mp h
    cases b with
    | zero => cases hb; exact h.1
    | succ b =>
      have := ih (b0 + 1) h.2 b blk (by simpa using hb)
      rw [show b0 + (b + 1) = b0 + 1 + b by omega]
      exact this
/-- the rule of the blocks: a block's debts pay its entry -/
abbrev ab_rule (bs : List (List ab_I)) (d mc ms : Nat) (post : ab_O → ab_H → Prop) (At : Nat → ab_L → List ab_V → ab_H → Nat → Nat → Prop) : Prop :=
  ∀ (b : Nat) (blk : List ab_I), bs[b]? = some blk → ∀ (L : ab_L) (S : List ab_V) (σ : ab_H) (k n : Nat), ab_ex At (fun i _ σ _ _ => post (.inr i) σ) post d mc ms blk b L S σ k n → At b L S σ k n
theorem ab_entry {y : MethodName} {cc : ByteArray} {maxL : Nat} {ret : Option FieldType} {o : Nat} {ini : Bool} {bs : List (List ab_I)} {pcs : List Nat} {d mc ms : Nat} {av : List ab_V} {σ : ab_H} {post : ab_O → ab_H → Prop}
    (hw : Cond.code y cc maxL ret ∈ ab_ws) (hy : plainName y.cls = true) (hmL : maxL ≤ 60) (ho : y.cls = ab_cn o) (hini : ini = true → y.name = "<init>") (hp0 : pcs.getD 0 0 = 0) (hck : ab_cks cc o ret ini maxL pcs (fun _ => true) 0 bs = true) (hav : (av.all ab_n1 && Nat.ble av.length maxL) = true)
    (h : ∀ At, ab_rule bs d mc ms post At → At 0 (av.map some ++ List.replicate (maxL - av.length) none) [] σ 0 0) (hno : o ≠ 11 := by decide) : ab_call d mc ms y av σ post := by
  intro l X hst
  refine ⟨cc, maxL, ret, hw, hmL, vx_ofW hy rfl ?_⟩
  intro p e s m args below meth c s₁ B hml hout hv
  obtain ⟨rfl, hr, hK⟩ := hv
  have hts : ∀ w ∈ ab_ws, w.before (av.map (ab_v X)).toArray s = true := fun w hw => atoms_spec (ws := Cond.code y cc maxL ret :: ab_ws) B.pre w (List.mem_cons_of_mem _ hw)
  have hown : s.vm.findClass (ab_cn o) = some m.cls := by rw [← ho]; exact findClass_of_methodNamed B.named
  have F : ab_fx p s m (av.map (ab_v X)).toArray c X maxL cc (ab_cn o) := ⟨B.exec, B.bytes, hml, hown, hts, hK⟩
  have hA := h (fun b L S σ k n => ab_g p l e (ab_rm d mc ms) s m (av.map (ab_v X)).toArray below meth c (ab_Q below (av.map (ab_v X)).toArray s (ab_rm d mc ms) X post) X maxL (pcs.getD b 0) L S σ k n) (fun b blk hb L S σ k n hx => by
    have hc := ab_cks_of bs 0 hck b blk hb
    rw [Nat.zero_add] at hc
    refine ab_sound (cov := fun _ => true) hst F B.notSynchronized B.returns (fun hi => (name_of_methodNamed B.named B.method).1.trans (hini hi)) (fun q => absurd q.1 hno) (fun _ => hout) ?_ blk b _ L S σ k n hc hx
    intro pc i L σ k n _ hi hp H locs ls q ce rest hr2 hz hl hk hn hce hcv hcl
    exact vx_out (fun x hx => (hout x hx).elim) B.notSynchronized hce hcv hcl (fun t ht _ => ⟨i, σ, hi, rfl, hp, by rw [ht]; exact hr2⟩) hz hk hn)
  have hav2 := (Bool.and_eq_true _ _).mp hav
  have hlen : av.length ≤ maxL := Nat.le_of_ble_eq_true hav2.2
  have hsl : ∀ vs : List ab_V, vs.all ab_n1 = true → lg_sl (vs.map (ab_v X)) = vs.map (fun v => Slot.val (ab_v X v)) := by
    intro vs
    induction vs with
    | nil => intro _; rfl
    | cons v vs ih =>
      intro hv
      rw [List.all_cons, Bool.and_eq_true] at hv
      have := ih hv.2
      match v, hv.1 with
      | .inl z, _ => exact congrArg (List.cons _) this
      | .inr (.inl none), _ => exact congrArg (List.cons _) this
      | .inr (.inl (some _)), _ => exact congrArg (List.cons _) this
      | .inr (.inr (.inr _)), _ => exact congrArg (List.cons _) this
  have hle : (lg_sl (av.map (ab_v X))).length ≤ maxL := by rw [hsl av hav2.1, List.length_map]; exact hlen
  have hl := lv_entry (av.map (ab_v X)) (n := maxL) hle
  rw [lg_entry_eq]
  rw [hp0] at hA
  refine hA s.heap [] _ hr (fun z hz => by cases hz) ⟨hl.1, hl.2.1, by simp; omega, fun i v hv => ?_⟩ (Nat.zero_le _) (Nat.zero_le _)
  by_cases hi : i < av.length
  · rw [List.getElem?_append_left (by rw [List.length_map]; exact hi), List.getElem?_map] at hv
    obtain ⟨w, hw1, hw2⟩ := Option.map_eq_some_iff.mp hv
    cases hw2
    refine ⟨List.all_eq_true.mp hav2.1 _ (List.mem_of_getElem? hw1), ?_⟩
    rw [hsl av hav2.1, List.getElem?_toArray, List.getElem?_append_left (by rw [List.length_map]; exact hi), List.getElem?_map, hw1]
    rfl
  · rw [List.getElem?_append_right (by rw [List.length_map]; omega)] at hv
    have := List.getElem?_replicate (n := maxL - av.length) (a := (none : Option ab_V)) (i := i - (av.map some).length)
    rw [this] at hv
    split at hv <;> cases hv
/-- a row of an exception table: which exception, its class's link, the handler's pc, the block behind its astore, the local -/
abbrev ab_hr5 : Type := Nat × Nat × Nat × Nat × Nat
def ab_hw (r : ab_hr5) : Cond := .classLink RL r.2.1 (ab_en r.1)
def ab_hok (cc : ByteArray) (pcs : List Nat) (nL : Nat) (r : ab_hr5) : Bool :=
  decide (r.1 < 3) && decide (r.2.1 ≠ 0) && decide (r.2.2.2.2 < nL) && (decide (ab_hw r ∈ lw_tbl) && goodWord (ab_hw r)) &&
  (if r.2.2.2.2 < 4 then decide (decide (pcs.getD r.2.2.2.1 0 = r.2.2.1 + 1) = true) && (match decode cc r.2.2.1 with
    | .ok (.astore_n k, 1) => decide ((k : Nat) = r.2.2.2.2)
    | _ => false)
  else decide (pcs.getD r.2.2.2.1 0 = r.2.2.1 + 2) && (match decode cc r.2.2.1 with
    | .ok (.astore k, 2) => decide (k = r.2.2.2.2)
    | _ => false))
theorem ab_lr_sk {X : ab_X} {nL : Nat} {L : ab_L} {ls ls' : Array Slot} {i : Nat} {v : Value} (h : ab_lr X nL L ls) (h' : lv_has ls' nL ((i, v) :: (ab_ps X L).filter (fun q => !(q.1 == i) && !(q.1 + 1 == i && q.2.category == 2)))) : ab_lr X nL (L.set i none) ls' := by
  refine ⟨h'.1, h'.2.1, by rw [List.length_set]; exact h.2.2.1, fun j w hw => ?_⟩
  by_cases e : i = j
  · subst e
    rw [List.getElem?_set_self'] at hw
    cases hL : L[i]? with
    | none => rw [hL] at hw; cases hw
    | some u => rw [hL] at hw; cases hw
  · rw [List.getElem?_set_ne e] at hw
    have h1 := (h.2.2.2 j w hw).1
    refine ⟨h1, h'.2.2 (j, ab_v X w) (List.mem_cons_of_mem _ (List.mem_filter.mpr ⟨?_, ?_⟩))⟩
    · exact List.mem_filterMap.mpr ⟨j, List.mem_range.mpr (List.getElem?_eq_some_iff.mp hw).1, ab_pr_of hw⟩
    · have h2 := ab_cat (X := X) h1
      simp [h2]
      exact fun q => e q.symm
/-- caught: at the handler, the exception goes into its local -/
theorem ab_caught {p : Program} {l : Launch} {e : Env} {R : Room} {s : State} {m : MethodId} {args : Array Value} {below : List Frame} {meth : Method} {c : Code} {Q : State → Prop} {X : ab_X} {nL : Nat} {cc : ByteArray} {own : String} {L : ab_L} {σ : ab_H} {k n : Nat} {pcs : List Nat} {r : ab_hr5} (F : ab_fx p s m args c X nL cc own) (hok : ab_hok cc pcs nL r = true)
    (h : ab_g p l e R s m args below meth c Q X nL (pcs.getD r.2.2.2.1 0) (L.set r.2.2.2.2 none) [] σ k n) {H : Heap} {locs : List Loc} {ls : Array Slot} {q : Addr} (hr : ab_hr X σ H) (hz : ∀ z ∈ locs, X.1 ≤ z.base) (hl : ab_lr X nL L ls) (hk : k ≤ R.cells) (hn : n ≤ R.slots) :
    W p l e R s m args below meth c H locs k n Q (F0 m r.2.2.1 ls [.ref q]) := by
  unfold ab_hok at hok
  obtain ⟨h1, h2⟩ := (Bool.and_eq_true _ _).mp hok
  have hj : r.2.2.2.2 < nL := by
    simp only [Bool.and_eq_true, decide_eq_true_eq] at h1
    exact h1.1.2
  split at h2
  · obtain ⟨h3, h4⟩ := (Bool.and_eq_true _ _).mp h2
    have h3 := of_decide_eq_true (of_decide_eq_true h3)
    split at h4
    · next k9 hd =>
      have h4 := of_decide_eq_true h4
      rw [h3] at h
      exact lv_astore_n F.1 F.2.1 hd h4 (ab_lr_has hl) hj rfl (fun ls' h' => h H locs ls' hr hz (ab_lr_sk hl h') hk hn)
    · cases h4
  · obtain ⟨h3, h4⟩ := (Bool.and_eq_true _ _).mp h2
    have h3 := of_decide_eq_true h3
    split at h4
    · next k9 hd =>
      have h4 := of_decide_eq_true h4
      subst h4
      rw [h3] at h
      exact lv_astore F.1 F.2.1 hd (ab_lr_has hl) hj rfl (fun ls' h' => h H locs ls' hr hz (ab_lr_sk hl h') hk hn)
    · cases h4
/-- the locals at a method's entry -/
theorem ab_lr_in {X : ab_X} {maxL : Nat} {av : List ab_V} (hav : (av.all ab_n1 && Nat.ble av.length maxL) = true) {p : Program} {l : Launch} {e : Env} {R : Room} {s : State} {m : MethodId} {args : Array Value} {below : List Frame} {meth : Method} {c : Code} {Q : State → Prop} {σ : ab_H} (hr : ab_hr X σ s.heap)
    (hA : ab_g p l e R s m args below meth c Q X maxL 0 (av.map some ++ List.replicate (maxL - av.length) none) [] σ 0 0) : W p l e R s m args below meth c s.heap [] 0 0 Q (entryFrame m (av.map (ab_v X)).toArray maxL) := by
  have hav2 := (Bool.and_eq_true _ _).mp hav
  have hlen : av.length ≤ maxL := Nat.le_of_ble_eq_true hav2.2
  have hsl : ∀ vs : List ab_V, vs.all ab_n1 = true → lg_sl (vs.map (ab_v X)) = vs.map (fun v => Slot.val (ab_v X v)) := by
    intro vs
    induction vs with
    | nil => intro _; rfl
    | cons v vs ih =>
      intro hv
      rw [List.all_cons, Bool.and_eq_true] at hv
      have := ih hv.2
      match v, hv.1 with
      | .inl z, _ => exact congrArg (List.cons _) this
      | .inr (.inl none), _ => exact congrArg (List.cons _) this
      | .inr (.inl (some _)), _ => exact congrArg (List.cons _) this
      | .inr (.inr (.inr _)), _ => exact congrArg (List.cons _) this
  have hle : (lg_sl (av.map (ab_v X))).length ≤ maxL := by rw [hsl av hav2.1, List.length_map]; exact hlen
  have hl := lv_entry (av.map (ab_v X)) (n := maxL) hle
  rw [lg_entry_eq]
  refine hA s.heap [] _ hr (fun z hz => by cases hz) ⟨hl.1, hl.2.1, by simp; omega, fun i v hv => ?_⟩ (Nat.zero_le _) (Nat.zero_le _)
  by_cases hi : i < av.length
  · rw [List.getElem?_append_left (by rw [List.length_map]; exact hi), List.getElem?_map] at hv
    obtain ⟨w, hw1, hw2⟩ := Option.map_eq_some_iff.mp hv
    cases hw2
    refine ⟨List.all_eq_true.mp hav2.1 _ (List.mem_of_getElem? hw1), ?_⟩
    rw [hsl av hav2.1, List.getElem?_toArray, List.getElem?_append_left (by rw [List.length_map]; exact hi), List.getElem?_map, hw1]
    rfl
  · rw [List.getElem?_append_right (by rw [List.length_map]; omega)] at hv
    have := List.getElem?_replicate (n := maxL - av.length) (a := (none : Option ab_V)) (i := i - (av.map some).length)
    rw [this] at hv
    split at hv <;> cases hv
theorem ab_ncast_of {i j : Nat} (hi : i < 3) (hj : j < 3) (h : i ≠ j) : (ab_en i, ab_en j) ∈ ab_ncast := by
  rcases (show i = 0 ∨ i = 1 ∨ i = 2 by omega) with rfl | rfl | rfl <;> rcases (show j = 0 ∨ j = 1 ∨ j = 2 by omega) with rfl | rfl | rfl <;> first | exact absurd rfl h | decide +kernel
theorem ab_cast_of {i : Nat} (hi : i < 3) : (ab_en i, ab_en i) ∈ ab_cast := by
  have key : ∀ a, a < 3 → (ab_en a, ab_en a) ∈ ab_cast := by decide +kernel
  exact key i hi
def ab_hh (E : Nat) (rows : List ab_hr5) : List (Nat × Nat × Nat × Nat) := rows.map fun r => (0, E, r.2.2.1, r.2.1)
/-- what an exception is caught by -/
def ab_Xh (rows : List ab_hr5) (At : Nat → ab_L → List ab_V → ab_H → Nat → Nat → Prop) : Nat → ab_L → ab_H → Nat → Nat → Prop := fun i L σ k n => ∃ r ∈ rows, r.1 = i ∧ At r.2.2.2.1 (L.set r.2.2.2.2 none) [] σ k n
abbrev ab_ruleH (rows : List ab_hr5) (bs : List (List ab_I)) (d mc ms : Nat) (post : ab_O → ab_H → Prop) (At : Nat → ab_L → List ab_V → ab_H → Nat → Nat → Prop) : Prop :=
  ∀ (b : Nat) (blk : List ab_I), bs[b]? = some blk → ∀ (L : ab_L) (S : List ab_V) (σ : ab_H) (k n : Nat), ab_ex At (ab_Xh rows At) post d mc ms blk b L S σ k n → At b L S σ k n
theorem ab_entryH {y : MethodName} {cc : ByteArray} {maxL : Nat} {ret : Option FieldType} {rows : List ab_hr5} {E : Nat} {bs : List (List ab_I)} {pcs : List Nat} {d mc ms : Nat} {av : List ab_V} {σ : ab_H} {post : ab_O → ab_H → Prop}
    (hw : Cond.codeWith y cc maxL ret (ab_hh E rows) ∈ ab_ws) (hy : plainName y.cls = true) (hmL : maxL ≤ 60) (ho : y.cls = ab_cn 11) (hret : ret ≠ some .boolean) (hp0 : pcs.getD 0 0 = 0) (hck : ab_cks cc 11 ret false maxL pcs (fun pc => decide (pc < E)) 0 bs = true)
    (hrows : (rows.all (ab_hok cc pcs maxL) && decide ((rows.map (·.1)).Nodup)) = true) (hav : (av.all ab_n1 && Nat.ble av.length maxL) = true)
    (h : ∀ At, ab_ruleH rows bs d mc ms post At → At 0 (av.map some ++ List.replicate (maxL - av.length) none) [] σ 0 0) : ab_callH d mc ms y av σ post := by
  intro l X hst
  refine ⟨cc, maxL, ret, _, hw, hmL, vx_ofWH hy rfl ?_⟩
  intro p e s m args below meth c s₁ B hml hv
  obtain ⟨rfl, hr, hK⟩ := hv
  have hts0 : ∀ w ∈ (Cond.codeWith y cc maxL ret (ab_hh E rows) :: ab_ws), w.before (av.map (ab_v X)).toArray s = true := atoms_spec (ws := Cond.codeWith y cc maxL ret (ab_hh E rows) :: ab_ws) B.pre
  have hts : ∀ w ∈ ab_ws, w.before (av.map (ab_v X)).toArray s = true := fun w hw => hts0 w (List.mem_cons_of_mem _ hw)
  have htab := vx_table (x := y) B (hts0 _ List.mem_cons_self)
  have hown : s.vm.findClass (ab_cn 11) = some m.cls := by rw [← ho]; exact findClass_of_methodNamed B.named
  have F : ab_fx p s m (av.map (ab_v X)).toArray c X maxL cc (ab_cn 11) := ⟨B.exec, B.bytes, hml, hown, hts, hK⟩
  obtain ⟨hr1, hr2⟩ := (Bool.and_eq_true _ _).mp hrows
  have hr2 := of_decide_eq_true hr2
  have hall := List.all_eq_true.mp hr1
  obtain ⟨-, -, -, h3, -, -, ⟨-, -, hnc, -⟩, -⟩ := hK
  refine ab_lr_in hav hr ?_
  have hA := h (fun b L S σ k n => ab_g p l e (ab_rm d mc ms) s m (av.map (ab_v X)).toArray below meth c (ab_Q below (av.map (ab_v X)).toArray s (ab_rm d mc ms) X post) X maxL (pcs.getD b 0) L S σ k n) (fun b blk hb L S σ k n hx => by
    have hc := ab_cks_of bs 0 hck b blk hb
    rw [Nat.zero_add] at hc
    refine ab_sound (cov := fun pc => decide (pc < E)) hst F B.notSynchronized B.returns (fun hi => Bool.noConfusion hi) (fun q => absurd q.2 hret) (fun q => absurd q (by decide)) ?_ blk b _ L S σ k n hc hx
    intro pc i L σ k n hcov hi hp H locs ls q ce rest hr9 hz hl hk hn hce hcv hcl
    obtain ⟨r, hrm, rfl, hat⟩ := hp
    obtain ⟨pre, suf, hsp⟩ := List.append_of_mem hrm
    have hrow : ∀ z ∈ rows, (z.1 < 3 ∧ z.2.1 ≠ 0) ∧ Cond.classLink RL z.2.1 (ab_en z.1) ∈ ab_ws := fun z hz => by
      have h9 := hall z hz
      unfold ab_hok at h9
      have h9 := ((Bool.and_eq_true _ _).mp h9).1
      simp only [Bool.and_eq_true, decide_eq_true_eq] at h9
      exact ⟨⟨h9.1.1.1, h9.1.1.2⟩, List.mem_filter.mpr ⟨h9.2.1, h9.2.2⟩⟩
    refine vx_catch (own := ab_cn 11) (name := ab_en r.1) (E := ab_en r.1) hown (tableOf (ab_hh E pre)) ⟨0, E, r.2.2.1, r.2.1⟩ (tableOf (ab_hh E suf)) ?_ ?_ ?_ (hrow r hrm).1.2 (hts _ (hrow r hrm).2) (va_Nw.use rfl (h3.1 _ (ab_cast_of hi))) hce hcv hcl (ab_caught F (hall r hrm) hat hr9 hz hl hk hn)
    · rw [htab, hsp]
      simp [tableOf, ab_hh]
    · intro z hz
      simp only [tableOf, ab_hh, List.map_map, List.mem_map] at hz
      obtain ⟨u, hu, rfl⟩ := hz
      have hum : u ∈ rows := by rw [hsp]; exact List.mem_append_left _ hu
      have hne : r.1 ≠ u.1 := fun e => by
        rw [hsp, List.map_append, List.map_cons, List.nodup_append] at hr2
        exact hr2.2.2 u.1 (List.mem_map.mpr ⟨u, hu, rfl⟩) r.1 List.mem_cons_self e.symm
      exact Or.inr ⟨(hrow u hum).1.2, ab_en u.1, hts _ (hrow u hum).2, hnc _ (ab_ncast_of hi (hrow u hum).1.1 hne)⟩
    · have hcov := of_decide_eq_true hcov
      simp [covers, hcov])
  rw [hp0] at hA
  exact hA
/-- what the law knows of its script -/
def ab_Xs (N0 : Nat) (f0 : Nat → Int) : Nat → ab_L → ab_H → Nat → Nat → Prop := fun i L _ _ _ => (i = 1000 ∧ L = [some (.inl N0)]) ∨ ∃ j : Int, i = 1001 ∧ L = [some (.inl j), some (.inl (f0 j.toNat))]
theorem ab_Xs_n {N0 : Nat} {f0 : Nat → Int} {N : Int} {σ : ab_H} {k n : Nat} (h : ab_Xs N0 f0 1000 [some (.inl N)] σ k n) : N = N0 := by
  rcases h with ⟨-, h⟩ | ⟨j, h, -⟩
  · cases h; rfl
  · cases h
theorem ab_Xs_z {N0 : Nat} {f0 : Nat → Int} {i z : Int} {σ : ab_H} {k n : Nat} (h : ab_Xs N0 f0 1001 [some (.inl i), some (.inl z)] σ k n) : z = f0 i.toNat := by
  rcases h with ⟨h, -⟩ | ⟨j, -, h⟩
  · cases h
  · cases h; rfl
abbrev ab_ruleL (N0 : Nat) (f0 : Nat → Int) (bs : List (List ab_I)) (d mc ms : Nat) (post : ab_O → ab_H → Prop) (At : Nat → ab_L → List ab_V → ab_H → Nat → Nat → Prop) : Prop :=
  ∀ (b : Nat) (blk : List ab_I), bs[b]? = some blk → ∀ (L : ab_L) (S : List ab_V) (σ : ab_H) (k n : Nat), ab_ex At (ab_Xs N0 f0) post d mc ms blk b L S σ k n → At b L S σ k n
theorem ab_entryL {p : Program} {l : Launch} {e : Env} {s : State} {m : MethodId} {below : List Frame} {meth : Method} {c : Code} {X : ab_X} {cc : ByteArray} {maxL : Nat} {bs : List (List ab_I)} {pcs : List Nat} {d mc ms : Nat} {av : List ab_V} {σ : ab_H} {post : ab_O → ab_H → Prop} {N0 : Nat} {f0 : Nat → Int}
    (hst : l.stackTraces = false) (F : ab_fx p s m (av.map (ab_v X)).toArray c X maxL cc (ab_cn 11)) (hlk : meth.locks = false) (hret : meth.sig.returnType = some .boolean) (hT : va_T .int (X.2.2.2.2.1 21) N0 (fun j => .int (Int32.ofInt (f0 j))) (fun q => X.1 ≤ q) s X.2.2.2.2.2) (hN : N0 < 100000) (hf0 : ∀ j, ab_R (f0 j)) (hr : ab_hr X σ s.heap)
    (hp0 : pcs.getD 0 0 = 0) (hck : ab_cks cc 11 (some .boolean) false maxL pcs (fun _ => true) 0 bs = true) (hav : (av.all ab_n1 && Nat.ble av.length maxL) = true)
    (h : ∀ At, ab_ruleL N0 f0 bs d mc ms post At → At 0 (av.map some ++ List.replicate (maxL - av.length) none) [] σ 0 0) : W p l e (ab_rm d mc ms) s m (av.map (ab_v X)).toArray below meth c s.heap [] 0 0 (ab_Q below (av.map (ab_v X)).toArray s (ab_rm d mc ms) X post) (entryFrame m (av.map (ab_v X)).toArray maxL) := by
  refine ab_lr_in hav hr ?_
  have hA := h (fun b L S σ k n => ab_g p l e (ab_rm d mc ms) s m (av.map (ab_v X)).toArray below meth c (ab_Q below (av.map (ab_v X)).toArray s (ab_rm d mc ms) X post) X maxL (pcs.getD b 0) L S σ k n) (fun b blk hb L S σ k n hx => by
    have hc := ab_cks_of bs 0 hck b blk hb
    rw [Nat.zero_add] at hc
    refine ab_sound (cov := fun _ => true) hst F hlk hret (fun hi => Bool.noConfusion hi) (fun _ => ⟨N0, f0, hT, hN, hf0, fun σ k n => ⟨Or.inl ⟨rfl, rfl⟩, fun i => Or.inr ⟨i, rfl, rfl⟩⟩⟩) (fun q => absurd q (by decide)) ?_ blk b _ L S σ k n hc hx
    intro pc i L σ k n _ hi hp
    rcases hp with ⟨rfl, -⟩ | ⟨j, rfl, -⟩
    · omega
    · omega)
  rw [hp0] at hA
  exact hA
-- ===== using contracts =====
theorem ab_call_mono {d mc ms : Nat} {y : MethodName} {av : List ab_V} {σ : ab_H} {post post' : ab_O → ab_H → Prop} (h : ab_call d mc ms y av σ post) (hp : ∀ r σ', post r σ' → post' r σ') : ab_call d mc ms y av σ post' := by
  intro l X hst
  obtain ⟨cc, maxL, ret, hw, hL, hM⟩ := h l X hst
  refine ⟨cc, maxL, ret, hw, hL, ?_⟩
  intro p e ha hc hk s m args below hf happ hP hK
  obtain ⟨n, o, h1, h2, h3, h4⟩ := hM p e ha hc hk s m args below hf happ hP hK
  refine ⟨n, o, h1, h2, h3, ?_⟩
  rcases h4 with ⟨⟨r, σ', hr, hp1, hh⟩, L, hF⟩ | ⟨q, ho, E, ce, Ls, ⟨i, σ', hi, hE, hp1, hh⟩, rest⟩
  · exact Or.inl ⟨⟨r, σ', hr, hp _ _ hp1, hh⟩, L, hF⟩
  · exact Or.inr ⟨q, ho, E, ce, Ls, ⟨i, σ', hi, hE, hp _ _ hp1, hh⟩, rest⟩
/-- it returns just this, with just that heap, and makes nothing -/
abbrev ab_ev (d : Nat) (y : MethodName) (av : List ab_V) (σ : ab_H) (r : Option ab_V) (σ' : ab_H) : Prop := ab_call d 0 0 y av σ (fun r' σ'' => r' = .inl r ∧ σ'' = σ')
theorem ab_inv_ev {d d' mc ms k n : Nat} {y : MethodName} {av : List ab_V} {σ σ' : ab_H} {r : Option ab_V} {po : Nat → Nat → ab_O → ab_H → Prop} (h : ab_ev d' y av σ r σ') (hd : d' < d) (hk : k ≤ mc) (hn : n ≤ ms) (hp : po k n (.inl r) σ') : ab_inv d mc ms k n y av σ po :=
  ⟨d', 0, 0, ab_call_mono h (fun r' σ'' q => by obtain ⟨rfl, rfl⟩ := q; exact hp), hd, hk, hn⟩
theorem ab_inv_of {d d' mc ms mc' ms' k n : Nat} {y : MethodName} {av : List ab_V} {σ : ab_H} {post : ab_O → ab_H → Prop} {po : Nat → Nat → ab_O → ab_H → Prop} (h : ab_call d' mc' ms' y av σ post) (hd : d' < d) (hk : k + mc' ≤ mc) (hn : n + ms' ≤ ms) (hp : ∀ r σ', post r σ' → po (k + mc') (n + ms') r σ') : ab_inv d mc ms k n y av σ po :=
  ⟨d', mc', ms', ab_call_mono h hp, hd, hk, hn⟩
