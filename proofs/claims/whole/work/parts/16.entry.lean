def ab_cks (cc : ByteArray) (o : Nat) (ret : Option FieldType) (ini : Bool) (nL : Nat) (pcs : List Nat) (cov : Nat → Bool) : Nat → List (List ab_I) → Bool
  | _, [] => true
  | b, blk :: bs => ab_ck cc o ret ini nL pcs cov b (pcs.getD b 0) blk && ab_cks cc o ret ini nL pcs cov (b + 1) bs
theorem ab_cks_of {cc : ByteArray} {o : Nat} {ret : Option FieldType} {ini : Bool} {nL : Nat} {pcs : List Nat} {cov : Nat → Bool} : ∀ (bs : List (List ab_I)) (b0 : Nat), ab_cks cc o ret ini nL pcs cov b0 bs = true → ∀ b blk, bs[b]? = some blk → ab_ck cc o ret ini nL pcs cov (b0 + b) (pcs.getD (b0 + b) 0) blk = true := by
  intro bs
  induction bs with
  | nil => intro b0 _ b blk h; simp at h
  | cons x bs ih =>
    intro b0 h b blk hb
    have h := (Bool.and_eq_true _ _).mp h
    cases b with
    | zero => cases hb; exact h.1
    | succ b =>
      have := ih (b0 + 1) h.2 b blk (by simpa using hb)
      rw [show b0 + (b + 1) = b0 + 1 + b by omega]
      exact this
/-- the rule of the blocks: a block's debts pay its entry -/
abbrev ab_rule (bs : List (List ab_I)) (d mc ms : Nat) (post : ab_O → ab_H → Prop) (At : Nat → ab_L → List ab_V → ab_H → Nat → Nat → Prop) : Prop :=
  ∀ (b : Nat) (blk : List ab_I), bs[b]? = some blk → ∀ (L : ab_L) (S : List ab_V) (σ : ab_H) (k n : Nat), ab_ex At (fun i _ σ _ _ => post (.inr i) σ) post d mc ms blk b L S σ k n → At b L S σ k n
theorem ab_entry {y : MethodName} {cc : ByteArray} {maxL : Nat} {ret : Option FieldType} {o : Nat} {ini : Bool} {bs : List (List ab_I)} {pcs : List Nat} {d mc ms : Nat} {av : List ab_V} {σ : ab_H} {post : ab_O → ab_H → Prop}
    (hw : Cond.code y cc maxL ret ∈ ab_ws) (hy : plainName y.cls = true) (hmL : maxL ≤ 60) (ho : y.cls = ab_cn o) (hini : ini = true → y.name = "<init>") (hp0 : pcs.getD 0 0 = 0) (hck : ab_cks cc o ret ini maxL pcs (fun _ => true) 0 bs = true) (hav : (av.all ab_n1 && Nat.ble av.length maxL) = true)
    (h : ∀ At, ab_rule bs d mc ms post At → At 0 (av.map some ++ List.replicate (maxL - av.length) none) [] σ 0 0) : ab_call d mc ms y av σ post := by
  intro l X hst
  refine ⟨cc, maxL, ret, hw, hmL, vx_ofW hy rfl ?_⟩
  intro p e s m args below meth c s₁ B hml hout hv
  obtain ⟨rfl, hr, hK⟩ := hv
  have hts : ∀ w ∈ ab_ws, w.before (av.map (ab_v X)).toArray s = true := fun w hw => atoms_spec (ws := Cond.code y cc maxL ret :: ab_ws) B.pre w (List.mem_cons_of_mem _ hw)
  have hown : s.vm.findClass (ab_cn o) = some m.cls := by rw [← ho]; exact findClass_of_methodNamed B.named
  have F : ab_fx p s m (av.map (ab_v X)).toArray c X maxL cc (ab_cn o) := ⟨B.exec, B.bytes, hml, hown, hts, hK⟩
  have hA := h (fun b L S σ k n => ab_g p l e (ab_rm d mc ms) s m (av.map (ab_v X)).toArray below meth c (ab_Q below (av.map (ab_v X)).toArray s (ab_rm d mc ms) X post) X maxL (pcs.getD b 0) L S σ k n) (fun b blk hb L S σ k n hx => by
    have hc := ab_cks_of bs 0 hck b blk hb
    rw [Nat.zero_add] at hc
    refine ab_sound (cov := fun _ => true) hst F B.notSynchronized B.returns (fun hi => (name_of_methodNamed B.named B.method).1.trans (hini hi)) hr.2.2 (fun _ => hout) ?_ blk b _ L S σ k n hc hx
    intro pc i L σ k n _ hi hp H locs ls q ce rest hr2 hz hl hk hn hce hcv hcl
    exact vx_out (fun x hx => (hout x hx).elim) B.notSynchronized hce hcv hcl (fun t ht _ => ⟨i, σ, hi, rfl, hp, by rw [ht]; exact hr2⟩) hz hk hn)
  have hav2 := (Bool.and_eq_true _ _).mp hav
  have hlen : av.length ≤ maxL := Nat.le_of_ble_eq_true hav2.2
  have hsl : ∀ vs : List ab_V, vs.all ab_n1 = true → lg_sl (vs.map (ab_v X)) = vs.map (fun v => Slot.val (ab_v X v)) := by
    intro vs
    induction vs with
    | nil => intro _; rfl
    | cons v vs ih =>
      intro hv
      rw [List.all_cons, Bool.and_eq_true] at hv
      have := ih hv.2
      match v, hv.1 with
      | .inl z, _ => exact congrArg (List.cons _) this
      | .inr (.inl none), _ => exact congrArg (List.cons _) this
      | .inr (.inl (some _)), _ => exact congrArg (List.cons _) this
      | .inr (.inr (.inr _)), _ => exact congrArg (List.cons _) this
  have hle : (lg_sl (av.map (ab_v X))).length ≤ maxL := by rw [hsl av hav2.1, List.length_map]; exact hlen
  have hl := lv_entry (av.map (ab_v X)) (n := maxL) hle
  rw [lg_entry_eq]
  rw [hp0] at hA
  refine hA s.heap [] _ hr (fun z hz => by cases hz) ⟨hl.1, hl.2.1, by simp; omega, fun i v hv => ?_⟩ (Nat.zero_le _) (Nat.zero_le _)
  by_cases hi : i < av.length
  · rw [List.getElem?_append_left (by rw [List.length_map]; exact hi), List.getElem?_map] at hv
    obtain ⟨w, hw1, hw2⟩ := Option.map_eq_some_iff.mp hv
    cases hw2
    refine ⟨List.all_eq_true.mp hav2.1 _ (List.mem_of_getElem? hw1), ?_⟩
    rw [hsl av hav2.1, List.getElem?_toArray, List.getElem?_append_left (by rw [List.length_map]; exact hi), List.getElem?_map, hw1]
    rfl
  · rw [List.getElem?_append_right (by rw [List.length_map]; omega)] at hv
    have := List.getElem?_replicate (n := maxL - av.length) (a := (none : Option ab_V)) (i := i - (av.map some).length)
    rw [this] at hv
    split at hv <;> cases hv
-- ===== using contracts =====
theorem ab_call_mono {d mc ms : Nat} {y : MethodName} {av : List ab_V} {σ : ab_H} {post post' : ab_O → ab_H → Prop} (h : ab_call d mc ms y av σ post) (hp : ∀ r σ', post r σ' → post' r σ') : ab_call d mc ms y av σ post' := by
  intro l X hst
  obtain ⟨cc, maxL, ret, hw, hL, hM⟩ := h l X hst
  refine ⟨cc, maxL, ret, hw, hL, ?_⟩
  intro p e ha hc hk s m args below hf happ hP hK
  obtain ⟨n, o, h1, h2, h3, h4⟩ := hM p e ha hc hk s m args below hf happ hP hK
  refine ⟨n, o, h1, h2, h3, ?_⟩
  rcases h4 with ⟨⟨r, σ', hr, hp1, hh⟩, L, hF⟩ | ⟨q, ho, E, ce, Ls, ⟨i, σ', hi, hE, hp1, hh⟩, rest⟩
  · exact Or.inl ⟨⟨r, σ', hr, hp _ _ hp1, hh⟩, L, hF⟩
  · exact Or.inr ⟨q, ho, E, ce, Ls, ⟨i, σ', hi, hE, hp _ _ hp1, hh⟩, rest⟩
/-- it returns just this, with just that heap, and makes nothing -/
abbrev ab_ev (d : Nat) (y : MethodName) (av : List ab_V) (σ : ab_H) (r : Option ab_V) (σ' : ab_H) : Prop := ab_call d 0 0 y av σ (fun r' σ'' => r' = .inl r ∧ σ'' = σ')
theorem ab_inv_ev {d d' mc ms k n : Nat} {y : MethodName} {av : List ab_V} {σ σ' : ab_H} {r : Option ab_V} {po : Nat → Nat → ab_O → ab_H → Prop} (h : ab_ev d' y av σ r σ') (hd : d' < d) (hk : k ≤ mc) (hn : n ≤ ms) (hp : po k n (.inl r) σ') : ab_inv d mc ms k n y av σ po :=
  ⟨d', 0, 0, ab_call_mono h (fun r' σ'' q => by obtain ⟨rfl, rfl⟩ := q; exact hp), hd, hk, hn⟩
theorem ab_inv_of {d d' mc ms mc' ms' k n : Nat} {y : MethodName} {av : List ab_V} {σ : ab_H} {post : ab_O → ab_H → Prop} {po : Nat → Nat → ab_O → ab_H → Prop} (h : ab_call d' mc' ms' y av σ post) (hd : d' < d) (hk : k + mc' ≤ mc) (hn : n + ms' ≤ ms) (hp : ∀ r σ', post r σ' → po (k + mc') (n + ms') r σ') : ab_inv d mc ms k n y av σ po :=
  ⟨d', mc', ms', ab_call_mono h hp, hd, hk, hn⟩
