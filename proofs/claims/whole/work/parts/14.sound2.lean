theorem ab_pI_of {S : List ab_V} {f : Int → List ab_V → Prop} (h : ab_pI S f) : ∃ z S', S = .inl z :: S' ∧ f z S' := by
  match S, h with
  | .inl z :: S, h => exact ⟨z, S, rfl, h⟩
theorem ab_pK_of {S : List ab_V} {f : List ab_V → Prop} (h : ab_pK S f) : ∃ S', S = .inr (.inr (.inr 21)) :: S' ∧ f S' := by
  match S, h with
  | .inr (.inr (.inr q)) :: S, h =>
    obtain ⟨rfl, h⟩ := h
    exact ⟨S, rfl, h⟩
theorem ab_pR_of {S : List ab_V} {f : Nat → List ab_V → Prop} (h : ab_pR S f) : ∃ z S', S = .inr (.inl (some z)) :: S' ∧ f z S' := by
  match S, h with
  | .inr (.inl (some z)) :: S, h => exact ⟨z, S, rfl, h⟩
theorem ab_pJ_of {S : List ab_V} {f : Int → List ab_V → Prop} (h : ab_pJ S f) : ∃ z S', S = .inr (.inr (.inl z)) :: S' ∧ f z S' := by
  match S, h with
  | .inr (.inr (.inl z)) :: S, h => exact ⟨z, S, rfl, h⟩
theorem ab_pQ_of {S : List ab_V} {f : ab_V → List ab_V → Prop} (h : ab_pQ S f) : ∃ v S', S = v :: S' ∧ ab_isr v = true ∧ f v S' := by
  match S, h with
  | .inr (.inl z) :: S, h => exact ⟨_, S, rfl, rfl, h⟩
  | .inr (.inr (.inr z)) :: S, h => exact ⟨_, S, rfl, rfl, h⟩
theorem ab_p1_of {S : List ab_V} {f : ab_V → List ab_V → Prop} (h : ab_p1 S f) : ∃ v S', S = v :: S' ∧ ab_n1 v = true ∧ f v S' := by
  match S, h with
  | .inl z :: S, h => exact ⟨_, S, rfl, rfl, h⟩
  | .inr (.inl z) :: S, h => exact ⟨_, S, rfl, rfl, h⟩
  | .inr (.inr (.inr z)) :: S, h => exact ⟨_, S, rfl, rfl, h⟩
theorem ab_ldI_of {o : Option (Option ab_V)} {f : Int → Prop} (h : ab_ldI o f) : ∃ z, o = some (some (.inl z)) ∧ f z := by
  match o, h with
  | some (some (.inl z)), h => exact ⟨z, rfl, h⟩
theorem ab_ldR_of {o : Option (Option ab_V)} {f : ab_V → Prop} (h : ab_ldR o f) : ∃ v, o = some (some v) ∧ ab_isr v = true ∧ f v := by
  match o, h with
  | some (some (.inr (.inl z))), h => exact ⟨_, rfl, rfl, h⟩
  | some (some (.inr (.inr (.inr z)))), h => exact ⟨_, rfl, rfl, h⟩
theorem ab_x1_of {xs : List Nat} {f : Nat → Prop} (h : ab_x1 xs f) : ∃ t, xs = [t] ∧ f t := by
  match xs, h with
  | [t], h => exact ⟨t, rfl, h⟩
theorem ab_x2_of {xs : List Nat} {f : Nat → Nat → Prop} (h : ab_x2 xs f) : ∃ t u, xs = [t, u] ∧ f t u := by
  match xs, h with
  | [t, u], h => exact ⟨t, u, rfl, h⟩
theorem ab_xc_of {xs : List Nat} {f : Nat → List Nat → Prop} (h : ab_xc xs f) : ∃ t u, xs = t :: u ∧ f t u := by
  match xs, h with
  | t :: u, h => exact ⟨t, u, rfl, h⟩
theorem ab_on_of {α : Type} {o : Option α} {f : α → Prop} (h : ab_on o f) : ∃ x, o = some x ∧ f x := by
  match o, h with
  | some x, h => exact ⟨x, rfl, h⟩
theorem ab_fw_of {ty : FieldType} {v : ab_V} {K : Prop} (h : ab_fw ty v K) : ab_ft ty v ∧ K := by
  match ty, v, h with
  | .int, .inl _, h => exact ⟨trivial, h⟩
  | .boolean, .inl z, h => exact h
  | .object _, .inr (.inl _), h => exact ⟨trivial, h⟩
  | .array _, .inr (.inl _), h => exact ⟨trivial, h⟩
theorem ab_br_of {c : Jvm.ClassFile.Cond} {x y : Int} {A B : Prop} (h : ab_br c x y A B) : (ab_cmp c x y → A) ∧ (¬ ab_cmp c x y → B) := by
  cases c with
  | eq => exact h
  | ne => exact ⟨h.1, fun q => h.2 (Decidable.not_not.mp q)⟩
  | lt => exact ⟨h.1, fun q => h.2 (Int.not_lt.mp q)⟩
  | ge => exact ⟨h.1, fun q => h.2 (Int.not_le.mp q)⟩
  | gt => exact ⟨h.1, fun q => h.2 (Int.not_lt.mp q)⟩
  | le => exact ⟨h.1, fun q => h.2 (Int.not_le.mp q)⟩
theorem ab_tg_of {pcs : List Nat} {pc : Nat} {off : Int} {t : Nat} (h : ab_tg pcs pc off t = true) : (pc : Int) + off = ((pcs.getD t 0 : Nat) : Int) := by
  unfold ab_tg at h
  split at h
  · next q hq => rw [List.getD_eq_getElem?_getD, hq]; exact of_decide_eq_true h
  · cases h
theorem ab_FL_of {o i ci j : Nat} (h : (ab_FL.any fun q => decide (q.1 = o) && decide (q.2.1 = i) && decide (q.2.2.1 = ci) && decide (q.2.2.2.1 = j)) = true) : Cond.fieldLink (ab_cn o) i (ab_T ci j).1 (ab_T ci j).2.1 (ab_T ci j).2.2.1 ∈ ab_ws ∧ j < ab_N ci ∧ ci < 11 := by
  obtain ⟨q, hq, h⟩ := List.any_eq_true.mp h
  have h2 := List.all_eq_true.mp ab_FL_ok q hq
  simp only [Bool.and_eq_true, decide_eq_true_eq] at h h2
  obtain ⟨⟨⟨rfl, rfl⟩, rfl⟩, rfl⟩ := h
  exact ⟨ab_w_in h2.1.1, h2.1.2, h2.2⟩
theorem ab_ml_of {o i : Nat} {y : MethodName} {ci : Nat} (h : ab_ml o i y 0 ci = true) : Cond.methodLink (ab_cn o) i y ∈ ab_ws ∧ Cond.instanceMethod y ∈ ab_ws ∧ Cond.selects y.cls y y ∈ ab_ws ∧ Cond.initialized y.cls ∈ ab_ws ∧ y.cls = ab_cn ci ∧ ci < 11 ∧ y.cls ≠ "java/lang/invoke/MethodHandle" ∧ y.cls ≠ "java/lang/invoke/VarHandle" := by
  obtain ⟨q, hq, h⟩ := List.any_eq_true.mp h
  have h2 := List.all_eq_true.mp ab_ML_ok q hq
  obtain ⟨o', i', y', kd, ci', p1, p2, p3, p4⟩ := q
  simp only [Bool.and_eq_true, decide_eq_true_eq] at h
  obtain ⟨⟨⟨⟨rfl, rfl⟩, rfl⟩, rfl⟩, rfl⟩ := h
  simp only [ab_MLb, ab_pm, Bool.and_eq_true, decide_eq_true_eq] at h2
  obtain ⟨⟨⟨⟨hm, h1⟩, h4⟩, hc⟩, ⟨h2, h3⟩, hci⟩ := h2
  exact ⟨ab_w_in h1, ab_w_in h2, ab_w_in h3, ab_w_in h4, hc, hci, hm.1, hm.2⟩
theorem ab_ms_of {o i : Nat} {y : MethodName} (h : ab_ms o i y = true) : Cond.methodLink (ab_cn o) i y ∈ ab_ws ∧ Cond.static y ∈ ab_ws ∧ Cond.initialized y.cls ∈ ab_ws ∧ y.cls ≠ "java/lang/invoke/MethodHandle" ∧ y.cls ≠ "java/lang/invoke/VarHandle" := by
  obtain ⟨q, hq, h⟩ := List.any_eq_true.mp h
  have h2 := List.all_eq_true.mp ab_ML_ok q hq
  obtain ⟨o', i', y', kd, ci', p1, p2, p3, p4⟩ := q
  simp only [Bool.and_eq_true, decide_eq_true_eq] at h
  obtain ⟨⟨⟨rfl, rfl⟩, rfl⟩, rfl⟩ := h
  simp only [ab_MLb, ab_pm, Bool.and_eq_true, decide_eq_true_eq] at h2
  obtain ⟨⟨⟨⟨hm, h1⟩, h4⟩, hc⟩, h2⟩ := h2
  exact ⟨ab_w_in h1, ab_w_in h2, ab_w_in h4, hm.1, hm.2⟩
theorem ab_mi_of {o i : Nat} {y : MethodName} (h : ab_mi o i y = true) : (Cond.methodLink (ab_cn o) i y ∈ ab_ws ∨ (ab_cn o, i, y) ∈ ab_nest) ∧ Cond.instanceMethod y ∈ ab_ws ∧ Cond.initialized y.cls ∈ ab_ws ∧ y.name = "<init>" ∧ (parseMethodDescriptor y.desc).map (fun d => d.returnType) = some none ∧ y.cls ≠ "java/lang/invoke/MethodHandle" ∧ y.cls ≠ "java/lang/invoke/VarHandle" := by
  unfold ab_mi at h
  rcases Bool.or_eq_true _ _ |>.mp h with h | h
  · obtain ⟨q, hq, h⟩ := List.any_eq_true.mp h
    have h2 := List.all_eq_true.mp ab_ML_ok q hq
    obtain ⟨o', i', y', kd, ci', p1, p2, p3, p4⟩ := q
    simp only [Bool.and_eq_true, decide_eq_true_eq] at h
    obtain ⟨⟨⟨rfl, rfl⟩, rfl⟩, rfl⟩ := h
    simp only [ab_MLb, ab_pm, Bool.and_eq_true, decide_eq_true_eq] at h2
    obtain ⟨⟨⟨⟨hm, h1⟩, h4⟩, hc⟩, ⟨h2, h3⟩, h5⟩ := h2
    exact ⟨Or.inl (ab_w_in h1), ab_w_in h2, ab_w_in h4, h3, h5, hm.1, hm.2⟩
  · obtain ⟨q, hq, h⟩ := List.any_eq_true.mp h
    have h2 := List.all_eq_true.mp ab_NS_ok q hq
    simp only [Bool.and_eq_true, decide_eq_true_eq] at h
    obtain ⟨⟨rfl, rfl⟩, rfl⟩ := h
    simp only [ab_pm, Bool.and_eq_true, decide_eq_true_eq] at h2
    obtain ⟨⟨⟨⟨⟨hm, h1⟩, h4⟩, hn⟩, h3⟩, h5⟩ := h2
    exact ⟨Or.inr hn, ab_w_in h1, ab_w_in h4, h3, h5, hm.1, hm.2⟩
theorem ab_CL_of {o i ci : Nat} (h : (ab_CL.any fun q => decide (q.1 = o) && decide (q.2.1 = i) && decide (q.2.2.1 = ci)) = true) : Cond.classLink (ab_cn o) i (ab_cn ci) ∈ ab_ws ∧ ci < 11 := by
  obtain ⟨q, hq, h⟩ := List.any_eq_true.mp h
  have h2 := List.all_eq_true.mp ab_CL_ok q hq
  simp only [Bool.and_eq_true, decide_eq_true_eq] at h h2
  obtain ⟨⟨rfl, rfl⟩, rfl⟩ := h
  exact ⟨ab_w_in h2.1, h2.2⟩
theorem ab_CT_of {o i v : Nat} (h : (ab_CT.any fun q => decide (q.1 = o) && decide (q.2.1 = i) && decide (q.2.2.1 = v)) = true) : Cond.constant (ab_cn o) i (Int32.ofNat v) ∈ ab_ws := by
  obtain ⟨q, hq, h⟩ := List.any_eq_true.mp h
  have h2 := List.all_eq_true.mp ab_CT_ok q hq
  simp only [Bool.and_eq_true, decide_eq_true_eq] at h h2
  obtain ⟨⟨rfl, rfl⟩, rfl⟩ := h
  exact ab_w_in h2.1
theorem ab_c1_of {cc : ByteArray} {o : Nat} {ret : Option FieldType} {ini : Bool} {nL : Nat} {pcs : List Nat} {cov : Nat → Bool} {pc pc' : Nat} {x : ab_I} (hx : x.1 ≠ .athrow) (h : ab_c1 cc o ret ini nL pcs cov pc x = some pc') : ∃ len, decode cc pc = .ok (x.1, len) ∧ (len = ab_ln x.1 ∨ ab_ln x.1 = 0) ∧ ab_c2 o ret ini nL pcs cov pc x = true ∧ pc' = pc + len := by
  unfold ab_c1 at h
  rw [if_neg hx] at h
  split at h
  · next i len hd =>
    split at h
    · next hc =>
      obtain ⟨rfl, hl, hc⟩ := hc
      cases h
      exact ⟨len, hd, hl, hc, rfl⟩
    · cases h
  · cases h
