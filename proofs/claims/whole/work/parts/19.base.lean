-- ===== heaps that are alike where it counts =====
def hq_c (x y : ab_C) : Prop := x = y ∨ (∃ k N f g, x = .inr (.inl (k, N, f)) ∧ y = .inr (.inl (k, N, g)) ∧ ∀ j, j < N → f j = g j) ∨ (∃ k N f g, x = .inr (.inr (k, N, f)) ∧ y = .inr (.inr (k, N, g)) ∧ ∀ j, j < N → f j = g j)
/-- the first heap holds what the second one says -/
def hq_h (σ τ : ab_H) : Prop := σ.1 = τ.1 ∧ ∀ a y, τ.2 a = some y → ∃ x, σ.2 a = some x ∧ hq_c x y
theorem hq_arrV {c : ClassId} {N : Nat} {f g : Nat → Value} (h : ∀ j, j < N → f j = g j) : arrV c N f = arrV c N g := by
  unfold arrV
  congr 1
  apply Array.ext
  · simp
  · intro i h1 h2
    simp at h1 ⊢
    exact h i h1
theorem hq_hr {X : ab_X} {σ τ : ab_H} {H : Heap} (h : hq_h σ τ) (hr : ab_hr X σ H) : ab_hr X τ H := by
  refine ⟨by rw [← h.1]; exact hr.1, fun a y hy => ?_, hr.2.2⟩
  obtain ⟨x, hx, hxy⟩ := h.2 a y hy
  have h1 := hr.2.1 a x hx
  rcases hxy with rfl | ⟨k, N, f, g, rfl, rfl, hfg⟩ | ⟨k, N, f, g, rfl, rfl, hfg⟩
  · exact h1
  · have h2 : H[X.1 + a]? = some (vp_cell (X.2.2.1 k) (N, ab_na k f)) := h1
    show H[X.1 + a]? = some (vp_cell (X.2.2.1 k) (N, ab_na k g))
    rw [h2]
    congr 1
    unfold ab_na
    by_cases hk : k = 2
    · rw [if_pos hk, if_pos hk, vp_cell_l, vp_cell_l]
      exact hq_arrV (fun j hj => by rw [hfg j hj])
    · rw [if_neg hk, if_neg hk, vp_cell_i, vp_cell_i]
      exact hq_arrV (fun j hj => by rw [hfg j hj])
  · have h2 : H[X.1 + a]? = some (vp_cell (X.2.2.2.1 k) (N, .inr (.inr (.inr (.inr fun j => (f j).map (X.1 + ·)))))) := h1
    show H[X.1 + a]? = some (vp_cell (X.2.2.2.1 k) (N, .inr (.inr (.inr (.inr fun j => (g j).map (X.1 + ·))))))
    rw [h2, vp_cell_q, vp_cell_q]
    congr 1
    exact hq_arrV (fun j hj => by rw [hfg j hj])
/-- a contract's end may be told by a heap that is alike -/
theorem hq_call {d mc ms : Nat} {y : MethodName} {av : List ab_V} {σ : ab_H} {post post' : ab_O → ab_H → Prop} (h : ab_call d mc ms y av σ post) (hp : ∀ r σ', post r σ' → ∃ τ, hq_h σ' τ ∧ post' r τ) : ab_call d mc ms y av σ post' := by
  intro l X hst
  obtain ⟨cc, maxL, ret, hw, hL, hM⟩ := h l X hst
  refine ⟨cc, maxL, ret, hw, hL, ?_⟩
  intro p e ha hc hk s m args below hf happ hP hK
  obtain ⟨n, o, h1, h2, h3, h4⟩ := hM p e ha hc hk s m args below hf happ hP hK
  refine ⟨n, o, h1, h2, h3, ?_⟩
  rcases h4 with ⟨⟨r, σ', hr, hp1, hh⟩, L, hF⟩ | ⟨q, ho, E, ce, Ls, ⟨i, σ', hi, hE, hp1, hh⟩, rest⟩
  · obtain ⟨τ, hq, hp2⟩ := hp _ _ hp1
    exact Or.inl ⟨⟨r, τ, hr, hp2, hq_hr hq hh⟩, L, hF⟩
  · obtain ⟨τ, hq, hp2⟩ := hp _ _ hp1
    exact Or.inr ⟨q, ho, E, ce, Ls, ⟨i, τ, hi, hE, hp2, hq_hr hq hh⟩, rest⟩
/-- and so may its start -/
theorem hq_from {d mc ms : Nat} {y : MethodName} {av : List ab_V} {σ τ : ab_H} {post : ab_O → ab_H → Prop} (hq : hq_h σ τ) (h : ab_call d mc ms y av τ post) : ab_call d mc ms y av σ post := by
  intro l X hst
  obtain ⟨cc, maxL, ret, hw, hL, hM⟩ := h l X hst
  refine ⟨cc, maxL, ret, hw, hL, ?_⟩
  intro p e ha hc hk s m args below hf happ hP hK
  exact hM p e ha hc hk s m args below hf happ ⟨hP.1, hq_hr hq hP.2.1, hP.2.2⟩ hK
theorem hq_rf (σ : ab_H) : hq_h σ σ := ⟨rfl, fun _ y h => ⟨y, h, Or.inl rfl⟩⟩
/-- one array's contents told otherwise -/
theorem hq_st {σ : ab_H} {a k N : Nat} {f g : Nat → Int} (h : ∀ j, j < N → f j = g j) : hq_h (ab_st σ a (.inr (.inl (k, N, f)))) (ab_st σ a (.inr (.inl (k, N, g)))) := by
  refine ⟨rfl, fun b y hy => ?_⟩
  by_cases e : b = a
  · subst e
    rw [show (ab_st σ b (.inr (.inl (k, N, g)))).2 b = some (.inr (.inl (k, N, g))) from ab_up_s] at hy
    cases hy
    exact ⟨_, ab_up_s, Or.inr (Or.inl ⟨k, N, f, g, rfl, rfl, h⟩)⟩
  · rw [show (ab_st σ a (.inr (.inl (k, N, g)))).2 b = σ.2 b from ab_up_n e] at hy
    exact ⟨y, (ab_up_n e).trans hy, Or.inl rfl⟩
theorem hq_ev {d : Nat} {y : MethodName} {av : List ab_V} {σ σ' τ : ab_H} {r : Option ab_V} (h : ab_ev d y av σ r σ') (hq : hq_h σ' τ) : ab_ev d y av σ r τ :=
  hq_call h (fun r' σ'' q => by obtain ⟨rfl, rfl⟩ := q; exact ⟨τ, hq, rfl, rfl⟩)
-- ===== reading a heap that was written =====
theorem st_s {σ : ab_H} {a : Nat} {x : ab_C} : (ab_st σ a x).2 a = some x := ab_up_s
theorem st_n {σ : ab_H} {a b : Nat} {x : ab_C} (h : b ≠ a) : (ab_st σ a x).2 b = σ.2 b := ab_up_n h
theorem st_e {σ : ab_H} {a b : Nat} {x y : ab_C} (h : b ≠ a) (hb : σ.2 b = some y) : (ab_st σ a x).2 b = some y := (ab_up_n h).trans hb
theorem nw_s {σ : ab_H} {x : ab_C} : (ab_nw σ x).2 σ.1 = some x := ab_up_s
theorem nw_e {σ : ab_H} {b : Nat} {x y : ab_C} (h : b ≠ σ.1) (hb : σ.2 b = some y) : (ab_nw σ x).2 b = some y := (ab_up_n h).trans hb
theorem up_up {α : Type} (f : Nat → α) (k : Nat) (x y : α) : ab_up (ab_up f k x) k y = ab_up f k y := by
  funext j
  unfold ab_up
  split <;> rfl
theorem st_st {σ : ab_H} {a : Nat} {x y : ab_C} : ab_st (ab_st σ a x) a y = ab_st σ a y := by
  unfold ab_st
  rw [up_up]
theorem st_id {σ : ab_H} {a : Nat} {x : ab_C} (h : σ.2 a = some x) : ab_st σ a x = σ := by
  obtain ⟨n, f⟩ := σ
  show (n, ab_up f a (some x)) = (n, f)
  congr 1
  funext j
  by_cases e : j = a
  · subst e; rw [ab_up_s]; exact h.symm
  · rw [ab_up_n e]
theorem rR {a : Int} (h1 : -2147483648 ≤ a) (h2 : a < 2147483648) : ab_R a := ⟨h1, h2⟩
def b2i (b : Bool) : Int := if b then 1 else 0
theorem b2i_R (b : Bool) : ab_R (b2i b) := by cases b <;> exact rR (by decide) (by decide)
theorem b2i_01 (b : Bool) : b2i b = 0 ∨ b2i b = 1 := by cases b <;> simp [b2i]
theorem b2i_0 {b : Bool} (h : b2i b = 0) : b = false := by cases b <;> simp [b2i] at h ⊢
theorem b2i_1 {b : Bool} (h : b2i b ≠ 0) : b = true := by cases b <;> simp [b2i] at h ⊢
-- ===== bits of natural numbers =====
theorem nb_of {n : Nat} (h : n < 2147483648) : (Int32.ofInt (n : Int)).toBitVec = BitVec.ofNat 32 n := by
  show (Int32.ofNat n).toBitVec = _
  rfl
theorem nb_int {x : Int32} {n : Nat} (h : n < 2147483648) (hx : x.toBitVec = BitVec.ofNat 32 n) : x.toInt = n := by
  have : x = Int32.ofNat n := by
    apply Int32.toBitVec_inj.mp
    rw [hx]; rfl
  rw [this]
  exact nI_toInt (n := n) (by omega)
theorem nb_and {a b : Nat} (ha : a < 2147483648) (hb : b < 2147483648) : ab_and a b = ((a &&& b : Nat) : Int) := by
  unfold ab_and
  refine nb_int (Nat.lt_of_le_of_lt Nat.and_le_left ha) ?_
  rw [Int32.toBitVec_and, nb_of ha, nb_of hb, BitVec.ofNat_and]
theorem nb_or {a b : Nat} (ha : a < 2147483648) (hb : b < 2147483648) : ab_or a b = ((a ||| b : Nat) : Int) := by
  unfold ab_or
  refine nb_int (Nat.or_lt_two_pow (n := 31) ha hb) ?_
  rw [Int32.toBitVec_or, nb_of ha, nb_of hb, BitVec.ofNat_or]
theorem nb_xor {a b : Nat} (ha : a < 2147483648) (hb : b < 2147483648) : ab_xor a b = ((a ^^^ b : Nat) : Int) := by
  unfold ab_xor
  refine nb_int (Nat.xor_lt_two_pow (n := 31) ha hb) ?_
  rw [Int32.toBitVec_xor, nb_of ha, nb_of hb, BitVec.ofNat_xor]
