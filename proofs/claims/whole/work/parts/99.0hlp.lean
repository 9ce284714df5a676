-- ===== the law's helpers: a call of the class, its refusals told by numbers =====
abbrev lgc (g : Nat → Int) : ab_C := .inr (.inl (2, 1, g))
/-- how a helper ends: its answer is laid where the law finds it -/
def hlP (σ : ab_H) (S : St) (r : Nat → Nat) (e : Nat → Int) (o : (Int × St) ⊕ Nat) (z : ab_O) (σ' : ab_H) : Prop := σ.1 ≤ σ'.1 ∧ (∀ a, 57 ≤ a → a ≤ 318 → σ'.2 a = σ.2 a) ∧ ∃ g : Nat → Int, σ'.2 319 = some (lgc g) ∧ match o with
  | .inl (x, S') => z = .inl (some (.inl 0)) ∧ g 0 = ab_wr x ∧ CS σ' S' r
  | .inr i => z = .inl (some (.inl (e i))) ∧ CS σ' S (ab_up r i (r i + 1))
theorem ab_callH_mono {d mc ms : Nat} {y : MethodName} {av : List ab_V} {σ : ab_H} {post post' : ab_O → ab_H → Prop} (h : ab_callH d mc ms y av σ post) (hp : ∀ r σ', post r σ' → post' r σ') : ab_callH d mc ms y av σ post' := by
  intro l X hst
  obtain ⟨cc, maxL, ret, hh, hw, hL, hM⟩ := h l X hst
  refine ⟨cc, maxL, ret, hh, hw, hL, ?_⟩
  intro p e ha hc hk s m args below hf happ hP hK
  obtain ⟨n, o, h1, h2, h3, h4⟩ := hM p e ha hc hk s m args below hf happ hP hK
  refine ⟨n, o, h1, h2, h3, ?_⟩
  rcases h4 with ⟨⟨r, σ', hr, hp1, hh⟩, L, hF⟩ | ⟨q, ho, E, ce, Ls, ⟨i, σ', hi, hE, hp1, hh⟩, rest⟩
  · exact Or.inl ⟨⟨r, σ', hr, hp _ _ hp1, hh⟩, L, hF⟩
  · exact Or.inr ⟨q, ho, E, ce, Ls, ⟨i, σ', hi, hE, hp _ _ hp1, hh⟩, rest⟩
theorem ab_invH_of {d d' mc ms mc' ms' k n : Nat} {y : MethodName} {av : List ab_V} {σ : ab_H} {post : ab_O → ab_H → Prop} {po : Nat → Nat → ab_O → ab_H → Prop} (h : ab_callH d' mc' ms' y av σ post) (hd : d' < d) (hk : k + mc' ≤ mc) (hn : n + ms' ≤ ms) (hp : ∀ r σ', post r σ' → po (k + mc') (n + ms') r σ') : ab_invH d mc ms k n y av σ po :=
  ⟨d', mc', ms', ab_callH_mono h hp, hd, hk, hn⟩
theorem stq_i {S : St} {o : Int ⊕ Nat} {i : Nat} (h : stq S o = .inr i) : o = .inr i := by
  cases o with
  | inl x => cases h
  | inr j => cases h; rfl
theorem stq_l {S S' : St} {o : Int ⊕ Nat} {x : Int} (h : stq S o = .inl (x, S')) : o = .inl x ∧ S' = S := by
  cases o with
  | inl y => cases h; exact ⟨rfl, rfl⟩
  | inr j => cases h
section Hlp
variable {σ : ab_H} {cc rows : Nat} {K : Nat → CT} {va : Nat → Nat → Nat} {ad : Nat → Nat} {R : Nat → V1} {f : Nat → Int} {n : Nat} {pl : Int} {c : C3} {r : Nat → Nat}
theorem on_add {x1 x2 x3 x4 : Int} {i9 : Nat} (h : sg_add cc rows K va R f n pl c x1 x2 x3 x4 = .inr i9) : i9 = 1 ∨ i9 = 2 := by
  unfold sg_add at h
  repeat' split at h
  all_goals first | (cases h; done) | (cases h; omega)
theorem on_ask {k x : Int} {i9 : Nat} (h : sg_ask cc rows K va R f n c k x = .inr i9) : i9 = 0 ∨ i9 = 1 := by
  unfold sg_ask at h
  repeat' split at h
  all_goals first | (cases h; done) | (cases h; omega)
theorem on_base {k p : Int} {i9 : Nat} (h : sp_base cc K k p = .inr i9) : i9 = 0 := by
  unfold sp_base at h
  repeat' split at h
  all_goals first | (cases h; done) | (cases h; omega)
theorem on_column {x : Int} {i9 : Nat} (h : sg_column cc rows K va R f n c x = .inr i9) : i9 = 1 ∨ i9 = 2 := by
  unfold sg_column at h
  repeat' split at h
  all_goals first | (cases h; done) | (cases h; omega)
theorem on_columnOf {k what : Int} {i9 : Nat} (h : sp_columnOf cc rows K va k what = .inr i9) : i9 = 0 ∨ i9 = 1 := by
  unfold sp_columnOf at h
  repeat' split at h
  all_goals first | (cases h; done) | (cases h; omega)
theorem on_cost {what : Int} {i9 : Nat} (h : sp_cost c what = .inr i9) : i9 = 1 := by
  unfold sp_cost at h
  repeat' split at h
  all_goals first | (cases h; done) | (cases h; omega)
theorem on_delete {row : Int} {i9 : Nat} (h : sg_delete cc rows K va R f n pl c row = .inr i9) : i9 = 0 := by
  unfold sg_delete at h
  repeat' split at h
  all_goals first | (cases h; done) | (cases h; omega)
theorem on_differ {a b : Int} {i9 : Nat} (h : sp_differ R a b = .inr i9) : i9 = 0 := by
  unfold sp_differ at h
  repeat' split at h
  all_goals first | (cases h; done) | (cases h; omega)
theorem on_foretold {i k x what : Int} {i9 : Nat} (h : sp_foretold cc rows K va R i k x what = .inr i9) : i9 = 0 ∨ i9 = 1 := by
  unfold sp_foretold at h
  repeat' split at h
  all_goals first | (cases h; done) | (cases h; omega)
theorem on_group {k g what : Int} {i9 : Nat} (h : sp_group rows R k g what = .inr i9) : i9 = 0 ∨ i9 = 1 := by
  unfold sp_group at h
  repeat' split at h
  all_goals first | (cases h; done) | (cases h; omega)
theorem on_has {k row : Int} {i9 : Nat} (h : sp_has rows R k row = .inr i9) : i9 = 0 := by
  unfold sp_has at h
  repeat' split at h
  all_goals first | (cases h; done) | (cases h; omega)
theorem on_heaviest {k what : Int} {i9 : Nat} (h : sp_heaviest cc rows K va k what = .inr i9) : i9 = 0 ∨ i9 = 1 := by
  unfold sp_heaviest at h
  repeat' split at h
  all_goals first | (cases h; done) | (cases h; omega)
theorem on_index {k p j what : Int} {i9 : Nat} (h : sp_index cc rows K va k p j what = .inr i9) : i9 = 0 ∨ i9 = 1 := by
  unfold sp_index at h
  repeat' split at h
  all_goals first | (cases h; done) | (cases h; omega)
theorem on_indexWord {k p j w : Int} {i9 : Nat} (h : sp_indexWord cc rows K va k p j w = .inr i9) : i9 = 0 := by
  unfold sp_indexWord at h
  repeat' split at h
  all_goals first | (cases h; done) | (cases h; omega)
theorem on_kth {k res x : Int} {i9 : Nat} (h : sp_kth cc rows va R k res x = .inr i9) : i9 = 0 := by
  unfold sp_kth at h
  repeat' split at h
  all_goals first | (cases h; done) | (cases h; omega)
theorem on_load {k x : Int} {i9 : Nat} (h : sg_load cc rows K va R f n c k x = .inr i9) : i9 = 0 ∨ i9 = 1 := by
  unfold sg_load at h
  repeat' split at h
  all_goals first | (cases h; done) | (cases h; omega)
theorem on_logic {kind a b to : Int} {i9 : Nat} (h : sg_logic cc rows K va R f n pl c kind a b to = .inr i9) : i9 = 0 ∨ i9 = 1 := by
  unfold sg_logic at h
  repeat' split at h
  all_goals first | (cases h; done) | (cases h; omega)
theorem on_many {m x1 x2 x3 x4 : Int} {i9 : Nat} (h : sg_many cc rows K va R f n pl c m x1 x2 x3 x4 = .inr i9) : i9 = 1 ∨ i9 = 2 := by
  unfold sg_many at h
  repeat' split at h
  all_goals first | (cases h; done) | (cases h; omega)
theorem on_mode {k res what : Int} {i9 : Nat} (h : sp_mode cc rows va R k res what = .inr i9) : i9 = 0 ∨ i9 = 1 := by
  unfold sp_mode at h
  repeat' split at h
  all_goals first | (cases h; done) | (cases h; omega)
theorem on_next {k row : Int} {i9 : Nat} (h : sp_next rows R k row = .inr i9) : i9 = 0 ∨ i9 = 1 := by
  unfold sp_next at h
  repeat' split at h
  all_goals first | (cases h; done) | (cases h; omega)
theorem on_ordered {a b : Int} {i9 : Nat} (h : sp_ordered cc rows K va a b = .inr i9) : i9 = 0 := by
  unfold sp_ordered at h
  repeat' split at h
  all_goals first | (cases h; done) | (cases h; omega)
theorem on_rank {k row : Int} {i9 : Nat} (h : sp_rank rows R k row = .inr i9) : i9 = 0 ∨ i9 = 1 := by
  unfold sp_rank at h
  repeat' split at h
  all_goals first | (cases h; done) | (cases h; omega)
theorem on_readings {k what : Int} {i9 : Nat} (h : sp_readings cc K k what = .inr i9) : i9 = 0 ∨ i9 = 1 := by
  unfold sp_readings at h
  repeat' split at h
  all_goals first | (cases h; done) | (cases h; omega)
theorem on_result {k what : Int} {i9 : Nat} (h : sp_result rows R k what = .inr i9) : i9 = 0 ∨ i9 = 1 := by
  unfold sp_result at h
  repeat' split at h
  all_goals first | (cases h; done) | (cases h; omega)
theorem on_select {k x : Int} {i9 : Nat} (h : sp_select R k x = .inr i9) : i9 = 0 := by
  unfold sp_select at h
  repeat' split at h
  all_goals first | (cases h; done) | (cases h; omega)
theorem on_span {k res lo hi : Int} {i9 : Nat} (h : sp_span cc rows va R k res lo hi = .inr i9) : i9 = 0 ∨ i9 = 1 := by
  unfold sp_span at h
  repeat' split at h
  all_goals first | (cases h; done) | (cases h; omega)
theorem on_sum {k res : Int} {i9 : Nat} (h : sp_sum cc rows va R k res = .inr i9) : i9 = 0 := by
  unfold sp_sum at h
  repeat' split at h
  all_goals first | (cases h; done) | (cases h; omega)
theorem on_swift {card bud what : Int} {i9 : Nat} (h : sp_swift card bud what = .inr i9) : i9 = 1 := by
  unfold sp_swift at h
  repeat' split at h
  all_goals first | (cases h; done) | (cases h; omega)
theorem on_thrift {card k what : Int} {i9 : Nat} (h : sp_thrift card k what = .inr i9) : i9 = 1 := by
  unfold sp_thrift at h
  repeat' split at h
  all_goals first | (cases h; done) | (cases h; omega)
theorem on_told {what : Int} {i9 : Nat} (h : sp_told cc rows K va R n what = .inr i9) : i9 = 1 := by
  unfold sp_told at h
  repeat' split at h
  all_goals first | (cases h; done) | (cases h; omega)
theorem on_turn {k : Int} {i9 : Nat} (h : sg_turn cc rows K va R f n pl c k = .inr i9) : i9 = 0 := by
  unfold sg_turn at h
  repeat' split at h
  all_goals first | (cases h; done) | (cases h; omega)
theorem on_unlike {k res : Int} {i9 : Nat} (h : sp_unlike cc rows va R k res = .inr i9) : i9 = 0 := by
  unfold sp_unlike at h
  repeat' split at h
  all_goals first | (cases h; done) | (cases h; omega)
theorem on_value {k row : Int} {i9 : Nat} (h : sp_value cc rows va k row = .inr i9) : i9 = 0 := by
  unfold sp_value at h
  repeat' split at h
  all_goals first | (cases h; done) | (cases h; omega)
theorem on_widest {k : Int} {i9 : Nat} (h : sp_widest rows R k = .inr i9) : i9 = 0 := by
  unfold sp_widest at h
  repeat' split at h
  all_goals first | (cases h; done) | (cases h; omega)
theorem on_within {a b : Int} {i9 : Nat} (h : sp_within R a b = .inr i9) : i9 = 0 := by
  unfold sp_within at h
  repeat' split at h
  all_goals first | (cases h; done) | (cases h; omega)
theorem on_word {k w : Int} {i9 : Nat} (h : sp_word rows R k w = .inr i9) : i9 = 0 := by
  unfold sp_word at h
  repeat' split at h
  all_goals first | (cases h; done) | (cases h; omega)
theorem on_would {kind a b what : Int} {i9 : Nat} (h : sp_would rows R kind a b what = .inr i9) : i9 = 0 ∨ i9 = 1 := by
  unfold sp_would at h
  repeat' split at h
  all_goals first | (cases h; done) | (cases h; omega)
theorem bo_has {k row : Int} {x : Int} (h : sp_has rows R k row = .inl x) : x = 0 ∨ x = 1 := by
  unfold sp_has at h
  repeat' split at h
  all_goals first | (cases h; done) | (cases h; exact b2i_01 _) | (cases h; omega)
theorem bo_within {a b : Int} {x : Int} (h : sp_within R a b = .inl x) : x = 0 ∨ x = 1 := by
  unfold sp_within at h
  repeat' split at h
  all_goals first | (cases h; done) | (cases h; exact b2i_01 _) | (cases h; omega)
set_option maxRecDepth 100000 in
set_option maxHeartbeats 1000000 in
theorem h_add (hI : CI σ cc rows K va ad R f n pl c r) (x1 x2 x3 x4 : Int) (hx1 : ab_R x1) (hx2 : ab_R x2) (hx3 : ab_R x3) (hx4 : ab_R x4){u9 : Nat → Int} (h9 : σ.2 319 = some (lgc u9)) : ab_callH 9 2 12 yL_add [rf 0, .inl x1, .inl x2, .inl x3, .inl x4, rf 319] σ (hlP σ (cc, rows, K, va, R, f, n, pl, c) r (fun i => (i : Int)) (sg_add cc rows K va R f n pl c x1 x2 x3 x4)) := by
  have hs := hI.s
  have h0 := hI.1
  have hc := f_add hI x1 x2 x3 x4 hx1 hx2 hx3 hx4
  generalize ho : (sg_add cc rows K va R f n pl c x1 x2 x3 x4) = o at hc
  have hi : ∀ i, o = .inr i → i = 1 ∨ i = 2 := fun i h => by
    subst h
    exact on_add ho
  clear ho
  rcases o with ⟨x, S1⟩ | i
  · refine eL_add rfl (fun At hA => ?_)
    refine hA 0 _ rfl _ _ _ _ _ ?_
    refine Exists.intro _ (And.intro (by first | assumption | exact st_s | exact st_e (by decide) (by assumption) | exact st_e (by omega) (by assumption) | exact st_e (by decide) st_s | exact st_e (by omega) st_s | exact st_e (by decide) (st_e (by decide) (by assumption)) | exact st_e (by omega) (st_e (by omega) (by assumption))) (And.intro rfl (ab_inv_of hc (by first | decide | omega) (by omega) (by omega) ?_)))
    intro z σ' hp
    obtain ⟨hg, hp⟩ := hp
    have h9' : σ'.2 319 = some (lgc u9) := (hg.2 319 (by omega) (by unfold fcA; omega)).trans h9
    have hm : ∀ a, 57 ≤ a → a ≤ 318 → σ'.2 a = σ.2 a := fun a h1 h2 => hg.2 a (by omega) (by unfold fcA; omega)
    have hs' := hg.1
    obtain ⟨rfl, hC⟩ := hp
    have fin : ∀ (v : Int) (L : ab_L) (k n : Nat), v = ab_wr x → At 5 L [] (ab_st σ' 319 (lgc (ab_up u9 0 v))) k n := fun v L k n hv => by
      refine hA 5 _ rfl _ _ _ _ _ ?_
      refine ⟨hs', fun a h1 h2 => (st_n (by omega)).trans (hm a h1 h2), _, st_s, rfl, ab_up_s.trans hv, hC.keep (A := fun a => a = 319) ⟨Nat.le_refl _, fun a _ h2 => st_n h2⟩ (fun a h => by omega)⟩
    refine Exists.intro _ (Exists.intro _ (And.intro (by first | assumption | exact st_s | exact st_e (by decide) (by assumption) | exact st_e (by omega) (by assumption) | exact st_e (by decide) st_s | exact st_e (by omega) st_s | exact st_e (by decide) (st_e (by decide) (by assumption)) | exact st_e (by omega) (st_e (by omega) (by assumption))) (And.intro (by first | omega | (simp only [Int.toNat_natCast]; omega)) ?_)))
    exact fin _ _ _ _ rfl
  · rcases hi i rfl with rfl | rfl
    · refine eL_add rfl (fun At hA => ?_)
      refine hA 0 _ rfl _ _ _ _ _ ?_
      refine Exists.intro _ (And.intro (by first | assumption | exact st_s | exact st_e (by decide) (by assumption) | exact st_e (by omega) (by assumption) | exact st_e (by decide) st_s | exact st_e (by omega) st_s | exact st_e (by decide) (st_e (by decide) (by assumption)) | exact st_e (by omega) (st_e (by omega) (by assumption))) (And.intro rfl (ab_inv_of hc (by first | decide | omega) (by omega) (by omega) ?_)))
      intro z σ' hp
      obtain ⟨hg, hp⟩ := hp
      have h9' : σ'.2 319 = some (lgc u9) := (hg.2 319 (by omega) (by unfold fcA; omega)).trans h9
      have hm : ∀ a, 57 ≤ a → a ≤ 318 → σ'.2 a = σ.2 a := fun a h1 h2 => hg.2 a (by omega) (by unfold fcA; omega)
      have hs' := hg.1
      obtain ⟨rfl, hC⟩ := hp
      refine ⟨(1, 13, 17, 2, 6), by decide, rfl, ?_⟩
      refine hA 2 _ rfl _ _ _ _ _ ?_
      exact ⟨hs', hm, u9, h9', rfl, hC⟩
    · refine eL_add rfl (fun At hA => ?_)
      refine hA 0 _ rfl _ _ _ _ _ ?_
      refine Exists.intro _ (And.intro (by first | assumption | exact st_s | exact st_e (by decide) (by assumption) | exact st_e (by omega) (by assumption) | exact st_e (by decide) st_s | exact st_e (by omega) st_s | exact st_e (by decide) (st_e (by decide) (by assumption)) | exact st_e (by omega) (st_e (by omega) (by assumption))) (And.intro rfl (ab_inv_of hc (by first | decide | omega) (by omega) (by omega) ?_)))
      intro z σ' hp
      obtain ⟨hg, hp⟩ := hp
      have h9' : σ'.2 319 = some (lgc u9) := (hg.2 319 (by omega) (by unfold fcA; omega)).trans h9
      have hm : ∀ a, 57 ≤ a → a ≤ 318 → σ'.2 a = σ.2 a := fun a h1 h2 => hg.2 a (by omega) (by unfold fcA; omega)
      have hs' := hg.1
      obtain ⟨rfl, hC⟩ := hp
      refine ⟨(2, 15, 21, 4, 6), by decide, rfl, ?_⟩
      refine hA 4 _ rfl _ _ _ _ _ ?_
      exact ⟨hs', hm, u9, h9', rfl, hC⟩
set_option maxRecDepth 100000 in
set_option maxHeartbeats 1000000 in
theorem h_has (hI : CI σ cc rows K va ad R f n pl c r) (k row : Int) (hk : ab_R k) (hrow : ab_R row){u9 : Nat → Int} (h9 : σ.2 319 = some (lgc u9)) : ab_callH 11 4 24 yL_has [rf 0, .inl k, .inl row, rf 319] σ (hlP σ (cc, rows, K, va, R, f, n, pl, c) r (fun i => (i : Int) + 1) (stq (cc, rows, K, va, R, f, n, pl, c) (sp_has rows R k row))) := by
  have hs := hI.s
  have h0 := hI.1
  have hc := ab_call_mono (f_has hI k row hk hrow) (fun _ _ h => pure_st h)
  generalize ho : (stq (cc, rows, K, va, R, f, n, pl, c) (sp_has rows R k row)) = o at hc
  have hi : ∀ i, o = .inr i → i = 0 := fun i h => by
    subst h
    exact on_has (stq_i ho)
  have hb : ∀ x S', o = .inl (x, S') → x = 0 ∨ x = 1 := fun x S' h => by
    subst h
    exact bo_has (stq_l ho).1
  clear ho
  rcases o with ⟨x, S1⟩ | i
  · refine eL_has rfl (fun At hA => ?_)
    refine hA 0 _ rfl _ _ _ _ _ ?_
    refine Exists.intro _ (And.intro (by first | assumption | exact st_s | exact st_e (by decide) (by assumption) | exact st_e (by omega) (by assumption) | exact st_e (by decide) st_s | exact st_e (by omega) st_s | exact st_e (by decide) (st_e (by decide) (by assumption)) | exact st_e (by omega) (st_e (by omega) (by assumption))) (And.intro rfl (ab_inv_of hc (by first | decide | omega) (by omega) (by omega) ?_)))
    intro z σ' hp
    obtain ⟨hg, hp⟩ := hp
    have h9' : σ'.2 319 = some (lgc u9) := (hg.2 319 (by omega) (by unfold fcA; omega)).trans h9
    have hm : ∀ a, 57 ≤ a → a ≤ 318 → σ'.2 a = σ.2 a := fun a h1 h2 => hg.2 a (by omega) (by unfold fcA; omega)
    have hs' := hg.1
    obtain ⟨rfl, hC⟩ := hp
    have fin : ∀ (v : Int) (L : ab_L) (k n : Nat), v = ab_wr x → At 6 L [] (ab_st σ' 319 (lgc (ab_up u9 0 v))) k n := fun v L k n hv => by
      refine hA 6 _ rfl _ _ _ _ _ ?_
      refine ⟨hs', fun a h1 h2 => (st_n (by omega)).trans (hm a h1 h2), _, st_s, rfl, ab_up_s.trans hv, hC.keep (A := fun a => a = 319) ⟨Nat.le_refl _, fun a _ h2 => st_n h2⟩ (fun a h => by omega)⟩
    rcases hb x S1 rfl with rfl | rfl
    · refine And.intro (by first | assumption | exact b2i_R _ | exact rR (by omega) (by omega) | exact rR (by simp only [Int.toNat_natCast]; omega) (by simp only [Int.toNat_natCast]; omega)) (And.intro (fun q => ?_) (fun q => ?_))
      · refine hA 2 _ rfl _ _ _ _ _ ?_
        refine hA 3 _ rfl _ _ _ _ _ ?_
        refine Exists.intro _ (Exists.intro _ (And.intro (by first | assumption | exact st_s | exact st_e (by decide) (by assumption) | exact st_e (by omega) (by assumption) | exact st_e (by decide) st_s | exact st_e (by omega) st_s | exact st_e (by decide) (st_e (by decide) (by assumption)) | exact st_e (by omega) (st_e (by omega) (by assumption))) (And.intro (by first | omega | (simp only [Int.toNat_natCast]; omega)) ?_)))
        exact fin _ _ _ _ (by decide)
      · exact absurd rfl q
    · refine And.intro (by first | assumption | exact b2i_R _ | exact rR (by omega) (by omega) | exact rR (by simp only [Int.toNat_natCast]; omega) (by simp only [Int.toNat_natCast]; omega)) (And.intro (fun q => ?_) (fun q => ?_))
      · exact absurd (show (1 : Int) = 0 from q) (by decide)
      · refine hA 1 _ rfl _ _ _ _ _ ?_
        refine hA 3 _ rfl _ _ _ _ _ ?_
        refine Exists.intro _ (Exists.intro _ (And.intro (by first | assumption | exact st_s | exact st_e (by decide) (by assumption) | exact st_e (by omega) (by assumption) | exact st_e (by decide) st_s | exact st_e (by omega) st_s | exact st_e (by decide) (st_e (by decide) (by assumption)) | exact st_e (by omega) (st_e (by omega) (by assumption))) (And.intro (by first | omega | (simp only [Int.toNat_natCast]; omega)) ?_)))
        exact fin _ _ _ _ (by decide)
  · obtain rfl := hi i rfl
    · refine eL_has rfl (fun At hA => ?_)
      refine hA 0 _ rfl _ _ _ _ _ ?_
      refine Exists.intro _ (And.intro (by first | assumption | exact st_s | exact st_e (by decide) (by assumption) | exact st_e (by omega) (by assumption) | exact st_e (by decide) st_s | exact st_e (by omega) st_s | exact st_e (by decide) (st_e (by decide) (by assumption)) | exact st_e (by omega) (st_e (by omega) (by assumption))) (And.intro rfl (ab_inv_of hc (by first | decide | omega) (by omega) (by omega) ?_)))
      intro z σ' hp
      obtain ⟨hg, hp⟩ := hp
      have h9' : σ'.2 319 = some (lgc u9) := (hg.2 319 (by omega) (by unfold fcA; omega)).trans h9
      have hm : ∀ a, 57 ≤ a → a ≤ 318 → σ'.2 a = σ.2 a := fun a h1 h2 => hg.2 a (by omega) (by unfold fcA; omega)
      have hs' := hg.1
      obtain ⟨rfl, hC⟩ := hp
      refine ⟨(0, 28, 20, 5, 4), by decide, rfl, ?_⟩
      refine hA 5 _ rfl _ _ _ _ _ ?_
      exact ⟨hs', hm, u9, h9', rfl, hC⟩
end Hlp
