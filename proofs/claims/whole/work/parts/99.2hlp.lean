-- ===== the law's helpers, on =====
section Hlp
variable {σ : ab_H} {cc rows : Nat} {K : Nat → CT} {va : Nat → Nat → Nat} {ad : Nat → Nat} {R : Nat → V1} {f : Nat → Int} {n : Nat} {pl : Int} {c : C3} {r : Nat → Nat}
set_option maxRecDepth 100000 in
set_option maxHeartbeats 1000000 in
theorem h_kth (hI : CI σ cc rows K va ad R f n pl c r) (k res x : Int) (hk : ab_R k) (hres : ab_R res) (hx : ab_R x){u9 : Nat → Int} (h9 : σ.2 319 = some (lgc u9)) : ab_callH 11 4 24 yL_kth [rf 0, .inl k, .inl res, .inl x, rf 319] σ (hlP σ (cc, rows, K, va, R, f, n, pl, c) r (fun i => (i : Int) + 1) (stq (cc, rows, K, va, R, f, n, pl, c) (sp_kth cc rows va R k res x))) := by
  have hs := hI.s
  have h0 := hI.1
  have hc := ab_call_mono (f_kth hI k res x hk hres hx) (fun _ _ h => pure_st h)
  generalize ho : (stq (cc, rows, K, va, R, f, n, pl, c) (sp_kth cc rows va R k res x)) = o at hc
  have hi : ∀ i, o = .inr i → i = 0 := fun i h => by
    subst h
    exact on_kth (stq_i ho)
  clear ho
  rcases o with ⟨x, S1⟩ | i
  · refine eL_kth rfl (fun At hA => ?_)
    refine hA 0 _ rfl _ _ _ _ _ ?_
    refine Exists.intro _ (And.intro (by first | assumption | exact st_s | exact st_e (by decide) (by assumption) | exact st_e (by omega) (by assumption) | exact st_e (by decide) st_s | exact st_e (by omega) st_s | exact st_e (by decide) (st_e (by decide) (by assumption)) | exact st_e (by omega) (st_e (by omega) (by assumption))) (And.intro rfl (ab_inv_of hc (by first | decide | omega) (by omega) (by omega) ?_)))
    intro z σ' hp
    obtain ⟨hg, hp⟩ := hp
    have h9' : σ'.2 319 = some (lgc u9) := (hg.2 319 (by omega) (by unfold fcA; omega)).trans h9
    have hm : ∀ a, 57 ≤ a → a ≤ 318 → σ'.2 a = σ.2 a := fun a h1 h2 => hg.2 a (by omega) (by unfold fcA; omega)
    have hs' := hg.1
    obtain ⟨rfl, hC⟩ := hp
    have fin : ∀ (v : Int) (L : ab_L) (k n : Nat), v = ab_wr x → At 3 L [] (ab_st σ' 319 (lgc (ab_up u9 0 v))) k n := fun v L k n hv => by
      refine hA 3 _ rfl _ _ _ _ _ ?_
      refine ⟨hs', fun a h1 h2 => (st_n (by omega)).trans (hm a h1 h2), _, st_s, rfl, ab_up_s.trans hv, hC.keep (A := fun a => a = 319) ⟨Nat.le_refl _, fun a _ h2 => st_n h2⟩ (fun a h => by omega)⟩
    refine Exists.intro _ (Exists.intro _ (And.intro (by first | assumption | exact st_s | exact st_e (by decide) (by assumption) | exact st_e (by omega) (by assumption) | exact st_e (by decide) st_s | exact st_e (by omega) st_s | exact st_e (by decide) (st_e (by decide) (by assumption)) | exact st_e (by omega) (st_e (by omega) (by assumption))) (And.intro (by first | omega | (simp only [Int.toNat_natCast]; omega)) ?_)))
    exact fin _ _ _ _ rfl
  · obtain rfl := hi i rfl
    · refine eL_kth rfl (fun At hA => ?_)
      refine hA 0 _ rfl _ _ _ _ _ ?_
      refine Exists.intro _ (And.intro (by first | assumption | exact st_s | exact st_e (by decide) (by assumption) | exact st_e (by omega) (by assumption) | exact st_e (by decide) st_s | exact st_e (by omega) st_s | exact st_e (by decide) (st_e (by decide) (by assumption)) | exact st_e (by omega) (st_e (by omega) (by assumption))) (And.intro rfl (ab_inv_of hc (by first | decide | omega) (by omega) (by omega) ?_)))
      intro z σ' hp
      obtain ⟨hg, hp⟩ := hp
      have h9' : σ'.2 319 = some (lgc u9) := (hg.2 319 (by omega) (by unfold fcA; omega)).trans h9
      have hm : ∀ a, 57 ≤ a → a ≤ 318 → σ'.2 a = σ.2 a := fun a h1 h2 => hg.2 a (by omega) (by unfold fcA; omega)
      have hs' := hg.1
      obtain ⟨rfl, hC⟩ := hp
      refine ⟨(0, 28, 15, 2, 5), by decide, rfl, ?_⟩
      refine hA 2 _ rfl _ _ _ _ _ ?_
      exact ⟨hs', hm, u9, h9', rfl, hC⟩
set_option maxRecDepth 100000 in
set_option maxHeartbeats 1000000 in
theorem h_load (hI : CI σ cc rows K va ad R f n pl c r) (k x : Int) (hk : ab_R k) (hx : ab_R x){u9 : Nat → Int} (h9 : σ.2 319 = some (lgc u9)) : ab_callH 9 2 12 yL_load [rf 0, .inl k, .inl x, rf 319] σ (hlP σ (cc, rows, K, va, R, f, n, pl, c) r (fun i => (i : Int) + 1) (sg_load cc rows K va R f n c k x)) := by
  have hs := hI.s
  have h0 := hI.1
  have hc := f_load hI k x hk hx
  generalize ho : (sg_load cc rows K va R f n c k x) = o at hc
  have hi : ∀ i, o = .inr i → i = 0 ∨ i = 1 := fun i h => by
    subst h
    exact on_load ho
  clear ho
  rcases o with ⟨x, S1⟩ | i
  · refine eL_load rfl (fun At hA => ?_)
    refine hA 0 _ rfl _ _ _ _ _ ?_
    refine Exists.intro _ (And.intro (by first | assumption | exact st_s | exact st_e (by decide) (by assumption) | exact st_e (by omega) (by assumption) | exact st_e (by decide) st_s | exact st_e (by omega) st_s | exact st_e (by decide) (st_e (by decide) (by assumption)) | exact st_e (by omega) (st_e (by omega) (by assumption))) (And.intro rfl (ab_inv_of hc (by first | decide | omega) (by omega) (by omega) ?_)))
    intro z σ' hp
    obtain ⟨hg, hp⟩ := hp
    have h9' : σ'.2 319 = some (lgc u9) := (hg.2 319 (by omega) (by unfold fcA; omega)).trans h9
    have hm : ∀ a, 57 ≤ a → a ≤ 318 → σ'.2 a = σ.2 a := fun a h1 h2 => hg.2 a (by omega) (by unfold fcA; omega)
    have hs' := hg.1
    obtain ⟨rfl, hC⟩ := hp
    have fin : ∀ (v : Int) (L : ab_L) (k n : Nat), v = ab_wr x → At 5 L [] (ab_st σ' 319 (lgc (ab_up u9 0 v))) k n := fun v L k n hv => by
      refine hA 5 _ rfl _ _ _ _ _ ?_
      refine ⟨hs', fun a h1 h2 => (st_n (by omega)).trans (hm a h1 h2), _, st_s, rfl, ab_up_s.trans hv, hC.keep (A := fun a => a = 319) ⟨Nat.le_refl _, fun a _ h2 => st_n h2⟩ (fun a h => by omega)⟩
    refine Exists.intro _ (Exists.intro _ (And.intro (by first | assumption | exact st_s | exact st_e (by decide) (by assumption) | exact st_e (by omega) (by assumption) | exact st_e (by decide) st_s | exact st_e (by omega) st_s | exact st_e (by decide) (st_e (by decide) (by assumption)) | exact st_e (by omega) (st_e (by omega) (by assumption))) (And.intro (by first | omega | (simp only [Int.toNat_natCast]; omega)) ?_)))
    exact fin _ _ _ _ rfl
  · rcases hi i rfl with rfl | rfl
    · refine eL_load rfl (fun At hA => ?_)
      refine hA 0 _ rfl _ _ _ _ _ ?_
      refine Exists.intro _ (And.intro (by first | assumption | exact st_s | exact st_e (by decide) (by assumption) | exact st_e (by omega) (by assumption) | exact st_e (by decide) st_s | exact st_e (by omega) st_s | exact st_e (by decide) (st_e (by decide) (by assumption)) | exact st_e (by omega) (st_e (by omega) (by assumption))) (And.intro rfl (ab_inv_of hc (by first | decide | omega) (by omega) (by omega) ?_)))
      intro z σ' hp
      obtain ⟨hg, hp⟩ := hp
      have h9' : σ'.2 319 = some (lgc u9) := (hg.2 319 (by omega) (by unfold fcA; omega)).trans h9
      have hm : ∀ a, 57 ≤ a → a ≤ 318 → σ'.2 a = σ.2 a := fun a h1 h2 => hg.2 a (by omega) (by unfold fcA; omega)
      have hs' := hg.1
      obtain ⟨rfl, hC⟩ := hp
      refine ⟨(0, 28, 13, 2, 4), by decide, rfl, ?_⟩
      refine hA 2 _ rfl _ _ _ _ _ ?_
      exact ⟨hs', hm, u9, h9', rfl, hC⟩
    · refine eL_load rfl (fun At hA => ?_)
      refine hA 0 _ rfl _ _ _ _ _ ?_
      refine Exists.intro _ (And.intro (by first | assumption | exact st_s | exact st_e (by decide) (by assumption) | exact st_e (by omega) (by assumption) | exact st_e (by decide) st_s | exact st_e (by omega) st_s | exact st_e (by decide) (st_e (by decide) (by assumption)) | exact st_e (by omega) (st_e (by omega) (by assumption))) (And.intro rfl (ab_inv_of hc (by first | decide | omega) (by omega) (by omega) ?_)))
      intro z σ' hp
      obtain ⟨hg, hp⟩ := hp
      have h9' : σ'.2 319 = some (lgc u9) := (hg.2 319 (by omega) (by unfold fcA; omega)).trans h9
      have hm : ∀ a, 57 ≤ a → a ≤ 318 → σ'.2 a = σ.2 a := fun a h1 h2 => hg.2 a (by omega) (by unfold fcA; omega)
      have hs' := hg.1
      obtain ⟨rfl, hC⟩ := hp
      refine ⟨(1, 13, 17, 4, 4), by decide, rfl, ?_⟩
      refine hA 4 _ rfl _ _ _ _ _ ?_
      exact ⟨hs', hm, u9, h9', rfl, hC⟩
set_option maxRecDepth 100000 in
set_option maxHeartbeats 1000000 in
theorem h_logic (hI : CI σ cc rows K va ad R f n pl c r) (kind a b to : Int) (hkind : ab_R kind) (ha : ab_R a) (hb : ab_R b) (hto : ab_R to){u9 : Nat → Int} (h9 : σ.2 319 = some (lgc u9)) : ab_callH 9 2 12 yL_logic [rf 0, .inl kind, .inl a, .inl b, .inl to, rf 319] σ (hlP σ (cc, rows, K, va, R, f, n, pl, c) r (fun i => (i : Int) + 1) (sg_logic cc rows K va R f n pl c kind a b to)) := by
  have hs := hI.s
  have h0 := hI.1
  have hc := f_logic hI kind a b to hkind ha hb hto
  generalize ho : (sg_logic cc rows K va R f n pl c kind a b to) = o at hc
  have hi : ∀ i, o = .inr i → i = 0 ∨ i = 1 := fun i h => by
    subst h
    exact on_logic ho
  clear ho
  rcases o with ⟨x, S1⟩ | i
  · refine eL_logic rfl (fun At hA => ?_)
    refine hA 0 _ rfl _ _ _ _ _ ?_
    refine Exists.intro _ (And.intro (by first | assumption | exact st_s | exact st_e (by decide) (by assumption) | exact st_e (by omega) (by assumption) | exact st_e (by decide) st_s | exact st_e (by omega) st_s | exact st_e (by decide) (st_e (by decide) (by assumption)) | exact st_e (by omega) (st_e (by omega) (by assumption))) (And.intro rfl (ab_inv_of hc (by first | decide | omega) (by omega) (by omega) ?_)))
    intro z σ' hp
    obtain ⟨hg, hp⟩ := hp
    have h9' : σ'.2 319 = some (lgc u9) := (hg.2 319 (by omega) (by unfold fcA; omega)).trans h9
    have hm : ∀ a, 57 ≤ a → a ≤ 318 → σ'.2 a = σ.2 a := fun a h1 h2 => hg.2 a (by omega) (by unfold fcA; omega)
    have hs' := hg.1
    obtain ⟨rfl, hC⟩ := hp
    have fin : ∀ (v : Int) (L : ab_L) (k n : Nat), v = ab_wr x → At 5 L [] (ab_st σ' 319 (lgc (ab_up u9 0 v))) k n := fun v L k n hv => by
      refine hA 5 _ rfl _ _ _ _ _ ?_
      refine ⟨hs', fun a h1 h2 => (st_n (by omega)).trans (hm a h1 h2), _, st_s, rfl, ab_up_s.trans hv, hC.keep (A := fun a => a = 319) ⟨Nat.le_refl _, fun a _ h2 => st_n h2⟩ (fun a h => by omega)⟩
    refine Exists.intro _ (Exists.intro _ (And.intro (by first | assumption | exact st_s | exact st_e (by decide) (by assumption) | exact st_e (by omega) (by assumption) | exact st_e (by decide) st_s | exact st_e (by omega) st_s | exact st_e (by decide) (st_e (by decide) (by assumption)) | exact st_e (by omega) (st_e (by omega) (by assumption))) (And.intro (by first | omega | (simp only [Int.toNat_natCast]; omega)) ?_)))
    exact fin _ _ _ _ rfl
  · rcases hi i rfl with rfl | rfl
    · refine eL_logic rfl (fun At hA => ?_)
      refine hA 0 _ rfl _ _ _ _ _ ?_
      refine Exists.intro _ (And.intro (by first | assumption | exact st_s | exact st_e (by decide) (by assumption) | exact st_e (by omega) (by assumption) | exact st_e (by decide) st_s | exact st_e (by omega) st_s | exact st_e (by decide) (st_e (by decide) (by assumption)) | exact st_e (by omega) (st_e (by omega) (by assumption))) (And.intro rfl (ab_inv_of hc (by first | decide | omega) (by omega) (by omega) ?_)))
      intro z σ' hp
      obtain ⟨hg, hp⟩ := hp
      have h9' : σ'.2 319 = some (lgc u9) := (hg.2 319 (by omega) (by unfold fcA; omega)).trans h9
      have hm : ∀ a, 57 ≤ a → a ≤ 318 → σ'.2 a = σ.2 a := fun a h1 h2 => hg.2 a (by omega) (by unfold fcA; omega)
      have hs' := hg.1
      obtain ⟨rfl, hC⟩ := hp
      refine ⟨(0, 28, 17, 2, 6), by decide, rfl, ?_⟩
      refine hA 2 _ rfl _ _ _ _ _ ?_
      exact ⟨hs', hm, u9, h9', rfl, hC⟩
    · refine eL_logic rfl (fun At hA => ?_)
      refine hA 0 _ rfl _ _ _ _ _ ?_
      refine Exists.intro _ (And.intro (by first | assumption | exact st_s | exact st_e (by decide) (by assumption) | exact st_e (by omega) (by assumption) | exact st_e (by decide) st_s | exact st_e (by omega) st_s | exact st_e (by decide) (st_e (by decide) (by assumption)) | exact st_e (by omega) (st_e (by omega) (by assumption))) (And.intro rfl (ab_inv_of hc (by first | decide | omega) (by omega) (by omega) ?_)))
      intro z σ' hp
      obtain ⟨hg, hp⟩ := hp
      have h9' : σ'.2 319 = some (lgc u9) := (hg.2 319 (by omega) (by unfold fcA; omega)).trans h9
      have hm : ∀ a, 57 ≤ a → a ≤ 318 → σ'.2 a = σ.2 a := fun a h1 h2 => hg.2 a (by omega) (by unfold fcA; omega)
      have hs' := hg.1
      obtain ⟨rfl, hC⟩ := hp
      refine ⟨(1, 13, 21, 4, 6), by decide, rfl, ?_⟩
      refine hA 4 _ rfl _ _ _ _ _ ?_
      exact ⟨hs', hm, u9, h9', rfl, hC⟩
set_option maxRecDepth 100000 in
set_option maxHeartbeats 1000000 in
theorem h_many (hI : CI σ cc rows K va ad R f n pl c r) (m x1 x2 x3 x4 : Int) (hm : ab_R m) (hx1 : ab_R x1) (hx2 : ab_R x2) (hx3 : ab_R x3) (hx4 : ab_R x4){u9 : Nat → Int} (h9 : σ.2 319 = some (lgc u9)) : ab_callH 9 2 12 yL_many [rf 0, .inl m, .inl x1, .inl x2, .inl x3, .inl x4, rf 319] σ (hlP σ (cc, rows, K, va, R, f, n, pl, c) r (fun i => (i : Int)) (sg_many cc rows K va R f n pl c m x1 x2 x3 x4)) := by
  have hs := hI.s
  have h0 := hI.1
  have hc := f_many hI m x1 x2 x3 x4 hm hx1 hx2 hx3 hx4
  generalize ho : (sg_many cc rows K va R f n pl c m x1 x2 x3 x4) = o at hc
  have hi : ∀ i, o = .inr i → i = 1 ∨ i = 2 := fun i h => by
    subst h
    exact on_many ho
  clear ho
  rcases o with ⟨x, S1⟩ | i
  · refine eL_many rfl (fun At hA => ?_)
    refine hA 0 _ rfl _ _ _ _ _ ?_
    refine Exists.intro _ (And.intro (by first | assumption | exact st_s | exact st_e (by decide) (by assumption) | exact st_e (by omega) (by assumption) | exact st_e (by decide) st_s | exact st_e (by omega) st_s | exact st_e (by decide) (st_e (by decide) (by assumption)) | exact st_e (by omega) (st_e (by omega) (by assumption))) (And.intro rfl (ab_inv_of hc (by first | decide | omega) (by omega) (by omega) ?_)))
    intro z σ' hp
    obtain ⟨hg, hp⟩ := hp
    have h9' : σ'.2 319 = some (lgc u9) := (hg.2 319 (by omega) (by unfold fcA; omega)).trans h9
    have hm : ∀ a, 57 ≤ a → a ≤ 318 → σ'.2 a = σ.2 a := fun a h1 h2 => hg.2 a (by omega) (by unfold fcA; omega)
    have hs' := hg.1
    obtain ⟨rfl, hC⟩ := hp
    have fin : ∀ (v : Int) (L : ab_L) (k n : Nat), v = ab_wr x → At 5 L [] (ab_st σ' 319 (lgc (ab_up u9 0 v))) k n := fun v L k n hv => by
      refine hA 5 _ rfl _ _ _ _ _ ?_
      refine ⟨hs', fun a h1 h2 => (st_n (by omega)).trans (hm a h1 h2), _, st_s, rfl, ab_up_s.trans hv, hC.keep (A := fun a => a = 319) ⟨Nat.le_refl _, fun a _ h2 => st_n h2⟩ (fun a h => by omega)⟩
    refine Exists.intro _ (Exists.intro _ (And.intro (by first | assumption | exact st_s | exact st_e (by decide) (by assumption) | exact st_e (by omega) (by assumption) | exact st_e (by decide) st_s | exact st_e (by omega) st_s | exact st_e (by decide) (st_e (by decide) (by assumption)) | exact st_e (by omega) (st_e (by omega) (by assumption))) (And.intro (by first | omega | (simp only [Int.toNat_natCast]; omega)) ?_)))
    exact fin _ _ _ _ rfl
  · rcases hi i rfl with rfl | rfl
    · refine eL_many rfl (fun At hA => ?_)
      refine hA 0 _ rfl _ _ _ _ _ ?_
      refine Exists.intro _ (And.intro (by first | assumption | exact st_s | exact st_e (by decide) (by assumption) | exact st_e (by omega) (by assumption) | exact st_e (by decide) st_s | exact st_e (by omega) st_s | exact st_e (by decide) (st_e (by decide) (by assumption)) | exact st_e (by omega) (st_e (by omega) (by assumption))) (And.intro rfl (ab_inv_of hc (by first | decide | omega) (by omega) (by omega) ?_)))
      intro z σ' hp
      obtain ⟨hg, hp⟩ := hp
      have h9' : σ'.2 319 = some (lgc u9) := (hg.2 319 (by omega) (by unfold fcA; omega)).trans h9
      have hm : ∀ a, 57 ≤ a → a ≤ 318 → σ'.2 a = σ.2 a := fun a h1 h2 => hg.2 a (by omega) (by unfold fcA; omega)
      have hs' := hg.1
      obtain ⟨rfl, hC⟩ := hp
      refine ⟨(1, 13, 19, 2, 7), by decide, rfl, ?_⟩
      refine hA 2 _ rfl _ _ _ _ _ ?_
      exact ⟨hs', hm, u9, h9', rfl, hC⟩
    · refine eL_many rfl (fun At hA => ?_)
      refine hA 0 _ rfl _ _ _ _ _ ?_
      refine Exists.intro _ (And.intro (by first | assumption | exact st_s | exact st_e (by decide) (by assumption) | exact st_e (by omega) (by assumption) | exact st_e (by decide) st_s | exact st_e (by omega) st_s | exact st_e (by decide) (st_e (by decide) (by assumption)) | exact st_e (by omega) (st_e (by omega) (by assumption))) (And.intro rfl (ab_inv_of hc (by first | decide | omega) (by omega) (by omega) ?_)))
      intro z σ' hp
      obtain ⟨hg, hp⟩ := hp
      have h9' : σ'.2 319 = some (lgc u9) := (hg.2 319 (by omega) (by unfold fcA; omega)).trans h9
      have hm : ∀ a, 57 ≤ a → a ≤ 318 → σ'.2 a = σ.2 a := fun a h1 h2 => hg.2 a (by omega) (by unfold fcA; omega)
      have hs' := hg.1
      obtain ⟨rfl, hC⟩ := hp
      refine ⟨(2, 15, 23, 4, 7), by decide, rfl, ?_⟩
      refine hA 4 _ rfl _ _ _ _ _ ?_
      exact ⟨hs', hm, u9, h9', rfl, hC⟩
set_option maxRecDepth 100000 in
set_option maxHeartbeats 1000000 in
theorem h_mode (hI : CI σ cc rows K va ad R f n pl c r) (k res what : Int) (hk : ab_R k) (hres : ab_R res) (hwhat : ab_R what){u9 : Nat → Int} (h9 : σ.2 319 = some (lgc u9)) : ab_callH 11 4 24 yL_mode [rf 0, .inl k, .inl res, .inl what, rf 319] σ (hlP σ (cc, rows, K, va, R, f, n, pl, c) r (fun i => (i : Int) + 1) (stq (cc, rows, K, va, R, f, n, pl, c) (sp_mode cc rows va R k res what))) := by
  have hs := hI.s
  have h0 := hI.1
  have hc := ab_call_mono (f_mode hI k res what hk hres hwhat) (fun _ _ h => pure_st h)
  generalize ho : (stq (cc, rows, K, va, R, f, n, pl, c) (sp_mode cc rows va R k res what)) = o at hc
  have hi : ∀ i, o = .inr i → i = 0 ∨ i = 1 := fun i h => by
    subst h
    exact on_mode (stq_i ho)
  clear ho
  rcases o with ⟨x, S1⟩ | i
  · refine eL_mode rfl (fun At hA => ?_)
    refine hA 0 _ rfl _ _ _ _ _ ?_
    refine Exists.intro _ (And.intro (by first | assumption | exact st_s | exact st_e (by decide) (by assumption) | exact st_e (by omega) (by assumption) | exact st_e (by decide) st_s | exact st_e (by omega) st_s | exact st_e (by decide) (st_e (by decide) (by assumption)) | exact st_e (by omega) (st_e (by omega) (by assumption))) (And.intro rfl (ab_inv_of hc (by first | decide | omega) (by omega) (by omega) ?_)))
    intro z σ' hp
    obtain ⟨hg, hp⟩ := hp
    have h9' : σ'.2 319 = some (lgc u9) := (hg.2 319 (by omega) (by unfold fcA; omega)).trans h9
    have hm : ∀ a, 57 ≤ a → a ≤ 318 → σ'.2 a = σ.2 a := fun a h1 h2 => hg.2 a (by omega) (by unfold fcA; omega)
    have hs' := hg.1
    obtain ⟨rfl, hC⟩ := hp
    have fin : ∀ (v : Int) (L : ab_L) (k n : Nat), v = ab_wr x → At 5 L [] (ab_st σ' 319 (lgc (ab_up u9 0 v))) k n := fun v L k n hv => by
      refine hA 5 _ rfl _ _ _ _ _ ?_
      refine ⟨hs', fun a h1 h2 => (st_n (by omega)).trans (hm a h1 h2), _, st_s, rfl, ab_up_s.trans hv, hC.keep (A := fun a => a = 319) ⟨Nat.le_refl _, fun a _ h2 => st_n h2⟩ (fun a h => by omega)⟩
    refine Exists.intro _ (Exists.intro _ (And.intro (by first | assumption | exact st_s | exact st_e (by decide) (by assumption) | exact st_e (by omega) (by assumption) | exact st_e (by decide) st_s | exact st_e (by omega) st_s | exact st_e (by decide) (st_e (by decide) (by assumption)) | exact st_e (by omega) (st_e (by omega) (by assumption))) (And.intro (by first | omega | (simp only [Int.toNat_natCast]; omega)) ?_)))
    exact fin _ _ _ _ rfl
  · rcases hi i rfl with rfl | rfl
    · refine eL_mode rfl (fun At hA => ?_)
      refine hA 0 _ rfl _ _ _ _ _ ?_
      refine Exists.intro _ (And.intro (by first | assumption | exact st_s | exact st_e (by decide) (by assumption) | exact st_e (by omega) (by assumption) | exact st_e (by decide) st_s | exact st_e (by omega) st_s | exact st_e (by decide) (st_e (by decide) (by assumption)) | exact st_e (by omega) (st_e (by omega) (by assumption))) (And.intro rfl (ab_inv_of hc (by first | decide | omega) (by omega) (by omega) ?_)))
      intro z σ' hp
      obtain ⟨hg, hp⟩ := hp
      have h9' : σ'.2 319 = some (lgc u9) := (hg.2 319 (by omega) (by unfold fcA; omega)).trans h9
      have hm : ∀ a, 57 ≤ a → a ≤ 318 → σ'.2 a = σ.2 a := fun a h1 h2 => hg.2 a (by omega) (by unfold fcA; omega)
      have hs' := hg.1
      obtain ⟨rfl, hC⟩ := hp
      refine ⟨(0, 28, 15, 2, 5), by decide, rfl, ?_⟩
      refine hA 2 _ rfl _ _ _ _ _ ?_
      exact ⟨hs', hm, u9, h9', rfl, hC⟩
    · refine eL_mode rfl (fun At hA => ?_)
      refine hA 0 _ rfl _ _ _ _ _ ?_
      refine Exists.intro _ (And.intro (by first | assumption | exact st_s | exact st_e (by decide) (by assumption) | exact st_e (by omega) (by assumption) | exact st_e (by decide) st_s | exact st_e (by omega) st_s | exact st_e (by decide) (st_e (by decide) (by assumption)) | exact st_e (by omega) (st_e (by omega) (by assumption))) (And.intro rfl (ab_inv_of hc (by first | decide | omega) (by omega) (by omega) ?_)))
      intro z σ' hp
      obtain ⟨hg, hp⟩ := hp
      have h9' : σ'.2 319 = some (lgc u9) := (hg.2 319 (by omega) (by unfold fcA; omega)).trans h9
      have hm : ∀ a, 57 ≤ a → a ≤ 318 → σ'.2 a = σ.2 a := fun a h1 h2 => hg.2 a (by omega) (by unfold fcA; omega)
      have hs' := hg.1
      obtain ⟨rfl, hC⟩ := hp
      refine ⟨(1, 13, 19, 4, 5), by decide, rfl, ?_⟩
      refine hA 4 _ rfl _ _ _ _ _ ?_
      exact ⟨hs', hm, u9, h9', rfl, hC⟩
set_option maxRecDepth 100000 in
set_option maxHeartbeats 1000000 in
theorem h_next (hI : CI σ cc rows K va ad R f n pl c r) (k row : Int) (hk : ab_R k) (hrow : ab_R row){u9 : Nat → Int} (h9 : σ.2 319 = some (lgc u9)) : ab_callH 11 4 24 yL_next [rf 0, .inl k, .inl row, rf 319] σ (hlP σ (cc, rows, K, va, R, f, n, pl, c) r (fun i => (i : Int) + 1) (stq (cc, rows, K, va, R, f, n, pl, c) (sp_next rows R k row))) := by
  have hs := hI.s
  have h0 := hI.1
  have hc := ab_call_mono (f_next hI k row hk hrow) (fun _ _ h => pure_st h)
  generalize ho : (stq (cc, rows, K, va, R, f, n, pl, c) (sp_next rows R k row)) = o at hc
  have hi : ∀ i, o = .inr i → i = 0 ∨ i = 1 := fun i h => by
    subst h
    exact on_next (stq_i ho)
  clear ho
  rcases o with ⟨x, S1⟩ | i
  · refine eL_next rfl (fun At hA => ?_)
    refine hA 0 _ rfl _ _ _ _ _ ?_
    refine Exists.intro _ (And.intro (by first | assumption | exact st_s | exact st_e (by decide) (by assumption) | exact st_e (by omega) (by assumption) | exact st_e (by decide) st_s | exact st_e (by omega) st_s | exact st_e (by decide) (st_e (by decide) (by assumption)) | exact st_e (by omega) (st_e (by omega) (by assumption))) (And.intro rfl (ab_inv_of hc (by first | decide | omega) (by omega) (by omega) ?_)))
    intro z σ' hp
    obtain ⟨hg, hp⟩ := hp
    have h9' : σ'.2 319 = some (lgc u9) := (hg.2 319 (by omega) (by unfold fcA; omega)).trans h9
    have hm : ∀ a, 57 ≤ a → a ≤ 318 → σ'.2 a = σ.2 a := fun a h1 h2 => hg.2 a (by omega) (by unfold fcA; omega)
    have hs' := hg.1
    obtain ⟨rfl, hC⟩ := hp
    have fin : ∀ (v : Int) (L : ab_L) (k n : Nat), v = ab_wr x → At 5 L [] (ab_st σ' 319 (lgc (ab_up u9 0 v))) k n := fun v L k n hv => by
      refine hA 5 _ rfl _ _ _ _ _ ?_
      refine ⟨hs', fun a h1 h2 => (st_n (by omega)).trans (hm a h1 h2), _, st_s, rfl, ab_up_s.trans hv, hC.keep (A := fun a => a = 319) ⟨Nat.le_refl _, fun a _ h2 => st_n h2⟩ (fun a h => by omega)⟩
    refine Exists.intro _ (Exists.intro _ (And.intro (by first | assumption | exact st_s | exact st_e (by decide) (by assumption) | exact st_e (by omega) (by assumption) | exact st_e (by decide) st_s | exact st_e (by omega) st_s | exact st_e (by decide) (st_e (by decide) (by assumption)) | exact st_e (by omega) (st_e (by omega) (by assumption))) (And.intro (by first | omega | (simp only [Int.toNat_natCast]; omega)) ?_)))
    exact fin _ _ _ _ rfl
  · rcases hi i rfl with rfl | rfl
    · refine eL_next rfl (fun At hA => ?_)
      refine hA 0 _ rfl _ _ _ _ _ ?_
      refine Exists.intro _ (And.intro (by first | assumption | exact st_s | exact st_e (by decide) (by assumption) | exact st_e (by omega) (by assumption) | exact st_e (by decide) st_s | exact st_e (by omega) st_s | exact st_e (by decide) (st_e (by decide) (by assumption)) | exact st_e (by omega) (st_e (by omega) (by assumption))) (And.intro rfl (ab_inv_of hc (by first | decide | omega) (by omega) (by omega) ?_)))
      intro z σ' hp
      obtain ⟨hg, hp⟩ := hp
      have h9' : σ'.2 319 = some (lgc u9) := (hg.2 319 (by omega) (by unfold fcA; omega)).trans h9
      have hm : ∀ a, 57 ≤ a → a ≤ 318 → σ'.2 a = σ.2 a := fun a h1 h2 => hg.2 a (by omega) (by unfold fcA; omega)
      have hs' := hg.1
      obtain ⟨rfl, hC⟩ := hp
      refine ⟨(0, 28, 13, 2, 4), by decide, rfl, ?_⟩
      refine hA 2 _ rfl _ _ _ _ _ ?_
      exact ⟨hs', hm, u9, h9', rfl, hC⟩
    · refine eL_next rfl (fun At hA => ?_)
      refine hA 0 _ rfl _ _ _ _ _ ?_
      refine Exists.intro _ (And.intro (by first | assumption | exact st_s | exact st_e (by decide) (by assumption) | exact st_e (by omega) (by assumption) | exact st_e (by decide) st_s | exact st_e (by omega) st_s | exact st_e (by decide) (st_e (by decide) (by assumption)) | exact st_e (by omega) (st_e (by omega) (by assumption))) (And.intro rfl (ab_inv_of hc (by first | decide | omega) (by omega) (by omega) ?_)))
      intro z σ' hp
      obtain ⟨hg, hp⟩ := hp
      have h9' : σ'.2 319 = some (lgc u9) := (hg.2 319 (by omega) (by unfold fcA; omega)).trans h9
      have hm : ∀ a, 57 ≤ a → a ≤ 318 → σ'.2 a = σ.2 a := fun a h1 h2 => hg.2 a (by omega) (by unfold fcA; omega)
      have hs' := hg.1
      obtain ⟨rfl, hC⟩ := hp
      refine ⟨(1, 13, 17, 4, 4), by decide, rfl, ?_⟩
      refine hA 4 _ rfl _ _ _ _ _ ?_
      exact ⟨hs', hm, u9, h9', rfl, hC⟩
set_option maxRecDepth 100000 in
set_option maxHeartbeats 1000000 in
theorem h_ordered (hI : CI σ cc rows K va ad R f n pl c r) (a b : Int) (ha : ab_R a) (hb : ab_R b){u9 : Nat → Int} (h9 : σ.2 319 = some (lgc u9)) : ab_callH 11 4 24 yL_ordered [rf 0, .inl a, .inl b, rf 319] σ (hlP σ (cc, rows, K, va, R, f, n, pl, c) r (fun i => (i : Int) + 1) (stq (cc, rows, K, va, R, f, n, pl, c) (sp_ordered cc rows K va a b))) := by
  have hs := hI.s
  have h0 := hI.1
  have hc := ab_call_mono (f_ordered hI a b ha hb) (fun _ _ h => pure_st h)
  generalize ho : (stq (cc, rows, K, va, R, f, n, pl, c) (sp_ordered cc rows K va a b)) = o at hc
  have hi : ∀ i, o = .inr i → i = 0 := fun i h => by
    subst h
    exact on_ordered (stq_i ho)
  clear ho
  rcases o with ⟨x, S1⟩ | i
  · refine eL_ordered rfl (fun At hA => ?_)
    refine hA 0 _ rfl _ _ _ _ _ ?_
    refine Exists.intro _ (And.intro (by first | assumption | exact st_s | exact st_e (by decide) (by assumption) | exact st_e (by omega) (by assumption) | exact st_e (by decide) st_s | exact st_e (by omega) st_s | exact st_e (by decide) (st_e (by decide) (by assumption)) | exact st_e (by omega) (st_e (by omega) (by assumption))) (And.intro rfl (ab_inv_of hc (by first | decide | omega) (by omega) (by omega) ?_)))
    intro z σ' hp
    obtain ⟨hg, hp⟩ := hp
    have h9' : σ'.2 319 = some (lgc u9) := (hg.2 319 (by omega) (by unfold fcA; omega)).trans h9
    have hm : ∀ a, 57 ≤ a → a ≤ 318 → σ'.2 a = σ.2 a := fun a h1 h2 => hg.2 a (by omega) (by unfold fcA; omega)
    have hs' := hg.1
    obtain ⟨rfl, hC⟩ := hp
    have fin : ∀ (v : Int) (L : ab_L) (k n : Nat), v = ab_wr x → At 3 L [] (ab_st σ' 319 (lgc (ab_up u9 0 v))) k n := fun v L k n hv => by
      refine hA 3 _ rfl _ _ _ _ _ ?_
      refine ⟨hs', fun a h1 h2 => (st_n (by omega)).trans (hm a h1 h2), _, st_s, rfl, ab_up_s.trans hv, hC.keep (A := fun a => a = 319) ⟨Nat.le_refl _, fun a _ h2 => st_n h2⟩ (fun a h => by omega)⟩
    refine Exists.intro _ (Exists.intro _ (And.intro (by first | assumption | exact st_s | exact st_e (by decide) (by assumption) | exact st_e (by omega) (by assumption) | exact st_e (by decide) st_s | exact st_e (by omega) st_s | exact st_e (by decide) (st_e (by decide) (by assumption)) | exact st_e (by omega) (st_e (by omega) (by assumption))) (And.intro (by first | omega | (simp only [Int.toNat_natCast]; omega)) ?_)))
    exact fin _ _ _ _ rfl
  · obtain rfl := hi i rfl
    · refine eL_ordered rfl (fun At hA => ?_)
      refine hA 0 _ rfl _ _ _ _ _ ?_
      refine Exists.intro _ (And.intro (by first | assumption | exact st_s | exact st_e (by decide) (by assumption) | exact st_e (by omega) (by assumption) | exact st_e (by decide) st_s | exact st_e (by omega) st_s | exact st_e (by decide) (st_e (by decide) (by assumption)) | exact st_e (by omega) (st_e (by omega) (by assumption))) (And.intro rfl (ab_inv_of hc (by first | decide | omega) (by omega) (by omega) ?_)))
      intro z σ' hp
      obtain ⟨hg, hp⟩ := hp
      have h9' : σ'.2 319 = some (lgc u9) := (hg.2 319 (by omega) (by unfold fcA; omega)).trans h9
      have hm : ∀ a, 57 ≤ a → a ≤ 318 → σ'.2 a = σ.2 a := fun a h1 h2 => hg.2 a (by omega) (by unfold fcA; omega)
      have hs' := hg.1
      obtain ⟨rfl, hC⟩ := hp
      refine ⟨(0, 28, 13, 2, 4), by decide, rfl, ?_⟩
      refine hA 2 _ rfl _ _ _ _ _ ?_
      exact ⟨hs', hm, u9, h9', rfl, hC⟩
set_option maxRecDepth 100000 in
set_option maxHeartbeats 1000000 in
theorem h_rank (hI : CI σ cc rows K va ad R f n pl c r) (k row : Int) (hk : ab_R k) (hrow : ab_R row){u9 : Nat → Int} (h9 : σ.2 319 = some (lgc u9)) : ab_callH 11 4 24 yL_rank [rf 0, .inl k, .inl row, rf 319] σ (hlP σ (cc, rows, K, va, R, f, n, pl, c) r (fun i => (i : Int) + 1) (stq (cc, rows, K, va, R, f, n, pl, c) (sp_rank rows R k row))) := by
  have hs := hI.s
  have h0 := hI.1
  have hc := ab_call_mono (f_rank hI k row hk hrow) (fun _ _ h => pure_st h)
  generalize ho : (stq (cc, rows, K, va, R, f, n, pl, c) (sp_rank rows R k row)) = o at hc
  have hi : ∀ i, o = .inr i → i = 0 ∨ i = 1 := fun i h => by
    subst h
    exact on_rank (stq_i ho)
  clear ho
  rcases o with ⟨x, S1⟩ | i
  · refine eL_rank rfl (fun At hA => ?_)
    refine hA 0 _ rfl _ _ _ _ _ ?_
    refine Exists.intro _ (And.intro (by first | assumption | exact st_s | exact st_e (by decide) (by assumption) | exact st_e (by omega) (by assumption) | exact st_e (by decide) st_s | exact st_e (by omega) st_s | exact st_e (by decide) (st_e (by decide) (by assumption)) | exact st_e (by omega) (st_e (by omega) (by assumption))) (And.intro rfl (ab_inv_of hc (by first | decide | omega) (by omega) (by omega) ?_)))
    intro z σ' hp
    obtain ⟨hg, hp⟩ := hp
    have h9' : σ'.2 319 = some (lgc u9) := (hg.2 319 (by omega) (by unfold fcA; omega)).trans h9
    have hm : ∀ a, 57 ≤ a → a ≤ 318 → σ'.2 a = σ.2 a := fun a h1 h2 => hg.2 a (by omega) (by unfold fcA; omega)
    have hs' := hg.1
    obtain ⟨rfl, hC⟩ := hp
    have fin : ∀ (v : Int) (L : ab_L) (k n : Nat), v = ab_wr x → At 5 L [] (ab_st σ' 319 (lgc (ab_up u9 0 v))) k n := fun v L k n hv => by
      refine hA 5 _ rfl _ _ _ _ _ ?_
      refine ⟨hs', fun a h1 h2 => (st_n (by omega)).trans (hm a h1 h2), _, st_s, rfl, ab_up_s.trans hv, hC.keep (A := fun a => a = 319) ⟨Nat.le_refl _, fun a _ h2 => st_n h2⟩ (fun a h => by omega)⟩
    refine Exists.intro _ (Exists.intro _ (And.intro (by first | assumption | exact st_s | exact st_e (by decide) (by assumption) | exact st_e (by omega) (by assumption) | exact st_e (by decide) st_s | exact st_e (by omega) st_s | exact st_e (by decide) (st_e (by decide) (by assumption)) | exact st_e (by omega) (st_e (by omega) (by assumption))) (And.intro (by first | omega | (simp only [Int.toNat_natCast]; omega)) ?_)))
    exact fin _ _ _ _ rfl
  · rcases hi i rfl with rfl | rfl
    · refine eL_rank rfl (fun At hA => ?_)
      refine hA 0 _ rfl _ _ _ _ _ ?_
      refine Exists.intro _ (And.intro (by first | assumption | exact st_s | exact st_e (by decide) (by assumption) | exact st_e (by omega) (by assumption) | exact st_e (by decide) st_s | exact st_e (by omega) st_s | exact st_e (by decide) (st_e (by decide) (by assumption)) | exact st_e (by omega) (st_e (by omega) (by assumption))) (And.intro rfl (ab_inv_of hc (by first | decide | omega) (by omega) (by omega) ?_)))
      intro z σ' hp
      obtain ⟨hg, hp⟩ := hp
      have h9' : σ'.2 319 = some (lgc u9) := (hg.2 319 (by omega) (by unfold fcA; omega)).trans h9
      have hm : ∀ a, 57 ≤ a → a ≤ 318 → σ'.2 a = σ.2 a := fun a h1 h2 => hg.2 a (by omega) (by unfold fcA; omega)
      have hs' := hg.1
      obtain ⟨rfl, hC⟩ := hp
      refine ⟨(0, 28, 13, 2, 4), by decide, rfl, ?_⟩
      refine hA 2 _ rfl _ _ _ _ _ ?_
      exact ⟨hs', hm, u9, h9', rfl, hC⟩
    · refine eL_rank rfl (fun At hA => ?_)
      refine hA 0 _ rfl _ _ _ _ _ ?_
      refine Exists.intro _ (And.intro (by first | assumption | exact st_s | exact st_e (by decide) (by assumption) | exact st_e (by omega) (by assumption) | exact st_e (by decide) st_s | exact st_e (by omega) st_s | exact st_e (by decide) (st_e (by decide) (by assumption)) | exact st_e (by omega) (st_e (by omega) (by assumption))) (And.intro rfl (ab_inv_of hc (by first | decide | omega) (by omega) (by omega) ?_)))
      intro z σ' hp
      obtain ⟨hg, hp⟩ := hp
      have h9' : σ'.2 319 = some (lgc u9) := (hg.2 319 (by omega) (by unfold fcA; omega)).trans h9
      have hm : ∀ a, 57 ≤ a → a ≤ 318 → σ'.2 a = σ.2 a := fun a h1 h2 => hg.2 a (by omega) (by unfold fcA; omega)
      have hs' := hg.1
      obtain ⟨rfl, hC⟩ := hp
      refine ⟨(1, 13, 17, 4, 4), by decide, rfl, ?_⟩
      refine hA 4 _ rfl _ _ _ _ _ ?_
      exact ⟨hs', hm, u9, h9', rfl, hC⟩
set_option maxRecDepth 100000 in
set_option maxHeartbeats 1000000 in
theorem h_readings (hI : CI σ cc rows K va ad R f n pl c r) (k what : Int) (hk : ab_R k) (hwhat : ab_R what){u9 : Nat → Int} (h9 : σ.2 319 = some (lgc u9)) : ab_callH 11 4 24 yL_readings [rf 0, .inl k, .inl what, rf 319] σ (hlP σ (cc, rows, K, va, R, f, n, pl, c) r (fun i => (i : Int) + 1) (stq (cc, rows, K, va, R, f, n, pl, c) (sp_readings cc K k what))) := by
  have hs := hI.s
  have h0 := hI.1
  have hc := ab_call_mono (f_readings hI k what hk hwhat) (fun _ _ h => pure_st h)
  generalize ho : (stq (cc, rows, K, va, R, f, n, pl, c) (sp_readings cc K k what)) = o at hc
  have hi : ∀ i, o = .inr i → i = 0 ∨ i = 1 := fun i h => by
    subst h
    exact on_readings (stq_i ho)
  clear ho
  rcases o with ⟨x, S1⟩ | i
  · refine eL_readings rfl (fun At hA => ?_)
    refine hA 0 _ rfl _ _ _ _ _ ?_
    refine Exists.intro _ (And.intro (by first | assumption | exact st_s | exact st_e (by decide) (by assumption) | exact st_e (by omega) (by assumption) | exact st_e (by decide) st_s | exact st_e (by omega) st_s | exact st_e (by decide) (st_e (by decide) (by assumption)) | exact st_e (by omega) (st_e (by omega) (by assumption))) (And.intro rfl (ab_inv_of hc (by first | decide | omega) (by omega) (by omega) ?_)))
    intro z σ' hp
    obtain ⟨hg, hp⟩ := hp
    have h9' : σ'.2 319 = some (lgc u9) := (hg.2 319 (by omega) (by unfold fcA; omega)).trans h9
    have hm : ∀ a, 57 ≤ a → a ≤ 318 → σ'.2 a = σ.2 a := fun a h1 h2 => hg.2 a (by omega) (by unfold fcA; omega)
    have hs' := hg.1
    obtain ⟨rfl, hC⟩ := hp
    have fin : ∀ (v : Int) (L : ab_L) (k n : Nat), v = ab_wr x → At 5 L [] (ab_st σ' 319 (lgc (ab_up u9 0 v))) k n := fun v L k n hv => by
      refine hA 5 _ rfl _ _ _ _ _ ?_
      refine ⟨hs', fun a h1 h2 => (st_n (by omega)).trans (hm a h1 h2), _, st_s, rfl, ab_up_s.trans hv, hC.keep (A := fun a => a = 319) ⟨Nat.le_refl _, fun a _ h2 => st_n h2⟩ (fun a h => by omega)⟩
    refine Exists.intro _ (Exists.intro _ (And.intro (by first | assumption | exact st_s | exact st_e (by decide) (by assumption) | exact st_e (by omega) (by assumption) | exact st_e (by decide) st_s | exact st_e (by omega) st_s | exact st_e (by decide) (st_e (by decide) (by assumption)) | exact st_e (by omega) (st_e (by omega) (by assumption))) (And.intro (by first | omega | (simp only [Int.toNat_natCast]; omega)) ?_)))
    exact fin _ _ _ _ rfl
  · rcases hi i rfl with rfl | rfl
    · refine eL_readings rfl (fun At hA => ?_)
      refine hA 0 _ rfl _ _ _ _ _ ?_
      refine Exists.intro _ (And.intro (by first | assumption | exact st_s | exact st_e (by decide) (by assumption) | exact st_e (by omega) (by assumption) | exact st_e (by decide) st_s | exact st_e (by omega) st_s | exact st_e (by decide) (st_e (by decide) (by assumption)) | exact st_e (by omega) (st_e (by omega) (by assumption))) (And.intro rfl (ab_inv_of hc (by first | decide | omega) (by omega) (by omega) ?_)))
      intro z σ' hp
      obtain ⟨hg, hp⟩ := hp
      have h9' : σ'.2 319 = some (lgc u9) := (hg.2 319 (by omega) (by unfold fcA; omega)).trans h9
      have hm : ∀ a, 57 ≤ a → a ≤ 318 → σ'.2 a = σ.2 a := fun a h1 h2 => hg.2 a (by omega) (by unfold fcA; omega)
      have hs' := hg.1
      obtain ⟨rfl, hC⟩ := hp
      refine ⟨(0, 28, 13, 2, 4), by decide, rfl, ?_⟩
      refine hA 2 _ rfl _ _ _ _ _ ?_
      exact ⟨hs', hm, u9, h9', rfl, hC⟩
    · refine eL_readings rfl (fun At hA => ?_)
      refine hA 0 _ rfl _ _ _ _ _ ?_
      refine Exists.intro _ (And.intro (by first | assumption | exact st_s | exact st_e (by decide) (by assumption) | exact st_e (by omega) (by assumption) | exact st_e (by decide) st_s | exact st_e (by omega) st_s | exact st_e (by decide) (st_e (by decide) (by assumption)) | exact st_e (by omega) (st_e (by omega) (by assumption))) (And.intro rfl (ab_inv_of hc (by first | decide | omega) (by omega) (by omega) ?_)))
      intro z σ' hp
      obtain ⟨hg, hp⟩ := hp
      have h9' : σ'.2 319 = some (lgc u9) := (hg.2 319 (by omega) (by unfold fcA; omega)).trans h9
      have hm : ∀ a, 57 ≤ a → a ≤ 318 → σ'.2 a = σ.2 a := fun a h1 h2 => hg.2 a (by omega) (by unfold fcA; omega)
      have hs' := hg.1
      obtain ⟨rfl, hC⟩ := hp
      refine ⟨(1, 13, 17, 4, 4), by decide, rfl, ?_⟩
      refine hA 4 _ rfl _ _ _ _ _ ?_
      exact ⟨hs', hm, u9, h9', rfl, hC⟩
set_option maxRecDepth 100000 in
set_option maxHeartbeats 1000000 in
theorem h_result (hI : CI σ cc rows K va ad R f n pl c r) (k what : Int) (hk : ab_R k) (hwhat : ab_R what){u9 : Nat → Int} (h9 : σ.2 319 = some (lgc u9)) : ab_callH 11 4 24 yL_result [rf 0, .inl k, .inl what, rf 319] σ (hlP σ (cc, rows, K, va, R, f, n, pl, c) r (fun i => (i : Int) + 1) (stq (cc, rows, K, va, R, f, n, pl, c) (sp_result rows R k what))) := by
  have hs := hI.s
  have h0 := hI.1
  have hc := ab_call_mono (f_result hI k what hk hwhat) (fun _ _ h => pure_st h)
  generalize ho : (stq (cc, rows, K, va, R, f, n, pl, c) (sp_result rows R k what)) = o at hc
  have hi : ∀ i, o = .inr i → i = 0 ∨ i = 1 := fun i h => by
    subst h
    exact on_result (stq_i ho)
  clear ho
  rcases o with ⟨x, S1⟩ | i
  · refine eL_result rfl (fun At hA => ?_)
    refine hA 0 _ rfl _ _ _ _ _ ?_
    refine Exists.intro _ (And.intro (by first | assumption | exact st_s | exact st_e (by decide) (by assumption) | exact st_e (by omega) (by assumption) | exact st_e (by decide) st_s | exact st_e (by omega) st_s | exact st_e (by decide) (st_e (by decide) (by assumption)) | exact st_e (by omega) (st_e (by omega) (by assumption))) (And.intro rfl (ab_inv_of hc (by first | decide | omega) (by omega) (by omega) ?_)))
    intro z σ' hp
    obtain ⟨hg, hp⟩ := hp
    have h9' : σ'.2 319 = some (lgc u9) := (hg.2 319 (by omega) (by unfold fcA; omega)).trans h9
    have hm : ∀ a, 57 ≤ a → a ≤ 318 → σ'.2 a = σ.2 a := fun a h1 h2 => hg.2 a (by omega) (by unfold fcA; omega)
    have hs' := hg.1
    obtain ⟨rfl, hC⟩ := hp
    have fin : ∀ (v : Int) (L : ab_L) (k n : Nat), v = ab_wr x → At 5 L [] (ab_st σ' 319 (lgc (ab_up u9 0 v))) k n := fun v L k n hv => by
      refine hA 5 _ rfl _ _ _ _ _ ?_
      refine ⟨hs', fun a h1 h2 => (st_n (by omega)).trans (hm a h1 h2), _, st_s, rfl, ab_up_s.trans hv, hC.keep (A := fun a => a = 319) ⟨Nat.le_refl _, fun a _ h2 => st_n h2⟩ (fun a h => by omega)⟩
    refine Exists.intro _ (Exists.intro _ (And.intro (by first | assumption | exact st_s | exact st_e (by decide) (by assumption) | exact st_e (by omega) (by assumption) | exact st_e (by decide) st_s | exact st_e (by omega) st_s | exact st_e (by decide) (st_e (by decide) (by assumption)) | exact st_e (by omega) (st_e (by omega) (by assumption))) (And.intro (by first | omega | (simp only [Int.toNat_natCast]; omega)) ?_)))
    exact fin _ _ _ _ rfl
  · rcases hi i rfl with rfl | rfl
    · refine eL_result rfl (fun At hA => ?_)
      refine hA 0 _ rfl _ _ _ _ _ ?_
      refine Exists.intro _ (And.intro (by first | assumption | exact st_s | exact st_e (by decide) (by assumption) | exact st_e (by omega) (by assumption) | exact st_e (by decide) st_s | exact st_e (by omega) st_s | exact st_e (by decide) (st_e (by decide) (by assumption)) | exact st_e (by omega) (st_e (by omega) (by assumption))) (And.intro rfl (ab_inv_of hc (by first | decide | omega) (by omega) (by omega) ?_)))
      intro z σ' hp
      obtain ⟨hg, hp⟩ := hp
      have h9' : σ'.2 319 = some (lgc u9) := (hg.2 319 (by omega) (by unfold fcA; omega)).trans h9
      have hm : ∀ a, 57 ≤ a → a ≤ 318 → σ'.2 a = σ.2 a := fun a h1 h2 => hg.2 a (by omega) (by unfold fcA; omega)
      have hs' := hg.1
      obtain ⟨rfl, hC⟩ := hp
      refine ⟨(0, 28, 13, 2, 4), by decide, rfl, ?_⟩
      refine hA 2 _ rfl _ _ _ _ _ ?_
      exact ⟨hs', hm, u9, h9', rfl, hC⟩
    · refine eL_result rfl (fun At hA => ?_)
      refine hA 0 _ rfl _ _ _ _ _ ?_
      refine Exists.intro _ (And.intro (by first | assumption | exact st_s | exact st_e (by decide) (by assumption) | exact st_e (by omega) (by assumption) | exact st_e (by decide) st_s | exact st_e (by omega) st_s | exact st_e (by decide) (st_e (by decide) (by assumption)) | exact st_e (by omega) (st_e (by omega) (by assumption))) (And.intro rfl (ab_inv_of hc (by first | decide | omega) (by omega) (by omega) ?_)))
      intro z σ' hp
      obtain ⟨hg, hp⟩ := hp
      have h9' : σ'.2 319 = some (lgc u9) := (hg.2 319 (by omega) (by unfold fcA; omega)).trans h9
      have hm : ∀ a, 57 ≤ a → a ≤ 318 → σ'.2 a = σ.2 a := fun a h1 h2 => hg.2 a (by omega) (by unfold fcA; omega)
      have hs' := hg.1
      obtain ⟨rfl, hC⟩ := hp
      refine ⟨(1, 13, 17, 4, 4), by decide, rfl, ?_⟩
      refine hA 4 _ rfl _ _ _ _ _ ?_
      exact ⟨hs', hm, u9, h9', rfl, hC⟩
set_option maxRecDepth 100000 in
set_option maxHeartbeats 1000000 in
theorem h_select (hI : CI σ cc rows K va ad R f n pl c r) (k x : Int) (hk : ab_R k) (hx : ab_R x){u9 : Nat → Int} (h9 : σ.2 319 = some (lgc u9)) : ab_callH 11 4 24 yL_select [rf 0, .inl k, .inl x, rf 319] σ (hlP σ (cc, rows, K, va, R, f, n, pl, c) r (fun i => (i : Int) + 1) (stq (cc, rows, K, va, R, f, n, pl, c) (sp_select R k x))) := by
  have hs := hI.s
  have h0 := hI.1
  have hc := ab_call_mono (f_select hI k x hk hx) (fun _ _ h => pure_st h)
  generalize ho : (stq (cc, rows, K, va, R, f, n, pl, c) (sp_select R k x)) = o at hc
  have hi : ∀ i, o = .inr i → i = 0 := fun i h => by
    subst h
    exact on_select (stq_i ho)
  clear ho
  rcases o with ⟨x, S1⟩ | i
  · refine eL_select rfl (fun At hA => ?_)
    refine hA 0 _ rfl _ _ _ _ _ ?_
    refine Exists.intro _ (And.intro (by first | assumption | exact st_s | exact st_e (by decide) (by assumption) | exact st_e (by omega) (by assumption) | exact st_e (by decide) st_s | exact st_e (by omega) st_s | exact st_e (by decide) (st_e (by decide) (by assumption)) | exact st_e (by omega) (st_e (by omega) (by assumption))) (And.intro rfl (ab_inv_of hc (by first | decide | omega) (by omega) (by omega) ?_)))
    intro z σ' hp
    obtain ⟨hg, hp⟩ := hp
    have h9' : σ'.2 319 = some (lgc u9) := (hg.2 319 (by omega) (by unfold fcA; omega)).trans h9
    have hm : ∀ a, 57 ≤ a → a ≤ 318 → σ'.2 a = σ.2 a := fun a h1 h2 => hg.2 a (by omega) (by unfold fcA; omega)
    have hs' := hg.1
    obtain ⟨rfl, hC⟩ := hp
    have fin : ∀ (v : Int) (L : ab_L) (k n : Nat), v = ab_wr x → At 3 L [] (ab_st σ' 319 (lgc (ab_up u9 0 v))) k n := fun v L k n hv => by
      refine hA 3 _ rfl _ _ _ _ _ ?_
      refine ⟨hs', fun a h1 h2 => (st_n (by omega)).trans (hm a h1 h2), _, st_s, rfl, ab_up_s.trans hv, hC.keep (A := fun a => a = 319) ⟨Nat.le_refl _, fun a _ h2 => st_n h2⟩ (fun a h => by omega)⟩
    refine Exists.intro _ (Exists.intro _ (And.intro (by first | assumption | exact st_s | exact st_e (by decide) (by assumption) | exact st_e (by omega) (by assumption) | exact st_e (by decide) st_s | exact st_e (by omega) st_s | exact st_e (by decide) (st_e (by decide) (by assumption)) | exact st_e (by omega) (st_e (by omega) (by assumption))) (And.intro (by first | omega | (simp only [Int.toNat_natCast]; omega)) ?_)))
    exact fin _ _ _ _ rfl
  · obtain rfl := hi i rfl
    · refine eL_select rfl (fun At hA => ?_)
      refine hA 0 _ rfl _ _ _ _ _ ?_
      refine Exists.intro _ (And.intro (by first | assumption | exact st_s | exact st_e (by decide) (by assumption) | exact st_e (by omega) (by assumption) | exact st_e (by decide) st_s | exact st_e (by omega) st_s | exact st_e (by decide) (st_e (by decide) (by assumption)) | exact st_e (by omega) (st_e (by omega) (by assumption))) (And.intro rfl (ab_inv_of hc (by first | decide | omega) (by omega) (by omega) ?_)))
      intro z σ' hp
      obtain ⟨hg, hp⟩ := hp
      have h9' : σ'.2 319 = some (lgc u9) := (hg.2 319 (by omega) (by unfold fcA; omega)).trans h9
      have hm : ∀ a, 57 ≤ a → a ≤ 318 → σ'.2 a = σ.2 a := fun a h1 h2 => hg.2 a (by omega) (by unfold fcA; omega)
      have hs' := hg.1
      obtain ⟨rfl, hC⟩ := hp
      refine ⟨(0, 28, 13, 2, 4), by decide, rfl, ?_⟩
      refine hA 2 _ rfl _ _ _ _ _ ?_
      exact ⟨hs', hm, u9, h9', rfl, hC⟩
set_option maxRecDepth 100000 in
set_option maxHeartbeats 1000000 in
theorem h_span (hI : CI σ cc rows K va ad R f n pl c r) (k res lo hi : Int) (hk : ab_R k) (hres : ab_R res) (hlo : ab_R lo) (hhi : ab_R hi){u9 : Nat → Int} (h9 : σ.2 319 = some (lgc u9)) : ab_callH 11 4 24 yL_span [rf 0, .inl k, .inl res, .inl lo, .inl hi, rf 319] σ (hlP σ (cc, rows, K, va, R, f, n, pl, c) r (fun i => (i : Int) + 1) (stq (cc, rows, K, va, R, f, n, pl, c) (sp_span cc rows va R k res lo hi))) := by
  have hs := hI.s
  have h0 := hI.1
  have hc := ab_call_mono (f_span hI k res lo hi hk hres hlo hhi) (fun _ _ h => pure_st h)
  generalize ho : (stq (cc, rows, K, va, R, f, n, pl, c) (sp_span cc rows va R k res lo hi)) = o at hc
  have hi : ∀ i, o = .inr i → i = 0 ∨ i = 1 := fun i h => by
    subst h
    exact on_span (stq_i ho)
  clear ho
  rcases o with ⟨x, S1⟩ | i
  · refine eL_span rfl (fun At hA => ?_)
    refine hA 0 _ rfl _ _ _ _ _ ?_
    refine Exists.intro _ (And.intro (by first | assumption | exact st_s | exact st_e (by decide) (by assumption) | exact st_e (by omega) (by assumption) | exact st_e (by decide) st_s | exact st_e (by omega) st_s | exact st_e (by decide) (st_e (by decide) (by assumption)) | exact st_e (by omega) (st_e (by omega) (by assumption))) (And.intro rfl (ab_inv_of hc (by first | decide | omega) (by omega) (by omega) ?_)))
    intro z σ' hp
    obtain ⟨hg, hp⟩ := hp
    have h9' : σ'.2 319 = some (lgc u9) := (hg.2 319 (by omega) (by unfold fcA; omega)).trans h9
    have hm : ∀ a, 57 ≤ a → a ≤ 318 → σ'.2 a = σ.2 a := fun a h1 h2 => hg.2 a (by omega) (by unfold fcA; omega)
    have hs' := hg.1
    obtain ⟨rfl, hC⟩ := hp
    have fin : ∀ (v : Int) (L : ab_L) (k n : Nat), v = ab_wr x → At 5 L [] (ab_st σ' 319 (lgc (ab_up u9 0 v))) k n := fun v L k n hv => by
      refine hA 5 _ rfl _ _ _ _ _ ?_
      refine ⟨hs', fun a h1 h2 => (st_n (by omega)).trans (hm a h1 h2), _, st_s, rfl, ab_up_s.trans hv, hC.keep (A := fun a => a = 319) ⟨Nat.le_refl _, fun a _ h2 => st_n h2⟩ (fun a h => by omega)⟩
    refine Exists.intro _ (Exists.intro _ (And.intro (by first | assumption | exact st_s | exact st_e (by decide) (by assumption) | exact st_e (by omega) (by assumption) | exact st_e (by decide) st_s | exact st_e (by omega) st_s | exact st_e (by decide) (st_e (by decide) (by assumption)) | exact st_e (by omega) (st_e (by omega) (by assumption))) (And.intro (by first | omega | (simp only [Int.toNat_natCast]; omega)) ?_)))
    exact fin _ _ _ _ rfl
  · rcases hi i rfl with rfl | rfl
    · refine eL_span rfl (fun At hA => ?_)
      refine hA 0 _ rfl _ _ _ _ _ ?_
      refine Exists.intro _ (And.intro (by first | assumption | exact st_s | exact st_e (by decide) (by assumption) | exact st_e (by omega) (by assumption) | exact st_e (by decide) st_s | exact st_e (by omega) st_s | exact st_e (by decide) (st_e (by decide) (by assumption)) | exact st_e (by omega) (st_e (by omega) (by assumption))) (And.intro rfl (ab_inv_of hc (by first | decide | omega) (by omega) (by omega) ?_)))
      intro z σ' hp
      obtain ⟨hg, hp⟩ := hp
      have h9' : σ'.2 319 = some (lgc u9) := (hg.2 319 (by omega) (by unfold fcA; omega)).trans h9
      have hm : ∀ a, 57 ≤ a → a ≤ 318 → σ'.2 a = σ.2 a := fun a h1 h2 => hg.2 a (by omega) (by unfold fcA; omega)
      have hs' := hg.1
      obtain ⟨rfl, hC⟩ := hp
      refine ⟨(0, 28, 17, 2, 6), by decide, rfl, ?_⟩
      refine hA 2 _ rfl _ _ _ _ _ ?_
      exact ⟨hs', hm, u9, h9', rfl, hC⟩
    · refine eL_span rfl (fun At hA => ?_)
      refine hA 0 _ rfl _ _ _ _ _ ?_
      refine Exists.intro _ (And.intro (by first | assumption | exact st_s | exact st_e (by decide) (by assumption) | exact st_e (by omega) (by assumption) | exact st_e (by decide) st_s | exact st_e (by omega) st_s | exact st_e (by decide) (st_e (by decide) (by assumption)) | exact st_e (by omega) (st_e (by omega) (by assumption))) (And.intro rfl (ab_inv_of hc (by first | decide | omega) (by omega) (by omega) ?_)))
      intro z σ' hp
      obtain ⟨hg, hp⟩ := hp
      have h9' : σ'.2 319 = some (lgc u9) := (hg.2 319 (by omega) (by unfold fcA; omega)).trans h9
      have hm : ∀ a, 57 ≤ a → a ≤ 318 → σ'.2 a = σ.2 a := fun a h1 h2 => hg.2 a (by omega) (by unfold fcA; omega)
      have hs' := hg.1
      obtain ⟨rfl, hC⟩ := hp
      refine ⟨(1, 13, 21, 4, 6), by decide, rfl, ?_⟩
      refine hA 4 _ rfl _ _ _ _ _ ?_
      exact ⟨hs', hm, u9, h9', rfl, hC⟩
end Hlp
