-- ===== the law's helpers, on =====
section Hlp
variable {σ : ab_H} {cc rows : Nat} {K : Nat → CT} {va : Nat → Nat → Nat} {ad : Nat → Nat} {R : Nat → V1} {f : Nat → Int} {n : Nat} {pl : Int} {c : C3} {r : Nat → Nat}
set_option maxRecDepth 100000 in
set_option maxHeartbeats 1000000 in
theorem h_ask (hI : CI σ cc rows K va ad R f n pl c r) (k x : Int) (hk : ab_R k) (hx : ab_R x){u9 : Nat → Int} (h9 : σ.2 319 = some (lgc u9)) : ab_callH 23 2 12 yL_ask [rf 0, .inl k, .inl x, rf 319] σ (hlP σ (cc, rows, K, va, R, f, n, pl, c) r (fun i => (i : Int) + 1) (sg_ask cc rows K va R f n c k x)) := by
  have hs := hI.s
  have h0 := hI.1
  have hc := f_ask hI k x hk hx
  generalize ho : (sg_ask cc rows K va R f n c k x) = o at hc
  have hi : ∀ i, o = .inr i → i = 0 ∨ i = 1 := fun i h => by
    subst h
    exact on_ask ho
  clear ho
  rcases o with ⟨x, S1⟩ | i
  · refine eL_ask rfl (fun At hA => ?_)
    refine hA 0 _ rfl _ _ _ _ _ ?_
    refine Exists.intro _ (And.intro (by first | assumption | exact st_s | exact st_e (by decide) (by assumption) | exact st_e (by omega) (by assumption) | exact st_e (by decide) st_s | exact st_e (by omega) st_s | exact st_e (by decide) (st_e (by decide) (by assumption)) | exact st_e (by omega) (st_e (by omega) (by assumption))) (And.intro rfl (ab_inv_of hc (by first | decide | omega) (by omega) (by omega) ?_)))
    intro z σ' hp
    obtain ⟨hg, hp⟩ := hp
    have h9' : σ'.2 319 = some (lgc u9) := (hg.2 319 (by omega) (by unfold fcA; omega)).trans h9
    have hm : ∀ a, 57 ≤ a → a ≤ 318 → σ'.2 a = σ.2 a := fun a h1 h2 => hg.2 a (by omega) (by unfold fcA; omega)
    have hs' := hg.1
    obtain ⟨rfl, hC⟩ := hp
    have fin : ∀ (v : Int) (L : ab_L) (k n : Nat), v = ab_wr x → At 5 L [] (ab_st σ' 319 (lgc (ab_up u9 0 v))) k n := fun v L k n hv => by
      refine hA 5 _ rfl _ _ _ _ _ ?_
      refine ⟨hs', fun a h1 h2 => (st_n (by omega)).trans (hm a h1 h2), _, st_s, rfl, ab_up_s.trans hv, hC.keep (A := fun a => a = 319) ⟨Nat.le_refl _, fun a _ h2 => st_n h2⟩ (fun a h => by omega)⟩
    refine Exists.intro _ (Exists.intro _ (And.intro (by first | assumption | exact st_s | exact st_e (by decide) (by assumption) | exact st_e (by omega) (by assumption) | exact st_e (by decide) st_s | exact st_e (by omega) st_s | exact st_e (by decide) (st_e (by decide) (by assumption)) | exact st_e (by omega) (st_e (by omega) (by assumption))) (And.intro (by first | omega | (simp only [Int.toNat_natCast]; omega)) ?_)))
    exact fin _ _ _ _ rfl
  · rcases hi i rfl with rfl | rfl
    · refine eL_ask rfl (fun At hA => ?_)
      refine hA 0 _ rfl _ _ _ _ _ ?_
      refine Exists.intro _ (And.intro (by first | assumption | exact st_s | exact st_e (by decide) (by assumption) | exact st_e (by omega) (by assumption) | exact st_e (by decide) st_s | exact st_e (by omega) st_s | exact st_e (by decide) (st_e (by decide) (by assumption)) | exact st_e (by omega) (st_e (by omega) (by assumption))) (And.intro rfl (ab_inv_of hc (by first | decide | omega) (by omega) (by omega) ?_)))
      intro z σ' hp
      obtain ⟨hg, hp⟩ := hp
      have h9' : σ'.2 319 = some (lgc u9) := (hg.2 319 (by omega) (by unfold fcA; omega)).trans h9
      have hm : ∀ a, 57 ≤ a → a ≤ 318 → σ'.2 a = σ.2 a := fun a h1 h2 => hg.2 a (by omega) (by unfold fcA; omega)
      have hs' := hg.1
      obtain ⟨rfl, hC⟩ := hp
      refine ⟨(0, 28, 13, 2, 4), by decide, rfl, ?_⟩
      refine hA 2 _ rfl _ _ _ _ _ ?_
      exact ⟨hs', hm, u9, h9', rfl, hC⟩
    · refine eL_ask rfl (fun At hA => ?_)
      refine hA 0 _ rfl _ _ _ _ _ ?_
      refine Exists.intro _ (And.intro (by first | assumption | exact st_s | exact st_e (by decide) (by assumption) | exact st_e (by omega) (by assumption) | exact st_e (by decide) st_s | exact st_e (by omega) st_s | exact st_e (by decide) (st_e (by decide) (by assumption)) | exact st_e (by omega) (st_e (by omega) (by assumption))) (And.intro rfl (ab_inv_of hc (by first | decide | omega) (by omega) (by omega) ?_)))
      intro z σ' hp
      obtain ⟨hg, hp⟩ := hp
      have h9' : σ'.2 319 = some (lgc u9) := (hg.2 319 (by omega) (by unfold fcA; omega)).trans h9
      have hm : ∀ a, 57 ≤ a → a ≤ 318 → σ'.2 a = σ.2 a := fun a h1 h2 => hg.2 a (by omega) (by unfold fcA; omega)
      have hs' := hg.1
      obtain ⟨rfl, hC⟩ := hp
      refine ⟨(1, 13, 17, 4, 4), by decide, rfl, ?_⟩
      refine hA 4 _ rfl _ _ _ _ _ ?_
      exact ⟨hs', hm, u9, h9', rfl, hC⟩
set_option maxRecDepth 100000 in
set_option maxHeartbeats 1000000 in
theorem h_base (hI : CI σ cc rows K va ad R f n pl c r) (k p : Int) (hk : ab_R k) (hp : ab_R p){u9 : Nat → Int} (h9 : σ.2 319 = some (lgc u9)) : ab_callH 11 4 24 yL_base [rf 0, .inl k, .inl p, rf 319] σ (hlP σ (cc, rows, K, va, R, f, n, pl, c) r (fun i => (i : Int) + 1) (stq (cc, rows, K, va, R, f, n, pl, c) (sp_base cc K k p))) := by
  have hs := hI.s
  have h0 := hI.1
  have hc := ab_call_mono (f_base hI k p hk hp) (fun _ _ h => pure_st h)
  generalize ho : (stq (cc, rows, K, va, R, f, n, pl, c) (sp_base cc K k p)) = o at hc
  have hi : ∀ i, o = .inr i → i = 0 := fun i h => by
    subst h
    exact on_base (stq_i ho)
  clear ho
  rcases o with ⟨x, S1⟩ | i
  · refine eL_base rfl (fun At hA => ?_)
    refine hA 0 _ rfl _ _ _ _ _ ?_
    refine Exists.intro _ (And.intro (by first | assumption | exact st_s | exact st_e (by decide) (by assumption) | exact st_e (by omega) (by assumption) | exact st_e (by decide) st_s | exact st_e (by omega) st_s | exact st_e (by decide) (st_e (by decide) (by assumption)) | exact st_e (by omega) (st_e (by omega) (by assumption))) (And.intro rfl (ab_inv_of hc (by first | decide | omega) (by omega) (by omega) ?_)))
    intro z σ' hp
    obtain ⟨hg, hp⟩ := hp
    have h9' : σ'.2 319 = some (lgc u9) := (hg.2 319 (by omega) (by unfold fcA; omega)).trans h9
    have hm : ∀ a, 57 ≤ a → a ≤ 318 → σ'.2 a = σ.2 a := fun a h1 h2 => hg.2 a (by omega) (by unfold fcA; omega)
    have hs' := hg.1
    obtain ⟨rfl, hC⟩ := hp
    have fin : ∀ (v : Int) (L : ab_L) (k n : Nat), v = ab_wr x → At 3 L [] (ab_st σ' 319 (lgc (ab_up u9 0 v))) k n := fun v L k n hv => by
      refine hA 3 _ rfl _ _ _ _ _ ?_
      refine ⟨hs', fun a h1 h2 => (st_n (by omega)).trans (hm a h1 h2), _, st_s, rfl, ab_up_s.trans hv, hC.keep (A := fun a => a = 319) ⟨Nat.le_refl _, fun a _ h2 => st_n h2⟩ (fun a h => by omega)⟩
    refine Exists.intro _ (Exists.intro _ (And.intro (by first | assumption | exact st_s | exact st_e (by decide) (by assumption) | exact st_e (by omega) (by assumption) | exact st_e (by decide) st_s | exact st_e (by omega) st_s | exact st_e (by decide) (st_e (by decide) (by assumption)) | exact st_e (by omega) (st_e (by omega) (by assumption))) (And.intro (by first | omega | (simp only [Int.toNat_natCast]; omega)) ?_)))
    exact fin _ _ _ _ rfl
  · obtain rfl := hi i rfl
    · refine eL_base rfl (fun At hA => ?_)
      refine hA 0 _ rfl _ _ _ _ _ ?_
      refine Exists.intro _ (And.intro (by first | assumption | exact st_s | exact st_e (by decide) (by assumption) | exact st_e (by omega) (by assumption) | exact st_e (by decide) st_s | exact st_e (by omega) st_s | exact st_e (by decide) (st_e (by decide) (by assumption)) | exact st_e (by omega) (st_e (by omega) (by assumption))) (And.intro rfl (ab_inv_of hc (by first | decide | omega) (by omega) (by omega) ?_)))
      intro z σ' hp
      obtain ⟨hg, hp⟩ := hp
      have h9' : σ'.2 319 = some (lgc u9) := (hg.2 319 (by omega) (by unfold fcA; omega)).trans h9
      have hm : ∀ a, 57 ≤ a → a ≤ 318 → σ'.2 a = σ.2 a := fun a h1 h2 => hg.2 a (by omega) (by unfold fcA; omega)
      have hs' := hg.1
      obtain ⟨rfl, hC⟩ := hp
      refine ⟨(0, 28, 13, 2, 4), by decide, rfl, ?_⟩
      refine hA 2 _ rfl _ _ _ _ _ ?_
      exact ⟨hs', hm, u9, h9', rfl, hC⟩
set_option maxRecDepth 100000 in
set_option maxHeartbeats 1000000 in
theorem h_column (hI : CI σ cc rows K va ad R f n pl c r) (x : Int) (hx : ab_R x){u9 : Nat → Int} (h9 : σ.2 319 = some (lgc u9)) : ab_callH 11 (2 + clM cc rows f n x) (12 + clN cc rows f n x) yL_column [rf 0, .inl x, rf 319] σ (hlP σ (cc, rows, K, va, R, f, n, pl, c) r (fun i => (i : Int)) (sg_column cc rows K va R f n c x)) := by
  have hs := hI.s
  have h0 := hI.1
  have hc := f_column hI x hx
  generalize ho : (sg_column cc rows K va R f n c x) = o at hc
  have hi : ∀ i, o = .inr i → i = 1 ∨ i = 2 := fun i h => by
    subst h
    exact on_column ho
  clear ho
  rcases o with ⟨x, S1⟩ | i
  · refine eL_column rfl (fun At hA => ?_)
    refine hA 0 _ rfl _ _ _ _ _ ?_
    refine Exists.intro _ (And.intro (by first | assumption | exact st_s | exact st_e (by decide) (by assumption) | exact st_e (by omega) (by assumption) | exact st_e (by decide) st_s | exact st_e (by omega) st_s | exact st_e (by decide) (st_e (by decide) (by assumption)) | exact st_e (by omega) (st_e (by omega) (by assumption))) (And.intro rfl (ab_inv_of hc (by first | decide | omega) (by omega) (by omega) ?_)))
    intro z σ' hp
    obtain ⟨hg, hp⟩ := hp
    have h9' : σ'.2 319 = some (lgc u9) := (hg.2 319 (by omega) (by unfold fcA; omega)).trans h9
    have hm : ∀ a, 57 ≤ a → a ≤ 318 → σ'.2 a = σ.2 a := fun a h1 h2 => hg.2 a (by omega) (by unfold fcA; omega)
    have hs' := hg.1
    obtain ⟨rfl, hC⟩ := hp
    have fin : ∀ (v : Int) (L : ab_L) (k n : Nat), v = ab_wr x → At 5 L [] (ab_st σ' 319 (lgc (ab_up u9 0 v))) k n := fun v L k n hv => by
      refine hA 5 _ rfl _ _ _ _ _ ?_
      refine ⟨hs', fun a h1 h2 => (st_n (by omega)).trans (hm a h1 h2), _, st_s, rfl, ab_up_s.trans hv, hC.keep (A := fun a => a = 319) ⟨Nat.le_refl _, fun a _ h2 => st_n h2⟩ (fun a h => by omega)⟩
    refine Exists.intro _ (Exists.intro _ (And.intro (by first | assumption | exact st_s | exact st_e (by decide) (by assumption) | exact st_e (by omega) (by assumption) | exact st_e (by decide) st_s | exact st_e (by omega) st_s | exact st_e (by decide) (st_e (by decide) (by assumption)) | exact st_e (by omega) (st_e (by omega) (by assumption))) (And.intro (by first | omega | (simp only [Int.toNat_natCast]; omega)) ?_)))
    exact fin _ _ _ _ rfl
  · rcases hi i rfl with rfl | rfl
    · refine eL_column rfl (fun At hA => ?_)
      refine hA 0 _ rfl _ _ _ _ _ ?_
      refine Exists.intro _ (And.intro (by first | assumption | exact st_s | exact st_e (by decide) (by assumption) | exact st_e (by omega) (by assumption) | exact st_e (by decide) st_s | exact st_e (by omega) st_s | exact st_e (by decide) (st_e (by decide) (by assumption)) | exact st_e (by omega) (st_e (by omega) (by assumption))) (And.intro rfl (ab_inv_of hc (by first | decide | omega) (by omega) (by omega) ?_)))
      intro z σ' hp
      obtain ⟨hg, hp⟩ := hp
      have h9' : σ'.2 319 = some (lgc u9) := (hg.2 319 (by omega) (by unfold fcA; omega)).trans h9
      have hm : ∀ a, 57 ≤ a → a ≤ 318 → σ'.2 a = σ.2 a := fun a h1 h2 => hg.2 a (by omega) (by unfold fcA; omega)
      have hs' := hg.1
      obtain ⟨rfl, hC⟩ := hp
      refine ⟨(1, 13, 12, 2, 3), by decide, rfl, ?_⟩
      refine hA 2 _ rfl _ _ _ _ _ ?_
      exact ⟨hs', hm, u9, h9', rfl, hC⟩
    · refine eL_column rfl (fun At hA => ?_)
      refine hA 0 _ rfl _ _ _ _ _ ?_
      refine Exists.intro _ (And.intro (by first | assumption | exact st_s | exact st_e (by decide) (by assumption) | exact st_e (by omega) (by assumption) | exact st_e (by decide) st_s | exact st_e (by omega) st_s | exact st_e (by decide) (st_e (by decide) (by assumption)) | exact st_e (by omega) (st_e (by omega) (by assumption))) (And.intro rfl (ab_inv_of hc (by first | decide | omega) (by omega) (by omega) ?_)))
      intro z σ' hp
      obtain ⟨hg, hp⟩ := hp
      have h9' : σ'.2 319 = some (lgc u9) := (hg.2 319 (by omega) (by unfold fcA; omega)).trans h9
      have hm : ∀ a, 57 ≤ a → a ≤ 318 → σ'.2 a = σ.2 a := fun a h1 h2 => hg.2 a (by omega) (by unfold fcA; omega)
      have hs' := hg.1
      obtain ⟨rfl, hC⟩ := hp
      refine ⟨(2, 15, 15, 4, 3), by decide, rfl, ?_⟩
      refine hA 4 _ rfl _ _ _ _ _ ?_
      exact ⟨hs', hm, u9, h9', rfl, hC⟩
set_option maxRecDepth 100000 in
set_option maxHeartbeats 1000000 in
theorem h_columnOf (hI : CI σ cc rows K va ad R f n pl c r) (k what : Int) (hk : ab_R k) (hwhat : ab_R what){u9 : Nat → Int} (h9 : σ.2 319 = some (lgc u9)) : ab_callH 11 4 24 yL_columnOf [rf 0, .inl k, .inl what, rf 319] σ (hlP σ (cc, rows, K, va, R, f, n, pl, c) r (fun i => (i : Int) + 1) (stq (cc, rows, K, va, R, f, n, pl, c) (sp_columnOf cc rows K va k what))) := by
  have hs := hI.s
  have h0 := hI.1
  have hc := ab_call_mono (f_columnOf hI k what hk hwhat) (fun _ _ h => pure_st h)
  generalize ho : (stq (cc, rows, K, va, R, f, n, pl, c) (sp_columnOf cc rows K va k what)) = o at hc
  have hi : ∀ i, o = .inr i → i = 0 ∨ i = 1 := fun i h => by
    subst h
    exact on_columnOf (stq_i ho)
  clear ho
  rcases o with ⟨x, S1⟩ | i
  · refine eL_columnOf rfl (fun At hA => ?_)
    refine hA 0 _ rfl _ _ _ _ _ ?_
    refine Exists.intro _ (And.intro (by first | assumption | exact st_s | exact st_e (by decide) (by assumption) | exact st_e (by omega) (by assumption) | exact st_e (by decide) st_s | exact st_e (by omega) st_s | exact st_e (by decide) (st_e (by decide) (by assumption)) | exact st_e (by omega) (st_e (by omega) (by assumption))) (And.intro rfl (ab_inv_of hc (by first | decide | omega) (by omega) (by omega) ?_)))
    intro z σ' hp
    obtain ⟨hg, hp⟩ := hp
    have h9' : σ'.2 319 = some (lgc u9) := (hg.2 319 (by omega) (by unfold fcA; omega)).trans h9
    have hm : ∀ a, 57 ≤ a → a ≤ 318 → σ'.2 a = σ.2 a := fun a h1 h2 => hg.2 a (by omega) (by unfold fcA; omega)
    have hs' := hg.1
    obtain ⟨rfl, hC⟩ := hp
    have fin : ∀ (v : Int) (L : ab_L) (k n : Nat), v = ab_wr x → At 5 L [] (ab_st σ' 319 (lgc (ab_up u9 0 v))) k n := fun v L k n hv => by
      refine hA 5 _ rfl _ _ _ _ _ ?_
      refine ⟨hs', fun a h1 h2 => (st_n (by omega)).trans (hm a h1 h2), _, st_s, rfl, ab_up_s.trans hv, hC.keep (A := fun a => a = 319) ⟨Nat.le_refl _, fun a _ h2 => st_n h2⟩ (fun a h => by omega)⟩
    refine Exists.intro _ (Exists.intro _ (And.intro (by first | assumption | exact st_s | exact st_e (by decide) (by assumption) | exact st_e (by omega) (by assumption) | exact st_e (by decide) st_s | exact st_e (by omega) st_s | exact st_e (by decide) (st_e (by decide) (by assumption)) | exact st_e (by omega) (st_e (by omega) (by assumption))) (And.intro (by first | omega | (simp only [Int.toNat_natCast]; omega)) ?_)))
    exact fin _ _ _ _ rfl
  · rcases hi i rfl with rfl | rfl
    · refine eL_columnOf rfl (fun At hA => ?_)
      refine hA 0 _ rfl _ _ _ _ _ ?_
      refine Exists.intro _ (And.intro (by first | assumption | exact st_s | exact st_e (by decide) (by assumption) | exact st_e (by omega) (by assumption) | exact st_e (by decide) st_s | exact st_e (by omega) st_s | exact st_e (by decide) (st_e (by decide) (by assumption)) | exact st_e (by omega) (st_e (by omega) (by assumption))) (And.intro rfl (ab_inv_of hc (by first | decide | omega) (by omega) (by omega) ?_)))
      intro z σ' hp
      obtain ⟨hg, hp⟩ := hp
      have h9' : σ'.2 319 = some (lgc u9) := (hg.2 319 (by omega) (by unfold fcA; omega)).trans h9
      have hm : ∀ a, 57 ≤ a → a ≤ 318 → σ'.2 a = σ.2 a := fun a h1 h2 => hg.2 a (by omega) (by unfold fcA; omega)
      have hs' := hg.1
      obtain ⟨rfl, hC⟩ := hp
      refine ⟨(0, 28, 13, 2, 4), by decide, rfl, ?_⟩
      refine hA 2 _ rfl _ _ _ _ _ ?_
      exact ⟨hs', hm, u9, h9', rfl, hC⟩
    · refine eL_columnOf rfl (fun At hA => ?_)
      refine hA 0 _ rfl _ _ _ _ _ ?_
      refine Exists.intro _ (And.intro (by first | assumption | exact st_s | exact st_e (by decide) (by assumption) | exact st_e (by omega) (by assumption) | exact st_e (by decide) st_s | exact st_e (by omega) st_s | exact st_e (by decide) (st_e (by decide) (by assumption)) | exact st_e (by omega) (st_e (by omega) (by assumption))) (And.intro rfl (ab_inv_of hc (by first | decide | omega) (by omega) (by omega) ?_)))
      intro z σ' hp
      obtain ⟨hg, hp⟩ := hp
      have h9' : σ'.2 319 = some (lgc u9) := (hg.2 319 (by omega) (by unfold fcA; omega)).trans h9
      have hm : ∀ a, 57 ≤ a → a ≤ 318 → σ'.2 a = σ.2 a := fun a h1 h2 => hg.2 a (by omega) (by unfold fcA; omega)
      have hs' := hg.1
      obtain ⟨rfl, hC⟩ := hp
      refine ⟨(1, 13, 17, 4, 4), by decide, rfl, ?_⟩
      refine hA 4 _ rfl _ _ _ _ _ ?_
      exact ⟨hs', hm, u9, h9', rfl, hC⟩
set_option maxRecDepth 100000 in
set_option maxHeartbeats 1000000 in
theorem h_cost (hI : CI σ cc rows K va ad R f n pl c r) (what : Int) (hwhat : ab_R what){u9 : Nat → Int} (h9 : σ.2 319 = some (lgc u9)) : ab_callH 11 4 24 yL_cost [rf 0, .inl what, rf 319] σ (hlP σ (cc, rows, K, va, R, f, n, pl, c) r (fun i => (i : Int)) (stq (cc, rows, K, va, R, f, n, pl, c) (sp_cost c what))) := by
  have hs := hI.s
  have h0 := hI.1
  have hc := ab_call_mono (f_cost hI what hwhat) (fun _ _ h => pure_st h)
  generalize ho : (stq (cc, rows, K, va, R, f, n, pl, c) (sp_cost c what)) = o at hc
  have hi : ∀ i, o = .inr i → i = 1 := fun i h => by
    subst h
    exact on_cost (stq_i ho)
  clear ho
  rcases o with ⟨x, S1⟩ | i
  · refine eL_cost rfl (fun At hA => ?_)
    refine hA 0 _ rfl _ _ _ _ _ ?_
    refine Exists.intro _ (And.intro (by first | assumption | exact st_s | exact st_e (by decide) (by assumption) | exact st_e (by omega) (by assumption) | exact st_e (by decide) st_s | exact st_e (by omega) st_s | exact st_e (by decide) (st_e (by decide) (by assumption)) | exact st_e (by omega) (st_e (by omega) (by assumption))) (And.intro rfl (ab_inv_of hc (by first | decide | omega) (by omega) (by omega) ?_)))
    intro z σ' hp
    obtain ⟨hg, hp⟩ := hp
    have h9' : σ'.2 319 = some (lgc u9) := (hg.2 319 (by omega) (by unfold fcA; omega)).trans h9
    have hm : ∀ a, 57 ≤ a → a ≤ 318 → σ'.2 a = σ.2 a := fun a h1 h2 => hg.2 a (by omega) (by unfold fcA; omega)
    have hs' := hg.1
    obtain ⟨rfl, hC⟩ := hp
    have fin : ∀ (v : Int) (L : ab_L) (k n : Nat), v = ab_wr x → At 3 L [] (ab_st σ' 319 (lgc (ab_up u9 0 v))) k n := fun v L k n hv => by
      refine hA 3 _ rfl _ _ _ _ _ ?_
      refine ⟨hs', fun a h1 h2 => (st_n (by omega)).trans (hm a h1 h2), _, st_s, rfl, ab_up_s.trans hv, hC.keep (A := fun a => a = 319) ⟨Nat.le_refl _, fun a _ h2 => st_n h2⟩ (fun a h => by omega)⟩
    refine Exists.intro _ (Exists.intro _ (And.intro (by first | assumption | exact st_s | exact st_e (by decide) (by assumption) | exact st_e (by omega) (by assumption) | exact st_e (by decide) st_s | exact st_e (by omega) st_s | exact st_e (by decide) (st_e (by decide) (by assumption)) | exact st_e (by omega) (st_e (by omega) (by assumption))) (And.intro (by first | omega | (simp only [Int.toNat_natCast]; omega)) ?_)))
    exact fin _ _ _ _ rfl
  · obtain rfl := hi i rfl
    · refine eL_cost rfl (fun At hA => ?_)
      refine hA 0 _ rfl _ _ _ _ _ ?_
      refine Exists.intro _ (And.intro (by first | assumption | exact st_s | exact st_e (by decide) (by assumption) | exact st_e (by omega) (by assumption) | exact st_e (by decide) st_s | exact st_e (by omega) st_s | exact st_e (by decide) (st_e (by decide) (by assumption)) | exact st_e (by omega) (st_e (by omega) (by assumption))) (And.intro rfl (ab_inv_of hc (by first | decide | omega) (by omega) (by omega) ?_)))
      intro z σ' hp
      obtain ⟨hg, hp⟩ := hp
      have h9' : σ'.2 319 = some (lgc u9) := (hg.2 319 (by omega) (by unfold fcA; omega)).trans h9
      have hm : ∀ a, 57 ≤ a → a ≤ 318 → σ'.2 a = σ.2 a := fun a h1 h2 => hg.2 a (by omega) (by unfold fcA; omega)
      have hs' := hg.1
      obtain ⟨rfl, hC⟩ := hp
      refine ⟨(1, 13, 12, 2, 3), by decide, rfl, ?_⟩
      refine hA 2 _ rfl _ _ _ _ _ ?_
      exact ⟨hs', hm, u9, h9', rfl, hC⟩
set_option maxRecDepth 100000 in
set_option maxHeartbeats 1000000 in
theorem h_delete (hI : CI σ cc rows K va ad R f n pl c r) (row : Int) (hrow : ab_R row){u9 : Nat → Int} (h9 : σ.2 319 = some (lgc u9)) : ab_callH 9 1 6 yL_delete [rf 0, .inl row, rf 319] σ (hlP σ (cc, rows, K, va, R, f, n, pl, c) r (fun i => (i : Int) + 1) (sg_delete cc rows K va R f n pl c row)) := by
  have hs := hI.s
  have h0 := hI.1
  have hc := f_delete hI row hrow
  generalize ho : (sg_delete cc rows K va R f n pl c row) = o at hc
  have hi : ∀ i, o = .inr i → i = 0 := fun i h => by
    subst h
    exact on_delete ho
  clear ho
  rcases o with ⟨x, S1⟩ | i
  · refine eL_delete rfl (fun At hA => ?_)
    refine hA 0 _ rfl _ _ _ _ _ ?_
    refine Exists.intro _ (And.intro (by first | assumption | exact st_s | exact st_e (by decide) (by assumption) | exact st_e (by omega) (by assumption) | exact st_e (by decide) st_s | exact st_e (by omega) st_s | exact st_e (by decide) (st_e (by decide) (by assumption)) | exact st_e (by omega) (st_e (by omega) (by assumption))) (And.intro rfl (ab_inv_of hc (by first | decide | omega) (by omega) (by omega) ?_)))
    intro z σ' hp
    obtain ⟨hg, hp⟩ := hp
    have h9' : σ'.2 319 = some (lgc u9) := (hg.2 319 (by omega) (by unfold fcA; omega)).trans h9
    have hm : ∀ a, 57 ≤ a → a ≤ 318 → σ'.2 a = σ.2 a := fun a h1 h2 => hg.2 a (by omega) (by unfold fcA; omega)
    have hs' := hg.1
    obtain ⟨rfl, hC⟩ := hp
    have fin : ∀ (v : Int) (L : ab_L) (k n : Nat), v = ab_wr x → At 3 L [] (ab_st σ' 319 (lgc (ab_up u9 0 v))) k n := fun v L k n hv => by
      refine hA 3 _ rfl _ _ _ _ _ ?_
      refine ⟨hs', fun a h1 h2 => (st_n (by omega)).trans (hm a h1 h2), _, st_s, rfl, ab_up_s.trans hv, hC.keep (A := fun a => a = 319) ⟨Nat.le_refl _, fun a _ h2 => st_n h2⟩ (fun a h => by omega)⟩
    refine Exists.intro _ (Exists.intro _ (And.intro (by first | assumption | exact st_s | exact st_e (by decide) (by assumption) | exact st_e (by omega) (by assumption) | exact st_e (by decide) st_s | exact st_e (by omega) st_s | exact st_e (by decide) (st_e (by decide) (by assumption)) | exact st_e (by omega) (st_e (by omega) (by assumption))) (And.intro (by first | omega | (simp only [Int.toNat_natCast]; omega)) ?_)))
    exact fin _ _ _ _ rfl
  · obtain rfl := hi i rfl
    · refine eL_delete rfl (fun At hA => ?_)
      refine hA 0 _ rfl _ _ _ _ _ ?_
      refine Exists.intro _ (And.intro (by first | assumption | exact st_s | exact st_e (by decide) (by assumption) | exact st_e (by omega) (by assumption) | exact st_e (by decide) st_s | exact st_e (by omega) st_s | exact st_e (by decide) (st_e (by decide) (by assumption)) | exact st_e (by omega) (st_e (by omega) (by assumption))) (And.intro rfl (ab_inv_of hc (by first | decide | omega) (by omega) (by omega) ?_)))
      intro z σ' hp
      obtain ⟨hg, hp⟩ := hp
      have h9' : σ'.2 319 = some (lgc u9) := (hg.2 319 (by omega) (by unfold fcA; omega)).trans h9
      have hm : ∀ a, 57 ≤ a → a ≤ 318 → σ'.2 a = σ.2 a := fun a h1 h2 => hg.2 a (by omega) (by unfold fcA; omega)
      have hs' := hg.1
      obtain ⟨rfl, hC⟩ := hp
      refine ⟨(0, 28, 12, 2, 3), by decide, rfl, ?_⟩
      refine hA 2 _ rfl _ _ _ _ _ ?_
      exact ⟨hs', hm, u9, h9', rfl, hC⟩
set_option maxRecDepth 100000 in
set_option maxHeartbeats 1000000 in
theorem h_differ (hI : CI σ cc rows K va ad R f n pl c r) (a b : Int) (ha : ab_R a) (hb : ab_R b){u9 : Nat → Int} (h9 : σ.2 319 = some (lgc u9)) : ab_callH 11 4 24 yL_differ [rf 0, .inl a, .inl b, rf 319] σ (hlP σ (cc, rows, K, va, R, f, n, pl, c) r (fun i => (i : Int) + 1) (stq (cc, rows, K, va, R, f, n, pl, c) (sp_differ R a b))) := by
  have hs := hI.s
  have h0 := hI.1
  have hc := ab_call_mono (f_differ hI a b ha hb) (fun _ _ h => pure_st h)
  generalize ho : (stq (cc, rows, K, va, R, f, n, pl, c) (sp_differ R a b)) = o at hc
  have hi : ∀ i, o = .inr i → i = 0 := fun i h => by
    subst h
    exact on_differ (stq_i ho)
  clear ho
  rcases o with ⟨x, S1⟩ | i
  · refine eL_differ rfl (fun At hA => ?_)
    refine hA 0 _ rfl _ _ _ _ _ ?_
    refine Exists.intro _ (And.intro (by first | assumption | exact st_s | exact st_e (by decide) (by assumption) | exact st_e (by omega) (by assumption) | exact st_e (by decide) st_s | exact st_e (by omega) st_s | exact st_e (by decide) (st_e (by decide) (by assumption)) | exact st_e (by omega) (st_e (by omega) (by assumption))) (And.intro rfl (ab_inv_of hc (by first | decide | omega) (by omega) (by omega) ?_)))
    intro z σ' hp
    obtain ⟨hg, hp⟩ := hp
    have h9' : σ'.2 319 = some (lgc u9) := (hg.2 319 (by omega) (by unfold fcA; omega)).trans h9
    have hm : ∀ a, 57 ≤ a → a ≤ 318 → σ'.2 a = σ.2 a := fun a h1 h2 => hg.2 a (by omega) (by unfold fcA; omega)
    have hs' := hg.1
    obtain ⟨rfl, hC⟩ := hp
    have fin : ∀ (v : Int) (L : ab_L) (k n : Nat), v = ab_wr x → At 3 L [] (ab_st σ' 319 (lgc (ab_up u9 0 v))) k n := fun v L k n hv => by
      refine hA 3 _ rfl _ _ _ _ _ ?_
      refine ⟨hs', fun a h1 h2 => (st_n (by omega)).trans (hm a h1 h2), _, st_s, rfl, ab_up_s.trans hv, hC.keep (A := fun a => a = 319) ⟨Nat.le_refl _, fun a _ h2 => st_n h2⟩ (fun a h => by omega)⟩
    refine Exists.intro _ (Exists.intro _ (And.intro (by first | assumption | exact st_s | exact st_e (by decide) (by assumption) | exact st_e (by omega) (by assumption) | exact st_e (by decide) st_s | exact st_e (by omega) st_s | exact st_e (by decide) (st_e (by decide) (by assumption)) | exact st_e (by omega) (st_e (by omega) (by assumption))) (And.intro (by first | omega | (simp only [Int.toNat_natCast]; omega)) ?_)))
    exact fin _ _ _ _ rfl
  · obtain rfl := hi i rfl
    · refine eL_differ rfl (fun At hA => ?_)
      refine hA 0 _ rfl _ _ _ _ _ ?_
      refine Exists.intro _ (And.intro (by first | assumption | exact st_s | exact st_e (by decide) (by assumption) | exact st_e (by omega) (by assumption) | exact st_e (by decide) st_s | exact st_e (by omega) st_s | exact st_e (by decide) (st_e (by decide) (by assumption)) | exact st_e (by omega) (st_e (by omega) (by assumption))) (And.intro rfl (ab_inv_of hc (by first | decide | omega) (by omega) (by omega) ?_)))
      intro z σ' hp
      obtain ⟨hg, hp⟩ := hp
      have h9' : σ'.2 319 = some (lgc u9) := (hg.2 319 (by omega) (by unfold fcA; omega)).trans h9
      have hm : ∀ a, 57 ≤ a → a ≤ 318 → σ'.2 a = σ.2 a := fun a h1 h2 => hg.2 a (by omega) (by unfold fcA; omega)
      have hs' := hg.1
      obtain ⟨rfl, hC⟩ := hp
      refine ⟨(0, 28, 13, 2, 4), by decide, rfl, ?_⟩
      refine hA 2 _ rfl _ _ _ _ _ ?_
      exact ⟨hs', hm, u9, h9', rfl, hC⟩
set_option maxRecDepth 100000 in
set_option maxHeartbeats 1000000 in
theorem h_foretold (hI : CI σ cc rows K va ad R f n pl c r) (i k x what : Int) (hi : ab_R i) (hk : ab_R k) (hx : ab_R x) (hwhat : ab_R what){u9 : Nat → Int} (h9 : σ.2 319 = some (lgc u9)) : ab_callH 11 4 24 yL_foretold [rf 0, .inl i, .inl k, .inl x, .inl what, rf 319] σ (hlP σ (cc, rows, K, va, R, f, n, pl, c) r (fun i => (i : Int) + 1) (stq (cc, rows, K, va, R, f, n, pl, c) (sp_foretold cc rows K va R i k x what))) := by
  have hs := hI.s
  have h0 := hI.1
  have hc := ab_call_mono (f_foretold hI i k x what hi hk hx hwhat) (fun _ _ h => pure_st h)
  generalize ho : (stq (cc, rows, K, va, R, f, n, pl, c) (sp_foretold cc rows K va R i k x what)) = o at hc
  have hi : ∀ i, o = .inr i → i = 0 ∨ i = 1 := fun i h => by
    subst h
    exact on_foretold (stq_i ho)
  clear ho
  rcases o with ⟨x, S1⟩ | i
  · refine eL_foretold rfl (fun At hA => ?_)
    refine hA 0 _ rfl _ _ _ _ _ ?_
    refine Exists.intro _ (And.intro (by first | assumption | exact st_s | exact st_e (by decide) (by assumption) | exact st_e (by omega) (by assumption) | exact st_e (by decide) st_s | exact st_e (by omega) st_s | exact st_e (by decide) (st_e (by decide) (by assumption)) | exact st_e (by omega) (st_e (by omega) (by assumption))) (And.intro rfl (ab_inv_of hc (by first | decide | omega) (by omega) (by omega) ?_)))
    intro z σ' hp
    obtain ⟨hg, hp⟩ := hp
    have h9' : σ'.2 319 = some (lgc u9) := (hg.2 319 (by omega) (by unfold fcA; omega)).trans h9
    have hm : ∀ a, 57 ≤ a → a ≤ 318 → σ'.2 a = σ.2 a := fun a h1 h2 => hg.2 a (by omega) (by unfold fcA; omega)
    have hs' := hg.1
    obtain ⟨rfl, hC⟩ := hp
    have fin : ∀ (v : Int) (L : ab_L) (k n : Nat), v = ab_wr x → At 5 L [] (ab_st σ' 319 (lgc (ab_up u9 0 v))) k n := fun v L k n hv => by
      refine hA 5 _ rfl _ _ _ _ _ ?_
      refine ⟨hs', fun a h1 h2 => (st_n (by omega)).trans (hm a h1 h2), _, st_s, rfl, ab_up_s.trans hv, hC.keep (A := fun a => a = 319) ⟨Nat.le_refl _, fun a _ h2 => st_n h2⟩ (fun a h => by omega)⟩
    refine Exists.intro _ (Exists.intro _ (And.intro (by first | assumption | exact st_s | exact st_e (by decide) (by assumption) | exact st_e (by omega) (by assumption) | exact st_e (by decide) st_s | exact st_e (by omega) st_s | exact st_e (by decide) (st_e (by decide) (by assumption)) | exact st_e (by omega) (st_e (by omega) (by assumption))) (And.intro (by first | omega | (simp only [Int.toNat_natCast]; omega)) ?_)))
    exact fin _ _ _ _ rfl
  · rcases hi i rfl with rfl | rfl
    · refine eL_foretold rfl (fun At hA => ?_)
      refine hA 0 _ rfl _ _ _ _ _ ?_
      refine Exists.intro _ (And.intro (by first | assumption | exact st_s | exact st_e (by decide) (by assumption) | exact st_e (by omega) (by assumption) | exact st_e (by decide) st_s | exact st_e (by omega) st_s | exact st_e (by decide) (st_e (by decide) (by assumption)) | exact st_e (by omega) (st_e (by omega) (by assumption))) (And.intro rfl (ab_inv_of hc (by first | decide | omega) (by omega) (by omega) ?_)))
      intro z σ' hp
      obtain ⟨hg, hp⟩ := hp
      have h9' : σ'.2 319 = some (lgc u9) := (hg.2 319 (by omega) (by unfold fcA; omega)).trans h9
      have hm : ∀ a, 57 ≤ a → a ≤ 318 → σ'.2 a = σ.2 a := fun a h1 h2 => hg.2 a (by omega) (by unfold fcA; omega)
      have hs' := hg.1
      obtain ⟨rfl, hC⟩ := hp
      refine ⟨(0, 28, 17, 2, 6), by decide, rfl, ?_⟩
      refine hA 2 _ rfl _ _ _ _ _ ?_
      exact ⟨hs', hm, u9, h9', rfl, hC⟩
    · refine eL_foretold rfl (fun At hA => ?_)
      refine hA 0 _ rfl _ _ _ _ _ ?_
      refine Exists.intro _ (And.intro (by first | assumption | exact st_s | exact st_e (by decide) (by assumption) | exact st_e (by omega) (by assumption) | exact st_e (by decide) st_s | exact st_e (by omega) st_s | exact st_e (by decide) (st_e (by decide) (by assumption)) | exact st_e (by omega) (st_e (by omega) (by assumption))) (And.intro rfl (ab_inv_of hc (by first | decide | omega) (by omega) (by omega) ?_)))
      intro z σ' hp
      obtain ⟨hg, hp⟩ := hp
      have h9' : σ'.2 319 = some (lgc u9) := (hg.2 319 (by omega) (by unfold fcA; omega)).trans h9
      have hm : ∀ a, 57 ≤ a → a ≤ 318 → σ'.2 a = σ.2 a := fun a h1 h2 => hg.2 a (by omega) (by unfold fcA; omega)
      have hs' := hg.1
      obtain ⟨rfl, hC⟩ := hp
      refine ⟨(1, 13, 21, 4, 6), by decide, rfl, ?_⟩
      refine hA 4 _ rfl _ _ _ _ _ ?_
      exact ⟨hs', hm, u9, h9', rfl, hC⟩
set_option maxRecDepth 100000 in
set_option maxHeartbeats 1000000 in
theorem h_group (hI : CI σ cc rows K va ad R f n pl c r) (k g what : Int) (hk : ab_R k) (hg : ab_R g) (hwhat : ab_R what){u9 : Nat → Int} (h9 : σ.2 319 = some (lgc u9)) : ab_callH 11 4 24 yL_group [rf 0, .inl k, .inl g, .inl what, rf 319] σ (hlP σ (cc, rows, K, va, R, f, n, pl, c) r (fun i => (i : Int) + 1) (stq (cc, rows, K, va, R, f, n, pl, c) (sp_group rows R k g what))) := by
  have hs := hI.s
  have h0 := hI.1
  have hc := ab_call_mono (f_group hI k g what hk hg hwhat) (fun _ _ h => pure_st h)
  generalize ho : (stq (cc, rows, K, va, R, f, n, pl, c) (sp_group rows R k g what)) = o at hc
  have hi : ∀ i, o = .inr i → i = 0 ∨ i = 1 := fun i h => by
    subst h
    exact on_group (stq_i ho)
  clear ho
  rcases o with ⟨x, S1⟩ | i
  · refine eL_group rfl (fun At hA => ?_)
    refine hA 0 _ rfl _ _ _ _ _ ?_
    refine Exists.intro _ (And.intro (by first | assumption | exact st_s | exact st_e (by decide) (by assumption) | exact st_e (by omega) (by assumption) | exact st_e (by decide) st_s | exact st_e (by omega) st_s | exact st_e (by decide) (st_e (by decide) (by assumption)) | exact st_e (by omega) (st_e (by omega) (by assumption))) (And.intro rfl (ab_inv_of hc (by first | decide | omega) (by omega) (by omega) ?_)))
    intro z σ' hp
    obtain ⟨hg, hp⟩ := hp
    have h9' : σ'.2 319 = some (lgc u9) := (hg.2 319 (by omega) (by unfold fcA; omega)).trans h9
    have hm : ∀ a, 57 ≤ a → a ≤ 318 → σ'.2 a = σ.2 a := fun a h1 h2 => hg.2 a (by omega) (by unfold fcA; omega)
    have hs' := hg.1
    obtain ⟨rfl, hC⟩ := hp
    have fin : ∀ (v : Int) (L : ab_L) (k n : Nat), v = ab_wr x → At 5 L [] (ab_st σ' 319 (lgc (ab_up u9 0 v))) k n := fun v L k n hv => by
      refine hA 5 _ rfl _ _ _ _ _ ?_
      refine ⟨hs', fun a h1 h2 => (st_n (by omega)).trans (hm a h1 h2), _, st_s, rfl, ab_up_s.trans hv, hC.keep (A := fun a => a = 319) ⟨Nat.le_refl _, fun a _ h2 => st_n h2⟩ (fun a h => by omega)⟩
    refine Exists.intro _ (Exists.intro _ (And.intro (by first | assumption | exact st_s | exact st_e (by decide) (by assumption) | exact st_e (by omega) (by assumption) | exact st_e (by decide) st_s | exact st_e (by omega) st_s | exact st_e (by decide) (st_e (by decide) (by assumption)) | exact st_e (by omega) (st_e (by omega) (by assumption))) (And.intro (by first | omega | (simp only [Int.toNat_natCast]; omega)) ?_)))
    exact fin _ _ _ _ rfl
  · rcases hi i rfl with rfl | rfl
    · refine eL_group rfl (fun At hA => ?_)
      refine hA 0 _ rfl _ _ _ _ _ ?_
      refine Exists.intro _ (And.intro (by first | assumption | exact st_s | exact st_e (by decide) (by assumption) | exact st_e (by omega) (by assumption) | exact st_e (by decide) st_s | exact st_e (by omega) st_s | exact st_e (by decide) (st_e (by decide) (by assumption)) | exact st_e (by omega) (st_e (by omega) (by assumption))) (And.intro rfl (ab_inv_of hc (by first | decide | omega) (by omega) (by omega) ?_)))
      intro z σ' hp
      obtain ⟨hg, hp⟩ := hp
      have h9' : σ'.2 319 = some (lgc u9) := (hg.2 319 (by omega) (by unfold fcA; omega)).trans h9
      have hm : ∀ a, 57 ≤ a → a ≤ 318 → σ'.2 a = σ.2 a := fun a h1 h2 => hg.2 a (by omega) (by unfold fcA; omega)
      have hs' := hg.1
      obtain ⟨rfl, hC⟩ := hp
      refine ⟨(0, 28, 15, 2, 5), by decide, rfl, ?_⟩
      refine hA 2 _ rfl _ _ _ _ _ ?_
      exact ⟨hs', hm, u9, h9', rfl, hC⟩
    · refine eL_group rfl (fun At hA => ?_)
      refine hA 0 _ rfl _ _ _ _ _ ?_
      refine Exists.intro _ (And.intro (by first | assumption | exact st_s | exact st_e (by decide) (by assumption) | exact st_e (by omega) (by assumption) | exact st_e (by decide) st_s | exact st_e (by omega) st_s | exact st_e (by decide) (st_e (by decide) (by assumption)) | exact st_e (by omega) (st_e (by omega) (by assumption))) (And.intro rfl (ab_inv_of hc (by first | decide | omega) (by omega) (by omega) ?_)))
      intro z σ' hp
      obtain ⟨hg, hp⟩ := hp
      have h9' : σ'.2 319 = some (lgc u9) := (hg.2 319 (by omega) (by unfold fcA; omega)).trans h9
      have hm : ∀ a, 57 ≤ a → a ≤ 318 → σ'.2 a = σ.2 a := fun a h1 h2 => hg.2 a (by omega) (by unfold fcA; omega)
      have hs' := hg.1
      obtain ⟨rfl, hC⟩ := hp
      refine ⟨(1, 13, 19, 4, 5), by decide, rfl, ?_⟩
      refine hA 4 _ rfl _ _ _ _ _ ?_
      exact ⟨hs', hm, u9, h9', rfl, hC⟩
set_option maxRecDepth 100000 in
set_option maxHeartbeats 1000000 in
theorem h_heaviest (hI : CI σ cc rows K va ad R f n pl c r) (k what : Int) (hk : ab_R k) (hwhat : ab_R what){u9 : Nat → Int} (h9 : σ.2 319 = some (lgc u9)) : ab_callH 11 4 24 yL_heaviest [rf 0, .inl k, .inl what, rf 319] σ (hlP σ (cc, rows, K, va, R, f, n, pl, c) r (fun i => (i : Int) + 1) (stq (cc, rows, K, va, R, f, n, pl, c) (sp_heaviest cc rows K va k what))) := by
  have hs := hI.s
  have h0 := hI.1
  have hc := ab_call_mono (f_heaviest hI k what hk hwhat) (fun _ _ h => pure_st h)
  generalize ho : (stq (cc, rows, K, va, R, f, n, pl, c) (sp_heaviest cc rows K va k what)) = o at hc
  have hi : ∀ i, o = .inr i → i = 0 ∨ i = 1 := fun i h => by
    subst h
    exact on_heaviest (stq_i ho)
  clear ho
  rcases o with ⟨x, S1⟩ | i
  · refine eL_heaviest rfl (fun At hA => ?_)
    refine hA 0 _ rfl _ _ _ _ _ ?_
    refine Exists.intro _ (And.intro (by first | assumption | exact st_s | exact st_e (by decide) (by assumption) | exact st_e (by omega) (by assumption) | exact st_e (by decide) st_s | exact st_e (by omega) st_s | exact st_e (by decide) (st_e (by decide) (by assumption)) | exact st_e (by omega) (st_e (by omega) (by assumption))) (And.intro rfl (ab_inv_of hc (by first | decide | omega) (by omega) (by omega) ?_)))
    intro z σ' hp
    obtain ⟨hg, hp⟩ := hp
    have h9' : σ'.2 319 = some (lgc u9) := (hg.2 319 (by omega) (by unfold fcA; omega)).trans h9
    have hm : ∀ a, 57 ≤ a → a ≤ 318 → σ'.2 a = σ.2 a := fun a h1 h2 => hg.2 a (by omega) (by unfold fcA; omega)
    have hs' := hg.1
    obtain ⟨rfl, hC⟩ := hp
    have fin : ∀ (v : Int) (L : ab_L) (k n : Nat), v = ab_wr x → At 5 L [] (ab_st σ' 319 (lgc (ab_up u9 0 v))) k n := fun v L k n hv => by
      refine hA 5 _ rfl _ _ _ _ _ ?_
      refine ⟨hs', fun a h1 h2 => (st_n (by omega)).trans (hm a h1 h2), _, st_s, rfl, ab_up_s.trans hv, hC.keep (A := fun a => a = 319) ⟨Nat.le_refl _, fun a _ h2 => st_n h2⟩ (fun a h => by omega)⟩
    refine Exists.intro _ (Exists.intro _ (And.intro (by first | assumption | exact st_s | exact st_e (by decide) (by assumption) | exact st_e (by omega) (by assumption) | exact st_e (by decide) st_s | exact st_e (by omega) st_s | exact st_e (by decide) (st_e (by decide) (by assumption)) | exact st_e (by omega) (st_e (by omega) (by assumption))) (And.intro (by first | omega | (simp only [Int.toNat_natCast]; omega)) ?_)))
    exact fin _ _ _ _ rfl
  · rcases hi i rfl with rfl | rfl
    · refine eL_heaviest rfl (fun At hA => ?_)
      refine hA 0 _ rfl _ _ _ _ _ ?_
      refine Exists.intro _ (And.intro (by first | assumption | exact st_s | exact st_e (by decide) (by assumption) | exact st_e (by omega) (by assumption) | exact st_e (by decide) st_s | exact st_e (by omega) st_s | exact st_e (by decide) (st_e (by decide) (by assumption)) | exact st_e (by omega) (st_e (by omega) (by assumption))) (And.intro rfl (ab_inv_of hc (by first | decide | omega) (by omega) (by omega) ?_)))
      intro z σ' hp
      obtain ⟨hg, hp⟩ := hp
      have h9' : σ'.2 319 = some (lgc u9) := (hg.2 319 (by omega) (by unfold fcA; omega)).trans h9
      have hm : ∀ a, 57 ≤ a → a ≤ 318 → σ'.2 a = σ.2 a := fun a h1 h2 => hg.2 a (by omega) (by unfold fcA; omega)
      have hs' := hg.1
      obtain ⟨rfl, hC⟩ := hp
      refine ⟨(0, 28, 13, 2, 4), by decide, rfl, ?_⟩
      refine hA 2 _ rfl _ _ _ _ _ ?_
      exact ⟨hs', hm, u9, h9', rfl, hC⟩
    · refine eL_heaviest rfl (fun At hA => ?_)
      refine hA 0 _ rfl _ _ _ _ _ ?_
      refine Exists.intro _ (And.intro (by first | assumption | exact st_s | exact st_e (by decide) (by assumption) | exact st_e (by omega) (by assumption) | exact st_e (by decide) st_s | exact st_e (by omega) st_s | exact st_e (by decide) (st_e (by decide) (by assumption)) | exact st_e (by omega) (st_e (by omega) (by assumption))) (And.intro rfl (ab_inv_of hc (by first | decide | omega) (by omega) (by omega) ?_)))
      intro z σ' hp
      obtain ⟨hg, hp⟩ := hp
      have h9' : σ'.2 319 = some (lgc u9) := (hg.2 319 (by omega) (by unfold fcA; omega)).trans h9
      have hm : ∀ a, 57 ≤ a → a ≤ 318 → σ'.2 a = σ.2 a := fun a h1 h2 => hg.2 a (by omega) (by unfold fcA; omega)
      have hs' := hg.1
      obtain ⟨rfl, hC⟩ := hp
      refine ⟨(1, 13, 17, 4, 4), by decide, rfl, ?_⟩
      refine hA 4 _ rfl _ _ _ _ _ ?_
      exact ⟨hs', hm, u9, h9', rfl, hC⟩
set_option maxRecDepth 100000 in
set_option maxHeartbeats 1000000 in
theorem h_index (hI : CI σ cc rows K va ad R f n pl c r) (k p j what : Int) (hk : ab_R k) (hp : ab_R p) (hj : ab_R j) (hwhat : ab_R what){u9 : Nat → Int} (h9 : σ.2 319 = some (lgc u9)) : ab_callH 11 4 24 yL_index [rf 0, .inl k, .inl p, .inl j, .inl what, rf 319] σ (hlP σ (cc, rows, K, va, R, f, n, pl, c) r (fun i => (i : Int) + 1) (stq (cc, rows, K, va, R, f, n, pl, c) (sp_index cc rows K va k p j what))) := by
  have hs := hI.s
  have h0 := hI.1
  have hc := ab_call_mono (f_index hI k p j what hk hp hj hwhat) (fun _ _ h => pure_st h)
  generalize ho : (stq (cc, rows, K, va, R, f, n, pl, c) (sp_index cc rows K va k p j what)) = o at hc
  have hi : ∀ i, o = .inr i → i = 0 ∨ i = 1 := fun i h => by
    subst h
    exact on_index (stq_i ho)
  clear ho
  rcases o with ⟨x, S1⟩ | i
  · refine eL_index rfl (fun At hA => ?_)
    refine hA 0 _ rfl _ _ _ _ _ ?_
    refine Exists.intro _ (And.intro (by first | assumption | exact st_s | exact st_e (by decide) (by assumption) | exact st_e (by omega) (by assumption) | exact st_e (by decide) st_s | exact st_e (by omega) st_s | exact st_e (by decide) (st_e (by decide) (by assumption)) | exact st_e (by omega) (st_e (by omega) (by assumption))) (And.intro rfl (ab_inv_of hc (by first | decide | omega) (by omega) (by omega) ?_)))
    intro z σ' hp
    obtain ⟨hg, hp⟩ := hp
    have h9' : σ'.2 319 = some (lgc u9) := (hg.2 319 (by omega) (by unfold fcA; omega)).trans h9
    have hm : ∀ a, 57 ≤ a → a ≤ 318 → σ'.2 a = σ.2 a := fun a h1 h2 => hg.2 a (by omega) (by unfold fcA; omega)
    have hs' := hg.1
    obtain ⟨rfl, hC⟩ := hp
    have fin : ∀ (v : Int) (L : ab_L) (k n : Nat), v = ab_wr x → At 5 L [] (ab_st σ' 319 (lgc (ab_up u9 0 v))) k n := fun v L k n hv => by
      refine hA 5 _ rfl _ _ _ _ _ ?_
      refine ⟨hs', fun a h1 h2 => (st_n (by omega)).trans (hm a h1 h2), _, st_s, rfl, ab_up_s.trans hv, hC.keep (A := fun a => a = 319) ⟨Nat.le_refl _, fun a _ h2 => st_n h2⟩ (fun a h => by omega)⟩
    refine Exists.intro _ (Exists.intro _ (And.intro (by first | assumption | exact st_s | exact st_e (by decide) (by assumption) | exact st_e (by omega) (by assumption) | exact st_e (by decide) st_s | exact st_e (by omega) st_s | exact st_e (by decide) (st_e (by decide) (by assumption)) | exact st_e (by omega) (st_e (by omega) (by assumption))) (And.intro (by first | omega | (simp only [Int.toNat_natCast]; omega)) ?_)))
    exact fin _ _ _ _ rfl
  · rcases hi i rfl with rfl | rfl
    · refine eL_index rfl (fun At hA => ?_)
      refine hA 0 _ rfl _ _ _ _ _ ?_
      refine Exists.intro _ (And.intro (by first | assumption | exact st_s | exact st_e (by decide) (by assumption) | exact st_e (by omega) (by assumption) | exact st_e (by decide) st_s | exact st_e (by omega) st_s | exact st_e (by decide) (st_e (by decide) (by assumption)) | exact st_e (by omega) (st_e (by omega) (by assumption))) (And.intro rfl (ab_inv_of hc (by first | decide | omega) (by omega) (by omega) ?_)))
      intro z σ' hp
      obtain ⟨hg, hp⟩ := hp
      have h9' : σ'.2 319 = some (lgc u9) := (hg.2 319 (by omega) (by unfold fcA; omega)).trans h9
      have hm : ∀ a, 57 ≤ a → a ≤ 318 → σ'.2 a = σ.2 a := fun a h1 h2 => hg.2 a (by omega) (by unfold fcA; omega)
      have hs' := hg.1
      obtain ⟨rfl, hC⟩ := hp
      refine ⟨(0, 28, 17, 2, 6), by decide, rfl, ?_⟩
      refine hA 2 _ rfl _ _ _ _ _ ?_
      exact ⟨hs', hm, u9, h9', rfl, hC⟩
    · refine eL_index rfl (fun At hA => ?_)
      refine hA 0 _ rfl _ _ _ _ _ ?_
      refine Exists.intro _ (And.intro (by first | assumption | exact st_s | exact st_e (by decide) (by assumption) | exact st_e (by omega) (by assumption) | exact st_e (by decide) st_s | exact st_e (by omega) st_s | exact st_e (by decide) (st_e (by decide) (by assumption)) | exact st_e (by omega) (st_e (by omega) (by assumption))) (And.intro rfl (ab_inv_of hc (by first | decide | omega) (by omega) (by omega) ?_)))
      intro z σ' hp
      obtain ⟨hg, hp⟩ := hp
      have h9' : σ'.2 319 = some (lgc u9) := (hg.2 319 (by omega) (by unfold fcA; omega)).trans h9
      have hm : ∀ a, 57 ≤ a → a ≤ 318 → σ'.2 a = σ.2 a := fun a h1 h2 => hg.2 a (by omega) (by unfold fcA; omega)
      have hs' := hg.1
      obtain ⟨rfl, hC⟩ := hp
      refine ⟨(1, 13, 21, 4, 6), by decide, rfl, ?_⟩
      refine hA 4 _ rfl _ _ _ _ _ ?_
      exact ⟨hs', hm, u9, h9', rfl, hC⟩
set_option maxRecDepth 100000 in
set_option maxHeartbeats 1000000 in
theorem h_indexWord (hI : CI σ cc rows K va ad R f n pl c r) (k p j w : Int) (hk : ab_R k) (hp : ab_R p) (hj : ab_R j) (hw : ab_R w){u9 : Nat → Int} (h9 : σ.2 319 = some (lgc u9)) : ab_callH 11 4 24 yL_indexWord [rf 0, .inl k, .inl p, .inl j, .inl w, rf 319] σ (hlP σ (cc, rows, K, va, R, f, n, pl, c) r (fun i => (i : Int) + 1) (stq (cc, rows, K, va, R, f, n, pl, c) (sp_indexWord cc rows K va k p j w))) := by
  have hs := hI.s
  have h0 := hI.1
  have hc := ab_call_mono (f_indexWord hI k p j w hk hp hj hw) (fun _ _ h => pure_st h)
  generalize ho : (stq (cc, rows, K, va, R, f, n, pl, c) (sp_indexWord cc rows K va k p j w)) = o at hc
  have hi : ∀ i, o = .inr i → i = 0 := fun i h => by
    subst h
    exact on_indexWord (stq_i ho)
  clear ho
  rcases o with ⟨x, S1⟩ | i
  · refine eL_indexWord rfl (fun At hA => ?_)
    refine hA 0 _ rfl _ _ _ _ _ ?_
    refine Exists.intro _ (And.intro (by first | assumption | exact st_s | exact st_e (by decide) (by assumption) | exact st_e (by omega) (by assumption) | exact st_e (by decide) st_s | exact st_e (by omega) st_s | exact st_e (by decide) (st_e (by decide) (by assumption)) | exact st_e (by omega) (st_e (by omega) (by assumption))) (And.intro rfl (ab_inv_of hc (by first | decide | omega) (by omega) (by omega) ?_)))
    intro z σ' hp
    obtain ⟨hg, hp⟩ := hp
    have h9' : σ'.2 319 = some (lgc u9) := (hg.2 319 (by omega) (by unfold fcA; omega)).trans h9
    have hm : ∀ a, 57 ≤ a → a ≤ 318 → σ'.2 a = σ.2 a := fun a h1 h2 => hg.2 a (by omega) (by unfold fcA; omega)
    have hs' := hg.1
    obtain ⟨rfl, hC⟩ := hp
    have fin : ∀ (v : Int) (L : ab_L) (k n : Nat), v = ab_wr x → At 3 L [] (ab_st σ' 319 (lgc (ab_up u9 0 v))) k n := fun v L k n hv => by
      refine hA 3 _ rfl _ _ _ _ _ ?_
      refine ⟨hs', fun a h1 h2 => (st_n (by omega)).trans (hm a h1 h2), _, st_s, rfl, ab_up_s.trans hv, hC.keep (A := fun a => a = 319) ⟨Nat.le_refl _, fun a _ h2 => st_n h2⟩ (fun a h => by omega)⟩
    refine Exists.intro _ (Exists.intro _ (And.intro (by first | assumption | exact st_s | exact st_e (by decide) (by assumption) | exact st_e (by omega) (by assumption) | exact st_e (by decide) st_s | exact st_e (by omega) st_s | exact st_e (by decide) (st_e (by decide) (by assumption)) | exact st_e (by omega) (st_e (by omega) (by assumption))) (And.intro (by first | omega | (simp only [Int.toNat_natCast]; omega)) ?_)))
    exact fin _ _ _ _ rfl
  · obtain rfl := hi i rfl
    · refine eL_indexWord rfl (fun At hA => ?_)
      refine hA 0 _ rfl _ _ _ _ _ ?_
      refine Exists.intro _ (And.intro (by first | assumption | exact st_s | exact st_e (by decide) (by assumption) | exact st_e (by omega) (by assumption) | exact st_e (by decide) st_s | exact st_e (by omega) st_s | exact st_e (by decide) (st_e (by decide) (by assumption)) | exact st_e (by omega) (st_e (by omega) (by assumption))) (And.intro rfl (ab_inv_of hc (by first | decide | omega) (by omega) (by omega) ?_)))
      intro z σ' hp
      obtain ⟨hg, hp⟩ := hp
      have h9' : σ'.2 319 = some (lgc u9) := (hg.2 319 (by omega) (by unfold fcA; omega)).trans h9
      have hm : ∀ a, 57 ≤ a → a ≤ 318 → σ'.2 a = σ.2 a := fun a h1 h2 => hg.2 a (by omega) (by unfold fcA; omega)
      have hs' := hg.1
      obtain ⟨rfl, hC⟩ := hp
      refine ⟨(0, 28, 17, 2, 6), by decide, rfl, ?_⟩
      refine hA 2 _ rfl _ _ _ _ _ ?_
      exact ⟨hs', hm, u9, h9', rfl, hC⟩
end Hlp
