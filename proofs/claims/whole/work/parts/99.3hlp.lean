-- ===== the law's helpers, on =====
section Hlp
variable {σ : ab_H} {cc rows : Nat} {K : Nat → CT} {va : Nat → Nat → Nat} {ad : Nat → Nat} {R : Nat → V1} {f : Nat → Int} {n : Nat} {pl : Int} {c : C3} {r : Nat → Nat}
set_option maxRecDepth 100000 in
set_option maxHeartbeats 1000000 in
theorem h_sum (hI : CI σ cc rows K va ad R f n pl c r) (k res : Int) (hk : ab_R k) (hres : ab_R res){u9 : Nat → Int} (h9 : σ.2 319 = some (lgc u9)) : ab_callH 11 4 24 yL_sum [rf 0, .inl k, .inl res, rf 319] σ (hlP σ (cc, rows, K, va, R, f, n, pl, c) r (fun i => (i : Int) + 1) (stq (cc, rows, K, va, R, f, n, pl, c) (sp_sum cc rows va R k res))) := by
  have hs := hI.s
  have h0 := hI.1
  have hc := ab_call_mono (f_sum hI k res hk hres) (fun _ _ h => pure_st h)
  generalize ho : (stq (cc, rows, K, va, R, f, n, pl, c) (sp_sum cc rows va R k res)) = o at hc
  have hi : ∀ i, o = .inr i → i = 0 := fun i h => by
    subst h
    exact on_sum (stq_i ho)
  clear ho
  rcases o with ⟨x, S1⟩ | i
  · refine eL_sum rfl (fun At hA => ?_)
    refine hA 0 _ rfl _ _ _ _ _ ?_
    refine Exists.intro _ (And.intro (by first | assumption | exact st_s | exact st_e (by decide) (by assumption) | exact st_e (by omega) (by assumption) | exact st_e (by decide) st_s | exact st_e (by omega) st_s | exact st_e (by decide) (st_e (by decide) (by assumption)) | exact st_e (by omega) (st_e (by omega) (by assumption))) (And.intro rfl (ab_inv_of hc (by first | decide | omega) (by omega) (by omega) ?_)))
    intro z σ' hp
    obtain ⟨hg, hp⟩ := hp
    have h9' : σ'.2 319 = some (lgc u9) := (hg.2 319 (by omega) (by unfold fcA; omega)).trans h9
    have hm : ∀ a, 57 ≤ a → a ≤ 318 → σ'.2 a = σ.2 a := fun a h1 h2 => hg.2 a (by omega) (by unfold fcA; omega)
    have hs' := hg.1
    obtain ⟨rfl, hC⟩ := hp
    have fin : ∀ (v : Int) (L : ab_L) (k n : Nat), v = ab_wr x → At 3 L [] (ab_st σ' 319 (lgc (ab_up u9 0 v))) k n := fun v L k n hv => by
      refine hA 3 _ rfl _ _ _ _ _ ?_
      refine ⟨hs', fun a h1 h2 => (st_n (by omega)).trans (hm a h1 h2), _, st_s, rfl, ab_up_s.trans hv, hC.keep (A := fun a => a = 319) ⟨Nat.le_refl _, fun a _ h2 => st_n h2⟩ (fun a h => by omega)⟩
    refine Exists.intro _ (Exists.intro _ (And.intro (by first | assumption | exact st_s | exact st_e (by decide) (by assumption) | exact st_e (by omega) (by assumption) | exact st_e (by decide) st_s | exact st_e (by omega) st_s | exact st_e (by decide) (st_e (by decide) (by assumption)) | exact st_e (by omega) (st_e (by omega) (by assumption))) (And.intro (by first | omega | (simp only [Int.toNat_natCast]; omega)) ?_)))
    exact fin _ _ _ _ rfl
  · obtain rfl := hi i rfl
    · refine eL_sum rfl (fun At hA => ?_)
      refine hA 0 _ rfl _ _ _ _ _ ?_
      refine Exists.intro _ (And.intro (by first | assumption | exact st_s | exact st_e (by decide) (by assumption) | exact st_e (by omega) (by assumption) | exact st_e (by decide) st_s | exact st_e (by omega) st_s | exact st_e (by decide) (st_e (by decide) (by assumption)) | exact st_e (by omega) (st_e (by omega) (by assumption))) (And.intro rfl (ab_inv_of hc (by first | decide | omega) (by omega) (by omega) ?_)))
      intro z σ' hp
      obtain ⟨hg, hp⟩ := hp
      have h9' : σ'.2 319 = some (lgc u9) := (hg.2 319 (by omega) (by unfold fcA; omega)).trans h9
      have hm : ∀ a, 57 ≤ a → a ≤ 318 → σ'.2 a = σ.2 a := fun a h1 h2 => hg.2 a (by omega) (by unfold fcA; omega)
      have hs' := hg.1
      obtain ⟨rfl, hC⟩ := hp
      refine ⟨(0, 28, 13, 2, 4), by decide, rfl, ?_⟩
      refine hA 2 _ rfl _ _ _ _ _ ?_
      exact ⟨hs', hm, u9, h9', rfl, hC⟩
set_option maxRecDepth 100000 in
set_option maxHeartbeats 1000000 in
theorem h_swift (hI : CI σ cc rows K va ad R f n pl c r) (card bud what : Int) (hcard : ab_R card) (hbud : ab_R bud) (hwhat : ab_R what){u9 : Nat → Int} (h9 : σ.2 319 = some (lgc u9)) : ab_callH 13 4 24 yL_swift [rf 0, .inl card, .inl bud, .inl what, rf 319] σ (hlP σ (cc, rows, K, va, R, f, n, pl, c) r (fun i => (i : Int)) (stq (cc, rows, K, va, R, f, n, pl, c) (sp_swift card bud what))) := by
  have hs := hI.s
  have h0 := hI.1
  have hc := ab_call_mono (f_swift hI card bud what hcard hbud hwhat) (fun _ _ h => pure_st h)
  generalize ho : (stq (cc, rows, K, va, R, f, n, pl, c) (sp_swift card bud what)) = o at hc
  have hi : ∀ i, o = .inr i → i = 1 := fun i h => by
    subst h
    exact on_swift (stq_i ho)
  clear ho
  rcases o with ⟨x, S1⟩ | i
  · refine eL_swift rfl (fun At hA => ?_)
    refine hA 0 _ rfl _ _ _ _ _ ?_
    refine Exists.intro _ (And.intro (by first | assumption | exact st_s | exact st_e (by decide) (by assumption) | exact st_e (by omega) (by assumption) | exact st_e (by decide) st_s | exact st_e (by omega) st_s | exact st_e (by decide) (st_e (by decide) (by assumption)) | exact st_e (by omega) (st_e (by omega) (by assumption))) (And.intro rfl (ab_inv_of hc (by first | decide | omega) (by omega) (by omega) ?_)))
    intro z σ' hp
    obtain ⟨hg, hp⟩ := hp
    have h9' : σ'.2 319 = some (lgc u9) := (hg.2 319 (by omega) (by unfold fcA; omega)).trans h9
    have hm : ∀ a, 57 ≤ a → a ≤ 318 → σ'.2 a = σ.2 a := fun a h1 h2 => hg.2 a (by omega) (by unfold fcA; omega)
    have hs' := hg.1
    obtain ⟨rfl, hC⟩ := hp
    have fin : ∀ (v : Int) (L : ab_L) (k n : Nat), v = ab_wr x → At 3 L [] (ab_st σ' 319 (lgc (ab_up u9 0 v))) k n := fun v L k n hv => by
      refine hA 3 _ rfl _ _ _ _ _ ?_
      refine ⟨hs', fun a h1 h2 => (st_n (by omega)).trans (hm a h1 h2), _, st_s, rfl, ab_up_s.trans hv, hC.keep (A := fun a => a = 319) ⟨Nat.le_refl _, fun a _ h2 => st_n h2⟩ (fun a h => by omega)⟩
    refine Exists.intro _ (Exists.intro _ (And.intro (by first | assumption | exact st_s | exact st_e (by decide) (by assumption) | exact st_e (by omega) (by assumption) | exact st_e (by decide) st_s | exact st_e (by omega) st_s | exact st_e (by decide) (st_e (by decide) (by assumption)) | exact st_e (by omega) (st_e (by omega) (by assumption))) (And.intro (by first | omega | (simp only [Int.toNat_natCast]; omega)) ?_)))
    exact fin _ _ _ _ rfl
  · obtain rfl := hi i rfl
    · refine eL_swift rfl (fun At hA => ?_)
      refine hA 0 _ rfl _ _ _ _ _ ?_
      refine Exists.intro _ (And.intro (by first | assumption | exact st_s | exact st_e (by decide) (by assumption) | exact st_e (by omega) (by assumption) | exact st_e (by decide) st_s | exact st_e (by omega) st_s | exact st_e (by decide) (st_e (by decide) (by assumption)) | exact st_e (by omega) (st_e (by omega) (by assumption))) (And.intro rfl (ab_inv_of hc (by first | decide | omega) (by omega) (by omega) ?_)))
      intro z σ' hp
      obtain ⟨hg, hp⟩ := hp
      have h9' : σ'.2 319 = some (lgc u9) := (hg.2 319 (by omega) (by unfold fcA; omega)).trans h9
      have hm : ∀ a, 57 ≤ a → a ≤ 318 → σ'.2 a = σ.2 a := fun a h1 h2 => hg.2 a (by omega) (by unfold fcA; omega)
      have hs' := hg.1
      obtain ⟨rfl, hC⟩ := hp
      refine ⟨(1, 13, 15, 2, 5), by decide, rfl, ?_⟩
      refine hA 2 _ rfl _ _ _ _ _ ?_
      exact ⟨hs', hm, u9, h9', rfl, hC⟩
set_option maxRecDepth 100000 in
set_option maxHeartbeats 1000000 in
theorem h_thrift (hI : CI σ cc rows K va ad R f n pl c r) (card k what : Int) (hcard : ab_R card) (hk : ab_R k) (hwhat : ab_R what){u9 : Nat → Int} (h9 : σ.2 319 = some (lgc u9)) : ab_callH 13 4 24 yL_thrift [rf 0, .inl card, .inl k, .inl what, rf 319] σ (hlP σ (cc, rows, K, va, R, f, n, pl, c) r (fun i => (i : Int)) (stq (cc, rows, K, va, R, f, n, pl, c) (sp_thrift card k what))) := by
  have hs := hI.s
  have h0 := hI.1
  have hc := ab_call_mono (f_thrift hI card k what hcard hk hwhat) (fun _ _ h => pure_st h)
  generalize ho : (stq (cc, rows, K, va, R, f, n, pl, c) (sp_thrift card k what)) = o at hc
  have hi : ∀ i, o = .inr i → i = 1 := fun i h => by
    subst h
    exact on_thrift (stq_i ho)
  clear ho
  rcases o with ⟨x, S1⟩ | i
  · refine eL_thrift rfl (fun At hA => ?_)
    refine hA 0 _ rfl _ _ _ _ _ ?_
    refine Exists.intro _ (And.intro (by first | assumption | exact st_s | exact st_e (by decide) (by assumption) | exact st_e (by omega) (by assumption) | exact st_e (by decide) st_s | exact st_e (by omega) st_s | exact st_e (by decide) (st_e (by decide) (by assumption)) | exact st_e (by omega) (st_e (by omega) (by assumption))) (And.intro rfl (ab_inv_of hc (by first | decide | omega) (by omega) (by omega) ?_)))
    intro z σ' hp
    obtain ⟨hg, hp⟩ := hp
    have h9' : σ'.2 319 = some (lgc u9) := (hg.2 319 (by omega) (by unfold fcA; omega)).trans h9
    have hm : ∀ a, 57 ≤ a → a ≤ 318 → σ'.2 a = σ.2 a := fun a h1 h2 => hg.2 a (by omega) (by unfold fcA; omega)
    have hs' := hg.1
    obtain ⟨rfl, hC⟩ := hp
    have fin : ∀ (v : Int) (L : ab_L) (k n : Nat), v = ab_wr x → At 3 L [] (ab_st σ' 319 (lgc (ab_up u9 0 v))) k n := fun v L k n hv => by
      refine hA 3 _ rfl _ _ _ _ _ ?_
      refine ⟨hs', fun a h1 h2 => (st_n (by omega)).trans (hm a h1 h2), _, st_s, rfl, ab_up_s.trans hv, hC.keep (A := fun a => a = 319) ⟨Nat.le_refl _, fun a _ h2 => st_n h2⟩ (fun a h => by omega)⟩
    refine Exists.intro _ (Exists.intro _ (And.intro (by first | assumption | exact st_s | exact st_e (by decide) (by assumption) | exact st_e (by omega) (by assumption) | exact st_e (by decide) st_s | exact st_e (by omega) st_s | exact st_e (by decide) (st_e (by decide) (by assumption)) | exact st_e (by omega) (st_e (by omega) (by assumption))) (And.intro (by first | omega | (simp only [Int.toNat_natCast]; omega)) ?_)))
    exact fin _ _ _ _ rfl
  · obtain rfl := hi i rfl
    · refine eL_thrift rfl (fun At hA => ?_)
      refine hA 0 _ rfl _ _ _ _ _ ?_
      refine Exists.intro _ (And.intro (by first | assumption | exact st_s | exact st_e (by decide) (by assumption) | exact st_e (by omega) (by assumption) | exact st_e (by decide) st_s | exact st_e (by omega) st_s | exact st_e (by decide) (st_e (by decide) (by assumption)) | exact st_e (by omega) (st_e (by omega) (by assumption))) (And.intro rfl (ab_inv_of hc (by first | decide | omega) (by omega) (by omega) ?_)))
      intro z σ' hp
      obtain ⟨hg, hp⟩ := hp
      have h9' : σ'.2 319 = some (lgc u9) := (hg.2 319 (by omega) (by unfold fcA; omega)).trans h9
      have hm : ∀ a, 57 ≤ a → a ≤ 318 → σ'.2 a = σ.2 a := fun a h1 h2 => hg.2 a (by omega) (by unfold fcA; omega)
      have hs' := hg.1
      obtain ⟨rfl, hC⟩ := hp
      refine ⟨(1, 13, 15, 2, 5), by decide, rfl, ?_⟩
      refine hA 2 _ rfl _ _ _ _ _ ?_
      exact ⟨hs', hm, u9, h9', rfl, hC⟩
set_option maxRecDepth 100000 in
set_option maxHeartbeats 1000000 in
theorem h_told (hI : CI σ cc rows K va ad R f n pl c r) (what : Int) (hwhat : ab_R what){u9 : Nat → Int} (h9 : σ.2 319 = some (lgc u9)) : ab_callH 11 4 24 yL_told [rf 0, .inl what, rf 319] σ (hlP σ (cc, rows, K, va, R, f, n, pl, c) r (fun i => (i : Int)) (stq (cc, rows, K, va, R, f, n, pl, c) (sp_told cc rows K va R n what))) := by
  have hs := hI.s
  have h0 := hI.1
  have hc := ab_call_mono (f_told hI what hwhat) (fun _ _ h => pure_st h)
  generalize ho : (stq (cc, rows, K, va, R, f, n, pl, c) (sp_told cc rows K va R n what)) = o at hc
  have hi : ∀ i, o = .inr i → i = 1 := fun i h => by
    subst h
    exact on_told (stq_i ho)
  clear ho
  rcases o with ⟨x, S1⟩ | i
  · refine eL_told rfl (fun At hA => ?_)
    refine hA 0 _ rfl _ _ _ _ _ ?_
    refine Exists.intro _ (And.intro (by first | assumption | exact st_s | exact st_e (by decide) (by assumption) | exact st_e (by omega) (by assumption) | exact st_e (by decide) st_s | exact st_e (by omega) st_s | exact st_e (by decide) (st_e (by decide) (by assumption)) | exact st_e (by omega) (st_e (by omega) (by assumption))) (And.intro rfl (ab_inv_of hc (by first | decide | omega) (by omega) (by omega) ?_)))
    intro z σ' hp
    obtain ⟨hg, hp⟩ := hp
    have h9' : σ'.2 319 = some (lgc u9) := (hg.2 319 (by omega) (by unfold fcA; omega)).trans h9
    have hm : ∀ a, 57 ≤ a → a ≤ 318 → σ'.2 a = σ.2 a := fun a h1 h2 => hg.2 a (by omega) (by unfold fcA; omega)
    have hs' := hg.1
    obtain ⟨rfl, hC⟩ := hp
    have fin : ∀ (v : Int) (L : ab_L) (k n : Nat), v = ab_wr x → At 3 L [] (ab_st σ' 319 (lgc (ab_up u9 0 v))) k n := fun v L k n hv => by
      refine hA 3 _ rfl _ _ _ _ _ ?_
      refine ⟨hs', fun a h1 h2 => (st_n (by omega)).trans (hm a h1 h2), _, st_s, rfl, ab_up_s.trans hv, hC.keep (A := fun a => a = 319) ⟨Nat.le_refl _, fun a _ h2 => st_n h2⟩ (fun a h => by omega)⟩
    refine Exists.intro _ (Exists.intro _ (And.intro (by first | assumption | exact st_s | exact st_e (by decide) (by assumption) | exact st_e (by omega) (by assumption) | exact st_e (by decide) st_s | exact st_e (by omega) st_s | exact st_e (by decide) (st_e (by decide) (by assumption)) | exact st_e (by omega) (st_e (by omega) (by assumption))) (And.intro (by first | omega | (simp only [Int.toNat_natCast]; omega)) ?_)))
    exact fin _ _ _ _ rfl
  · obtain rfl := hi i rfl
    · refine eL_told rfl (fun At hA => ?_)
      refine hA 0 _ rfl _ _ _ _ _ ?_
      refine Exists.intro _ (And.intro (by first | assumption | exact st_s | exact st_e (by decide) (by assumption) | exact st_e (by omega) (by assumption) | exact st_e (by decide) st_s | exact st_e (by omega) st_s | exact st_e (by decide) (st_e (by decide) (by assumption)) | exact st_e (by omega) (st_e (by omega) (by assumption))) (And.intro rfl (ab_inv_of hc (by first | decide | omega) (by omega) (by omega) ?_)))
      intro z σ' hp
      obtain ⟨hg, hp⟩ := hp
      have h9' : σ'.2 319 = some (lgc u9) := (hg.2 319 (by omega) (by unfold fcA; omega)).trans h9
      have hm : ∀ a, 57 ≤ a → a ≤ 318 → σ'.2 a = σ.2 a := fun a h1 h2 => hg.2 a (by omega) (by unfold fcA; omega)
      have hs' := hg.1
      obtain ⟨rfl, hC⟩ := hp
      refine ⟨(1, 13, 12, 2, 3), by decide, rfl, ?_⟩
      refine hA 2 _ rfl _ _ _ _ _ ?_
      exact ⟨hs', hm, u9, h9', rfl, hC⟩
set_option maxRecDepth 100000 in
set_option maxHeartbeats 1000000 in
theorem h_turn (hI : CI σ cc rows K va ad R f n pl c r) (k : Int) (hk : ab_R k){u9 : Nat → Int} (h9 : σ.2 319 = some (lgc u9)) : ab_callH 9 1 6 yL_turn [rf 0, .inl k, rf 319] σ (hlP σ (cc, rows, K, va, R, f, n, pl, c) r (fun i => (i : Int) + 1) (sg_turn cc rows K va R f n pl c k)) := by
  have hs := hI.s
  have h0 := hI.1
  have hc := f_turn hI k hk
  generalize ho : (sg_turn cc rows K va R f n pl c k) = o at hc
  have hi : ∀ i, o = .inr i → i = 0 := fun i h => by
    subst h
    exact on_turn ho
  clear ho
  rcases o with ⟨x, S1⟩ | i
  · refine eL_turn rfl (fun At hA => ?_)
    refine hA 0 _ rfl _ _ _ _ _ ?_
    refine Exists.intro _ (And.intro (by first | assumption | exact st_s | exact st_e (by decide) (by assumption) | exact st_e (by omega) (by assumption) | exact st_e (by decide) st_s | exact st_e (by omega) st_s | exact st_e (by decide) (st_e (by decide) (by assumption)) | exact st_e (by omega) (st_e (by omega) (by assumption))) (And.intro rfl (ab_inv_of hc (by first | decide | omega) (by omega) (by omega) ?_)))
    intro z σ' hp
    obtain ⟨hg, hp⟩ := hp
    have h9' : σ'.2 319 = some (lgc u9) := (hg.2 319 (by omega) (by unfold fcA; omega)).trans h9
    have hm : ∀ a, 57 ≤ a → a ≤ 318 → σ'.2 a = σ.2 a := fun a h1 h2 => hg.2 a (by omega) (by unfold fcA; omega)
    have hs' := hg.1
    obtain ⟨rfl, hC⟩ := hp
    have fin : ∀ (v : Int) (L : ab_L) (k n : Nat), v = ab_wr x → At 3 L [] (ab_st σ' 319 (lgc (ab_up u9 0 v))) k n := fun v L k n hv => by
      refine hA 3 _ rfl _ _ _ _ _ ?_
      refine ⟨hs', fun a h1 h2 => (st_n (by omega)).trans (hm a h1 h2), _, st_s, rfl, ab_up_s.trans hv, hC.keep (A := fun a => a = 319) ⟨Nat.le_refl _, fun a _ h2 => st_n h2⟩ (fun a h => by omega)⟩
    refine Exists.intro _ (Exists.intro _ (And.intro (by first | assumption | exact st_s | exact st_e (by decide) (by assumption) | exact st_e (by omega) (by assumption) | exact st_e (by decide) st_s | exact st_e (by omega) st_s | exact st_e (by decide) (st_e (by decide) (by assumption)) | exact st_e (by omega) (st_e (by omega) (by assumption))) (And.intro (by first | omega | (simp only [Int.toNat_natCast]; omega)) ?_)))
    exact fin _ _ _ _ rfl
  · obtain rfl := hi i rfl
    · refine eL_turn rfl (fun At hA => ?_)
      refine hA 0 _ rfl _ _ _ _ _ ?_
      refine Exists.intro _ (And.intro (by first | assumption | exact st_s | exact st_e (by decide) (by assumption) | exact st_e (by omega) (by assumption) | exact st_e (by decide) st_s | exact st_e (by omega) st_s | exact st_e (by decide) (st_e (by decide) (by assumption)) | exact st_e (by omega) (st_e (by omega) (by assumption))) (And.intro rfl (ab_inv_of hc (by first | decide | omega) (by omega) (by omega) ?_)))
      intro z σ' hp
      obtain ⟨hg, hp⟩ := hp
      have h9' : σ'.2 319 = some (lgc u9) := (hg.2 319 (by omega) (by unfold fcA; omega)).trans h9
      have hm : ∀ a, 57 ≤ a → a ≤ 318 → σ'.2 a = σ.2 a := fun a h1 h2 => hg.2 a (by omega) (by unfold fcA; omega)
      have hs' := hg.1
      obtain ⟨rfl, hC⟩ := hp
      refine ⟨(0, 28, 12, 2, 3), by decide, rfl, ?_⟩
      refine hA 2 _ rfl _ _ _ _ _ ?_
      exact ⟨hs', hm, u9, h9', rfl, hC⟩
set_option maxRecDepth 100000 in
set_option maxHeartbeats 1000000 in
theorem h_unlike (hI : CI σ cc rows K va ad R f n pl c r) (k res : Int) (hk : ab_R k) (hres : ab_R res){u9 : Nat → Int} (h9 : σ.2 319 = some (lgc u9)) : ab_callH 11 4 24 yL_unlike [rf 0, .inl k, .inl res, rf 319] σ (hlP σ (cc, rows, K, va, R, f, n, pl, c) r (fun i => (i : Int) + 1) (stq (cc, rows, K, va, R, f, n, pl, c) (sp_unlike cc rows va R k res))) := by
  have hs := hI.s
  have h0 := hI.1
  have hc := ab_call_mono (f_unlike hI k res hk hres) (fun _ _ h => pure_st h)
  generalize ho : (stq (cc, rows, K, va, R, f, n, pl, c) (sp_unlike cc rows va R k res)) = o at hc
  have hi : ∀ i, o = .inr i → i = 0 := fun i h => by
    subst h
    exact on_unlike (stq_i ho)
  clear ho
  rcases o with ⟨x, S1⟩ | i
  · refine eL_unlike rfl (fun At hA => ?_)
    refine hA 0 _ rfl _ _ _ _ _ ?_
    refine Exists.intro _ (And.intro (by first | assumption | exact st_s | exact st_e (by decide) (by assumption) | exact st_e (by omega) (by assumption) | exact st_e (by decide) st_s | exact st_e (by omega) st_s | exact st_e (by decide) (st_e (by decide) (by assumption)) | exact st_e (by omega) (st_e (by omega) (by assumption))) (And.intro rfl (ab_inv_of hc (by first | decide | omega) (by omega) (by omega) ?_)))
    intro z σ' hp
    obtain ⟨hg, hp⟩ := hp
    have h9' : σ'.2 319 = some (lgc u9) := (hg.2 319 (by omega) (by unfold fcA; omega)).trans h9
    have hm : ∀ a, 57 ≤ a → a ≤ 318 → σ'.2 a = σ.2 a := fun a h1 h2 => hg.2 a (by omega) (by unfold fcA; omega)
    have hs' := hg.1
    obtain ⟨rfl, hC⟩ := hp
    have fin : ∀ (v : Int) (L : ab_L) (k n : Nat), v = ab_wr x → At 3 L [] (ab_st σ' 319 (lgc (ab_up u9 0 v))) k n := fun v L k n hv => by
      refine hA 3 _ rfl _ _ _ _ _ ?_
      refine ⟨hs', fun a h1 h2 => (st_n (by omega)).trans (hm a h1 h2), _, st_s, rfl, ab_up_s.trans hv, hC.keep (A := fun a => a = 319) ⟨Nat.le_refl _, fun a _ h2 => st_n h2⟩ (fun a h => by omega)⟩
    refine Exists.intro _ (Exists.intro _ (And.intro (by first | assumption | exact st_s | exact st_e (by decide) (by assumption) | exact st_e (by omega) (by assumption) | exact st_e (by decide) st_s | exact st_e (by omega) st_s | exact st_e (by decide) (st_e (by decide) (by assumption)) | exact st_e (by omega) (st_e (by omega) (by assumption))) (And.intro (by first | omega | (simp only [Int.toNat_natCast]; omega)) ?_)))
    exact fin _ _ _ _ rfl
  · obtain rfl := hi i rfl
    · refine eL_unlike rfl (fun At hA => ?_)
      refine hA 0 _ rfl _ _ _ _ _ ?_
      refine Exists.intro _ (And.intro (by first | assumption | exact st_s | exact st_e (by decide) (by assumption) | exact st_e (by omega) (by assumption) | exact st_e (by decide) st_s | exact st_e (by omega) st_s | exact st_e (by decide) (st_e (by decide) (by assumption)) | exact st_e (by omega) (st_e (by omega) (by assumption))) (And.intro rfl (ab_inv_of hc (by first | decide | omega) (by omega) (by omega) ?_)))
      intro z σ' hp
      obtain ⟨hg, hp⟩ := hp
      have h9' : σ'.2 319 = some (lgc u9) := (hg.2 319 (by omega) (by unfold fcA; omega)).trans h9
      have hm : ∀ a, 57 ≤ a → a ≤ 318 → σ'.2 a = σ.2 a := fun a h1 h2 => hg.2 a (by omega) (by unfold fcA; omega)
      have hs' := hg.1
      obtain ⟨rfl, hC⟩ := hp
      refine ⟨(0, 28, 13, 2, 4), by decide, rfl, ?_⟩
      refine hA 2 _ rfl _ _ _ _ _ ?_
      exact ⟨hs', hm, u9, h9', rfl, hC⟩
set_option maxRecDepth 100000 in
set_option maxHeartbeats 1000000 in
theorem h_value (hI : CI σ cc rows K va ad R f n pl c r) (k row : Int) (hk : ab_R k) (hrow : ab_R row){u9 : Nat → Int} (h9 : σ.2 319 = some (lgc u9)) : ab_callH 11 4 24 yL_value [rf 0, .inl k, .inl row, rf 319] σ (hlP σ (cc, rows, K, va, R, f, n, pl, c) r (fun i => (i : Int) + 1) (stq (cc, rows, K, va, R, f, n, pl, c) (sp_value cc rows va k row))) := by
  have hs := hI.s
  have h0 := hI.1
  have hc := ab_call_mono (f_value hI k row hk hrow) (fun _ _ h => pure_st h)
  generalize ho : (stq (cc, rows, K, va, R, f, n, pl, c) (sp_value cc rows va k row)) = o at hc
  have hi : ∀ i, o = .inr i → i = 0 := fun i h => by
    subst h
    exact on_value (stq_i ho)
  clear ho
  rcases o with ⟨x, S1⟩ | i
  · refine eL_value rfl (fun At hA => ?_)
    refine hA 0 _ rfl _ _ _ _ _ ?_
    refine Exists.intro _ (And.intro (by first | assumption | exact st_s | exact st_e (by decide) (by assumption) | exact st_e (by omega) (by assumption) | exact st_e (by decide) st_s | exact st_e (by omega) st_s | exact st_e (by decide) (st_e (by decide) (by assumption)) | exact st_e (by omega) (st_e (by omega) (by assumption))) (And.intro rfl (ab_inv_of hc (by first | decide | omega) (by omega) (by omega) ?_)))
    intro z σ' hp
    obtain ⟨hg, hp⟩ := hp
    have h9' : σ'.2 319 = some (lgc u9) := (hg.2 319 (by omega) (by unfold fcA; omega)).trans h9
    have hm : ∀ a, 57 ≤ a → a ≤ 318 → σ'.2 a = σ.2 a := fun a h1 h2 => hg.2 a (by omega) (by unfold fcA; omega)
    have hs' := hg.1
    obtain ⟨rfl, hC⟩ := hp
    have fin : ∀ (v : Int) (L : ab_L) (k n : Nat), v = ab_wr x → At 3 L [] (ab_st σ' 319 (lgc (ab_up u9 0 v))) k n := fun v L k n hv => by
      refine hA 3 _ rfl _ _ _ _ _ ?_
      refine ⟨hs', fun a h1 h2 => (st_n (by omega)).trans (hm a h1 h2), _, st_s, rfl, ab_up_s.trans hv, hC.keep (A := fun a => a = 319) ⟨Nat.le_refl _, fun a _ h2 => st_n h2⟩ (fun a h => by omega)⟩
    refine Exists.intro _ (Exists.intro _ (And.intro (by first | assumption | exact st_s | exact st_e (by decide) (by assumption) | exact st_e (by omega) (by assumption) | exact st_e (by decide) st_s | exact st_e (by omega) st_s | exact st_e (by decide) (st_e (by decide) (by assumption)) | exact st_e (by omega) (st_e (by omega) (by assumption))) (And.intro (by first | omega | (simp only [Int.toNat_natCast]; omega)) ?_)))
    exact fin _ _ _ _ rfl
  · obtain rfl := hi i rfl
    · refine eL_value rfl (fun At hA => ?_)
      refine hA 0 _ rfl _ _ _ _ _ ?_
      refine Exists.intro _ (And.intro (by first | assumption | exact st_s | exact st_e (by decide) (by assumption) | exact st_e (by omega) (by assumption) | exact st_e (by decide) st_s | exact st_e (by omega) st_s | exact st_e (by decide) (st_e (by decide) (by assumption)) | exact st_e (by omega) (st_e (by omega) (by assumption))) (And.intro rfl (ab_inv_of hc (by first | decide | omega) (by omega) (by omega) ?_)))
      intro z σ' hp
      obtain ⟨hg, hp⟩ := hp
      have h9' : σ'.2 319 = some (lgc u9) := (hg.2 319 (by omega) (by unfold fcA; omega)).trans h9
      have hm : ∀ a, 57 ≤ a → a ≤ 318 → σ'.2 a = σ.2 a := fun a h1 h2 => hg.2 a (by omega) (by unfold fcA; omega)
      have hs' := hg.1
      obtain ⟨rfl, hC⟩ := hp
      refine ⟨(0, 28, 13, 2, 4), by decide, rfl, ?_⟩
      refine hA 2 _ rfl _ _ _ _ _ ?_
      exact ⟨hs', hm, u9, h9', rfl, hC⟩
set_option maxRecDepth 100000 in
set_option maxHeartbeats 1000000 in
theorem h_widest (hI : CI σ cc rows K va ad R f n pl c r) (k : Int) (hk : ab_R k){u9 : Nat → Int} (h9 : σ.2 319 = some (lgc u9)) : ab_callH 11 4 24 yL_widest [rf 0, .inl k, rf 319] σ (hlP σ (cc, rows, K, va, R, f, n, pl, c) r (fun i => (i : Int) + 1) (stq (cc, rows, K, va, R, f, n, pl, c) (sp_widest rows R k))) := by
  have hs := hI.s
  have h0 := hI.1
  have hc := ab_call_mono (f_widest hI k hk) (fun _ _ h => pure_st h)
  generalize ho : (stq (cc, rows, K, va, R, f, n, pl, c) (sp_widest rows R k)) = o at hc
  have hi : ∀ i, o = .inr i → i = 0 := fun i h => by
    subst h
    exact on_widest (stq_i ho)
  clear ho
  rcases o with ⟨x, S1⟩ | i
  · refine eL_widest rfl (fun At hA => ?_)
    refine hA 0 _ rfl _ _ _ _ _ ?_
    refine Exists.intro _ (And.intro (by first | assumption | exact st_s | exact st_e (by decide) (by assumption) | exact st_e (by omega) (by assumption) | exact st_e (by decide) st_s | exact st_e (by omega) st_s | exact st_e (by decide) (st_e (by decide) (by assumption)) | exact st_e (by omega) (st_e (by omega) (by assumption))) (And.intro rfl (ab_inv_of hc (by first | decide | omega) (by omega) (by omega) ?_)))
    intro z σ' hp
    obtain ⟨hg, hp⟩ := hp
    have h9' : σ'.2 319 = some (lgc u9) := (hg.2 319 (by omega) (by unfold fcA; omega)).trans h9
    have hm : ∀ a, 57 ≤ a → a ≤ 318 → σ'.2 a = σ.2 a := fun a h1 h2 => hg.2 a (by omega) (by unfold fcA; omega)
    have hs' := hg.1
    obtain ⟨rfl, hC⟩ := hp
    have fin : ∀ (v : Int) (L : ab_L) (k n : Nat), v = ab_wr x → At 3 L [] (ab_st σ' 319 (lgc (ab_up u9 0 v))) k n := fun v L k n hv => by
      refine hA 3 _ rfl _ _ _ _ _ ?_
      refine ⟨hs', fun a h1 h2 => (st_n (by omega)).trans (hm a h1 h2), _, st_s, rfl, ab_up_s.trans hv, hC.keep (A := fun a => a = 319) ⟨Nat.le_refl _, fun a _ h2 => st_n h2⟩ (fun a h => by omega)⟩
    refine Exists.intro _ (Exists.intro _ (And.intro (by first | assumption | exact st_s | exact st_e (by decide) (by assumption) | exact st_e (by omega) (by assumption) | exact st_e (by decide) st_s | exact st_e (by omega) st_s | exact st_e (by decide) (st_e (by decide) (by assumption)) | exact st_e (by omega) (st_e (by omega) (by assumption))) (And.intro (by first | omega | (simp only [Int.toNat_natCast]; omega)) ?_)))
    exact fin _ _ _ _ rfl
  · obtain rfl := hi i rfl
    · refine eL_widest rfl (fun At hA => ?_)
      refine hA 0 _ rfl _ _ _ _ _ ?_
      refine Exists.intro _ (And.intro (by first | assumption | exact st_s | exact st_e (by decide) (by assumption) | exact st_e (by omega) (by assumption) | exact st_e (by decide) st_s | exact st_e (by omega) st_s | exact st_e (by decide) (st_e (by decide) (by assumption)) | exact st_e (by omega) (st_e (by omega) (by assumption))) (And.intro rfl (ab_inv_of hc (by first | decide | omega) (by omega) (by omega) ?_)))
      intro z σ' hp
      obtain ⟨hg, hp⟩ := hp
      have h9' : σ'.2 319 = some (lgc u9) := (hg.2 319 (by omega) (by unfold fcA; omega)).trans h9
      have hm : ∀ a, 57 ≤ a → a ≤ 318 → σ'.2 a = σ.2 a := fun a h1 h2 => hg.2 a (by omega) (by unfold fcA; omega)
      have hs' := hg.1
      obtain ⟨rfl, hC⟩ := hp
      refine ⟨(0, 28, 12, 2, 3), by decide, rfl, ?_⟩
      refine hA 2 _ rfl _ _ _ _ _ ?_
      exact ⟨hs', hm, u9, h9', rfl, hC⟩
set_option maxRecDepth 100000 in
set_option maxHeartbeats 1000000 in
theorem h_within (hI : CI σ cc rows K va ad R f n pl c r) (a b : Int) (ha : ab_R a) (hb : ab_R b){u9 : Nat → Int} (h9 : σ.2 319 = some (lgc u9)) : ab_callH 11 4 24 yL_within [rf 0, .inl a, .inl b, rf 319] σ (hlP σ (cc, rows, K, va, R, f, n, pl, c) r (fun i => (i : Int) + 1) (stq (cc, rows, K, va, R, f, n, pl, c) (sp_within R a b))) := by
  have hs := hI.s
  have h0 := hI.1
  have hc := ab_call_mono (f_within hI a b ha hb) (fun _ _ h => pure_st h)
  generalize ho : (stq (cc, rows, K, va, R, f, n, pl, c) (sp_within R a b)) = o at hc
  have hi : ∀ i, o = .inr i → i = 0 := fun i h => by
    subst h
    exact on_within (stq_i ho)
  have hb : ∀ x S', o = .inl (x, S') → x = 0 ∨ x = 1 := fun x S' h => by
    subst h
    exact bo_within (stq_l ho).1
  clear ho
  rcases o with ⟨x, S1⟩ | i
  · refine eL_within rfl (fun At hA => ?_)
    refine hA 0 _ rfl _ _ _ _ _ ?_
    refine Exists.intro _ (And.intro (by first | assumption | exact st_s | exact st_e (by decide) (by assumption) | exact st_e (by omega) (by assumption) | exact st_e (by decide) st_s | exact st_e (by omega) st_s | exact st_e (by decide) (st_e (by decide) (by assumption)) | exact st_e (by omega) (st_e (by omega) (by assumption))) (And.intro rfl (ab_inv_of hc (by first | decide | omega) (by omega) (by omega) ?_)))
    intro z σ' hp
    obtain ⟨hg, hp⟩ := hp
    have h9' : σ'.2 319 = some (lgc u9) := (hg.2 319 (by omega) (by unfold fcA; omega)).trans h9
    have hm : ∀ a, 57 ≤ a → a ≤ 318 → σ'.2 a = σ.2 a := fun a h1 h2 => hg.2 a (by omega) (by unfold fcA; omega)
    have hs' := hg.1
    obtain ⟨rfl, hC⟩ := hp
    have fin : ∀ (v : Int) (L : ab_L) (k n : Nat), v = ab_wr x → At 6 L [] (ab_st σ' 319 (lgc (ab_up u9 0 v))) k n := fun v L k n hv => by
      refine hA 6 _ rfl _ _ _ _ _ ?_
      refine ⟨hs', fun a h1 h2 => (st_n (by omega)).trans (hm a h1 h2), _, st_s, rfl, ab_up_s.trans hv, hC.keep (A := fun a => a = 319) ⟨Nat.le_refl _, fun a _ h2 => st_n h2⟩ (fun a h => by omega)⟩
    rcases hb x S1 rfl with rfl | rfl
    · refine And.intro (by first | assumption | exact b2i_R _ | exact rR (by omega) (by omega) | exact rR (by simp only [Int.toNat_natCast]; omega) (by simp only [Int.toNat_natCast]; omega)) (And.intro (fun q => ?_) (fun q => ?_))
      · refine hA 2 _ rfl _ _ _ _ _ ?_
        refine hA 3 _ rfl _ _ _ _ _ ?_
        refine Exists.intro _ (Exists.intro _ (And.intro (by first | assumption | exact st_s | exact st_e (by decide) (by assumption) | exact st_e (by omega) (by assumption) | exact st_e (by decide) st_s | exact st_e (by omega) st_s | exact st_e (by decide) (st_e (by decide) (by assumption)) | exact st_e (by omega) (st_e (by omega) (by assumption))) (And.intro (by first | omega | (simp only [Int.toNat_natCast]; omega)) ?_)))
        exact fin _ _ _ _ (by decide)
      · exact absurd rfl q
    · refine And.intro (by first | assumption | exact b2i_R _ | exact rR (by omega) (by omega) | exact rR (by simp only [Int.toNat_natCast]; omega) (by simp only [Int.toNat_natCast]; omega)) (And.intro (fun q => ?_) (fun q => ?_))
      · exact absurd (show (1 : Int) = 0 from q) (by decide)
      · refine hA 1 _ rfl _ _ _ _ _ ?_
        refine hA 3 _ rfl _ _ _ _ _ ?_
        refine Exists.intro _ (Exists.intro _ (And.intro (by first | assumption | exact st_s | exact st_e (by decide) (by assumption) | exact st_e (by omega) (by assumption) | exact st_e (by decide) st_s | exact st_e (by omega) st_s | exact st_e (by decide) (st_e (by decide) (by assumption)) | exact st_e (by omega) (st_e (by omega) (by assumption))) (And.intro (by first | omega | (simp only [Int.toNat_natCast]; omega)) ?_)))
        exact fin _ _ _ _ (by decide)
  · obtain rfl := hi i rfl
    · refine eL_within rfl (fun At hA => ?_)
      refine hA 0 _ rfl _ _ _ _ _ ?_
      refine Exists.intro _ (And.intro (by first | assumption | exact st_s | exact st_e (by decide) (by assumption) | exact st_e (by omega) (by assumption) | exact st_e (by decide) st_s | exact st_e (by omega) st_s | exact st_e (by decide) (st_e (by decide) (by assumption)) | exact st_e (by omega) (st_e (by omega) (by assumption))) (And.intro rfl (ab_inv_of hc (by first | decide | omega) (by omega) (by omega) ?_)))
      intro z σ' hp
      obtain ⟨hg, hp⟩ := hp
      have h9' : σ'.2 319 = some (lgc u9) := (hg.2 319 (by omega) (by unfold fcA; omega)).trans h9
      have hm : ∀ a, 57 ≤ a → a ≤ 318 → σ'.2 a = σ.2 a := fun a h1 h2 => hg.2 a (by omega) (by unfold fcA; omega)
      have hs' := hg.1
      obtain ⟨rfl, hC⟩ := hp
      refine ⟨(0, 28, 20, 5, 4), by decide, rfl, ?_⟩
      refine hA 5 _ rfl _ _ _ _ _ ?_
      exact ⟨hs', hm, u9, h9', rfl, hC⟩
set_option maxRecDepth 100000 in
set_option maxHeartbeats 1000000 in
theorem h_word (hI : CI σ cc rows K va ad R f n pl c r) (k w : Int) (hk : ab_R k) (hw : ab_R w){u9 : Nat → Int} (h9 : σ.2 319 = some (lgc u9)) : ab_callH 11 4 24 yL_word [rf 0, .inl k, .inl w, rf 319] σ (hlP σ (cc, rows, K, va, R, f, n, pl, c) r (fun i => (i : Int) + 1) (stq (cc, rows, K, va, R, f, n, pl, c) (sp_word rows R k w))) := by
  have hs := hI.s
  have h0 := hI.1
  have hc := ab_call_mono (f_word hI k w hk hw) (fun _ _ h => pure_st h)
  generalize ho : (stq (cc, rows, K, va, R, f, n, pl, c) (sp_word rows R k w)) = o at hc
  have hi : ∀ i, o = .inr i → i = 0 := fun i h => by
    subst h
    exact on_word (stq_i ho)
  clear ho
  rcases o with ⟨x, S1⟩ | i
  · refine eL_word rfl (fun At hA => ?_)
    refine hA 0 _ rfl _ _ _ _ _ ?_
    refine Exists.intro _ (And.intro (by first | assumption | exact st_s | exact st_e (by decide) (by assumption) | exact st_e (by omega) (by assumption) | exact st_e (by decide) st_s | exact st_e (by omega) st_s | exact st_e (by decide) (st_e (by decide) (by assumption)) | exact st_e (by omega) (st_e (by omega) (by assumption))) (And.intro rfl (ab_inv_of hc (by first | decide | omega) (by omega) (by omega) ?_)))
    intro z σ' hp
    obtain ⟨hg, hp⟩ := hp
    have h9' : σ'.2 319 = some (lgc u9) := (hg.2 319 (by omega) (by unfold fcA; omega)).trans h9
    have hm : ∀ a, 57 ≤ a → a ≤ 318 → σ'.2 a = σ.2 a := fun a h1 h2 => hg.2 a (by omega) (by unfold fcA; omega)
    have hs' := hg.1
    obtain ⟨rfl, hC⟩ := hp
    have fin : ∀ (v : Int) (L : ab_L) (k n : Nat), v = ab_wr x → At 3 L [] (ab_st σ' 319 (lgc (ab_up u9 0 v))) k n := fun v L k n hv => by
      refine hA 3 _ rfl _ _ _ _ _ ?_
      refine ⟨hs', fun a h1 h2 => (st_n (by omega)).trans (hm a h1 h2), _, st_s, rfl, ab_up_s.trans hv, hC.keep (A := fun a => a = 319) ⟨Nat.le_refl _, fun a _ h2 => st_n h2⟩ (fun a h => by omega)⟩
    refine Exists.intro _ (Exists.intro _ (And.intro (by first | assumption | exact st_s | exact st_e (by decide) (by assumption) | exact st_e (by omega) (by assumption) | exact st_e (by decide) st_s | exact st_e (by omega) st_s | exact st_e (by decide) (st_e (by decide) (by assumption)) | exact st_e (by omega) (st_e (by omega) (by assumption))) (And.intro (by first | omega | (simp only [Int.toNat_natCast]; omega)) ?_)))
    exact fin _ _ _ _ rfl
  · obtain rfl := hi i rfl
    · refine eL_word rfl (fun At hA => ?_)
      refine hA 0 _ rfl _ _ _ _ _ ?_
      refine Exists.intro _ (And.intro (by first | assumption | exact st_s | exact st_e (by decide) (by assumption) | exact st_e (by omega) (by assumption) | exact st_e (by decide) st_s | exact st_e (by omega) st_s | exact st_e (by decide) (st_e (by decide) (by assumption)) | exact st_e (by omega) (st_e (by omega) (by assumption))) (And.intro rfl (ab_inv_of hc (by first | decide | omega) (by omega) (by omega) ?_)))
      intro z σ' hp
      obtain ⟨hg, hp⟩ := hp
      have h9' : σ'.2 319 = some (lgc u9) := (hg.2 319 (by omega) (by unfold fcA; omega)).trans h9
      have hm : ∀ a, 57 ≤ a → a ≤ 318 → σ'.2 a = σ.2 a := fun a h1 h2 => hg.2 a (by omega) (by unfold fcA; omega)
      have hs' := hg.1
      obtain ⟨rfl, hC⟩ := hp
      refine ⟨(0, 28, 13, 2, 4), by decide, rfl, ?_⟩
      refine hA 2 _ rfl _ _ _ _ _ ?_
      exact ⟨hs', hm, u9, h9', rfl, hC⟩
set_option maxRecDepth 100000 in
set_option maxHeartbeats 1000000 in
theorem h_would (hI : CI σ cc rows K va ad R f n pl c r) (kind a b what : Int) (hkind : ab_R kind) (ha : ab_R a) (hb : ab_R b) (hwhat : ab_R what){u9 : Nat → Int} (h9 : σ.2 319 = some (lgc u9)) : ab_callH 11 4 24 yL_would [rf 0, .inl kind, .inl a, .inl b, .inl what, rf 319] σ (hlP σ (cc, rows, K, va, R, f, n, pl, c) r (fun i => (i : Int) + 1) (stq (cc, rows, K, va, R, f, n, pl, c) (sp_would rows R kind a b what))) := by
  have hs := hI.s
  have h0 := hI.1
  have hc := ab_call_mono (f_would hI kind a b what hkind ha hb hwhat) (fun _ _ h => pure_st h)
  generalize ho : (stq (cc, rows, K, va, R, f, n, pl, c) (sp_would rows R kind a b what)) = o at hc
  have hi : ∀ i, o = .inr i → i = 0 ∨ i = 1 := fun i h => by
    subst h
    exact on_would (stq_i ho)
  clear ho
  rcases o with ⟨x, S1⟩ | i
  · refine eL_would rfl (fun At hA => ?_)
    refine hA 0 _ rfl _ _ _ _ _ ?_
    refine Exists.intro _ (And.intro (by first | assumption | exact st_s | exact st_e (by decide) (by assumption) | exact st_e (by omega) (by assumption) | exact st_e (by decide) st_s | exact st_e (by omega) st_s | exact st_e (by decide) (st_e (by decide) (by assumption)) | exact st_e (by omega) (st_e (by omega) (by assumption))) (And.intro rfl (ab_inv_of hc (by first | decide | omega) (by omega) (by omega) ?_)))
    intro z σ' hp
    obtain ⟨hg, hp⟩ := hp
    have h9' : σ'.2 319 = some (lgc u9) := (hg.2 319 (by omega) (by unfold fcA; omega)).trans h9
    have hm : ∀ a, 57 ≤ a → a ≤ 318 → σ'.2 a = σ.2 a := fun a h1 h2 => hg.2 a (by omega) (by unfold fcA; omega)
    have hs' := hg.1
    obtain ⟨rfl, hC⟩ := hp
    have fin : ∀ (v : Int) (L : ab_L) (k n : Nat), v = ab_wr x → At 5 L [] (ab_st σ' 319 (lgc (ab_up u9 0 v))) k n := fun v L k n hv => by
      refine hA 5 _ rfl _ _ _ _ _ ?_
      refine ⟨hs', fun a h1 h2 => (st_n (by omega)).trans (hm a h1 h2), _, st_s, rfl, ab_up_s.trans hv, hC.keep (A := fun a => a = 319) ⟨Nat.le_refl _, fun a _ h2 => st_n h2⟩ (fun a h => by omega)⟩
    refine Exists.intro _ (Exists.intro _ (And.intro (by first | assumption | exact st_s | exact st_e (by decide) (by assumption) | exact st_e (by omega) (by assumption) | exact st_e (by decide) st_s | exact st_e (by omega) st_s | exact st_e (by decide) (st_e (by decide) (by assumption)) | exact st_e (by omega) (st_e (by omega) (by assumption))) (And.intro (by first | omega | (simp only [Int.toNat_natCast]; omega)) ?_)))
    exact fin _ _ _ _ rfl
  · rcases hi i rfl with rfl | rfl
    · refine eL_would rfl (fun At hA => ?_)
      refine hA 0 _ rfl _ _ _ _ _ ?_
      refine Exists.intro _ (And.intro (by first | assumption | exact st_s | exact st_e (by decide) (by assumption) | exact st_e (by omega) (by assumption) | exact st_e (by decide) st_s | exact st_e (by omega) st_s | exact st_e (by decide) (st_e (by decide) (by assumption)) | exact st_e (by omega) (st_e (by omega) (by assumption))) (And.intro rfl (ab_inv_of hc (by first | decide | omega) (by omega) (by omega) ?_)))
      intro z σ' hp
      obtain ⟨hg, hp⟩ := hp
      have h9' : σ'.2 319 = some (lgc u9) := (hg.2 319 (by omega) (by unfold fcA; omega)).trans h9
      have hm : ∀ a, 57 ≤ a → a ≤ 318 → σ'.2 a = σ.2 a := fun a h1 h2 => hg.2 a (by omega) (by unfold fcA; omega)
      have hs' := hg.1
      obtain ⟨rfl, hC⟩ := hp
      refine ⟨(0, 28, 17, 2, 6), by decide, rfl, ?_⟩
      refine hA 2 _ rfl _ _ _ _ _ ?_
      exact ⟨hs', hm, u9, h9', rfl, hC⟩
    · refine eL_would rfl (fun At hA => ?_)
      refine hA 0 _ rfl _ _ _ _ _ ?_
      refine Exists.intro _ (And.intro (by first | assumption | exact st_s | exact st_e (by decide) (by assumption) | exact st_e (by omega) (by assumption) | exact st_e (by decide) st_s | exact st_e (by omega) st_s | exact st_e (by decide) (st_e (by decide) (by assumption)) | exact st_e (by omega) (st_e (by omega) (by assumption))) (And.intro rfl (ab_inv_of hc (by first | decide | omega) (by omega) (by omega) ?_)))
      intro z σ' hp
      obtain ⟨hg, hp⟩ := hp
      have h9' : σ'.2 319 = some (lgc u9) := (hg.2 319 (by omega) (by unfold fcA; omega)).trans h9
      have hm : ∀ a, 57 ≤ a → a ≤ 318 → σ'.2 a = σ.2 a := fun a h1 h2 => hg.2 a (by omega) (by unfold fcA; omega)
      have hs' := hg.1
      obtain ⟨rfl, hC⟩ := hp
      refine ⟨(1, 13, 21, 4, 6), by decide, rfl, ?_⟩
      refine hA 4 _ rfl _ _ _ _ _ ?_
      exact ⟨hs', hm, u9, h9', rfl, hC⟩
end Hlp
