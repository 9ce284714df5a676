-- ===== the table =====
abbrev tbc (cc rows : Nat) : ab_C := .inl (6, [rf 4, rf 5, rf 6, rf 8, rf 9, rf 10, rf 11, .inl cc, .inl rows])
abbrev rsc : ab_C := .inr (.inr (0, 7, fun i => some (12 + 2 * i)))
def gu (rows : Nat) : Nat := (rows + 14) / 15
theorem gu_le {rows : Nat} (h : rows ≤ 1500) : gu rows ≤ 100 := by unfold gu; omega
theorem gu_sp (rows : Nat) : rows ≤ 15 * gu rows ∧ 15 * gu rows < rows + 15 := by unfold gu; omega
section Table
variable {σ : ab_H} {cc rows : Nat}
set_option maxRecDepth 100000 in
set_option maxHeartbeats 1000000 in
theorem c_live (h3 : σ.2 3 = some (tbc cc rows)) (h5 : σ.2 5 = some rsc) : ab_ev 1 yX6_live [rf 3] σ (some (rf 24)) σ := by
  refine eX6_live rfl (fun At hA => ?_)
  refine hA 0 _ rfl _ _ _ _ _ ?_
  refine Exists.intro _ (And.intro (by first | assumption | exact st_s | exact st_e (by decide) (by assumption) | exact st_e (by omega) (by assumption) | exact st_e (by decide) st_s | exact st_e (by omega) st_s | exact st_e (by decide) (st_e (by decide) (by assumption)) | exact st_e (by omega) (st_e (by omega) (by assumption))) ?_)
  refine Exists.intro _ (Exists.intro _ (And.intro (by first | assumption | exact st_s | exact st_e (by decide) (by assumption) | exact st_e (by omega) (by assumption) | exact st_e (by decide) st_s | exact st_e (by omega) st_s | exact st_e (by decide) (st_e (by decide) (by assumption)) | exact st_e (by omega) (st_e (by omega) (by assumption))) (And.intro (by first | omega | (simp only [Int.toNat_natCast]; omega)) ?_)))
  exact ⟨rfl, rfl⟩
set_option maxRecDepth 100000 in
set_option maxHeartbeats 1000000 in
theorem c_hasRow (h3 : σ.2 3 = some (tbc cc rows)) (hr : rows ≤ 1500) (r : Int) (hR : ab_R r) : ab_ev 1 yX6_hasRow [rf 3, .inl r] σ (some (.inl (b2i (decide (0 ≤ r) && decide (r < rows))))) σ := by
  generalize hv : (decide (0 ≤ r) && decide (r < (rows : Int))) = v
  refine eX6_hasRow rfl (fun At hA => ?_)
  have k4 : ∀ z : Int, z = b2i v → At 4 [some (rf 3), some (.inl r)] [.inl z] σ 0 0 := fun z hz => by
    subst hz
    refine hA 4 _ rfl _ _ _ _ _ ?_
    refine And.intro (by first | exact Or.inl rfl | exact Or.inr rfl | exact b2i_01 _) ?_
    exact ⟨rfl, rfl⟩
  have k3 : v = false → At 3 [some (rf 3), some (.inl r)] [] σ 0 0 := fun h => by
    subst h
    refine hA 3 _ rfl _ _ _ _ _ ?_
    exact k4 _ rfl
  refine hA 0 _ rfl _ _ _ _ _ ?_
  refine And.intro (by first | assumption | exact b2i_R _ | exact rR (by omega) (by omega) | exact rR (by simp only [Int.toNat_natCast]; omega) (by simp only [Int.toNat_natCast]; omega)) (And.intro (fun q => ?_) (fun q => ?_))
  · exact k3 (by rw [← hv, decide_eq_false (Int.not_le.mpr q)]; rfl)
  · refine hA 1 _ rfl _ _ _ _ _ ?_
    refine Exists.intro _ (And.intro (by first | assumption | exact st_s | exact st_e (by decide) (by assumption) | exact st_e (by omega) (by assumption) | exact st_e (by decide) st_s | exact st_e (by omega) st_s | exact st_e (by decide) (st_e (by decide) (by assumption)) | exact st_e (by omega) (st_e (by omega) (by assumption))) ?_)
    refine And.intro (And.intro (by first | assumption | exact b2i_R _ | exact rR (by omega) (by omega) | exact rR (by simp only [Int.toNat_natCast]; omega) (by simp only [Int.toNat_natCast]; omega)) (by first | assumption | exact b2i_R _ | exact rR (by omega) (by omega) | exact rR (by simp only [Int.toNat_natCast]; omega) (by simp only [Int.toNat_natCast]; omega))) (And.intro (fun q => ?_) (fun q => ?_))
    · exact k3 (by rw [← hv, decide_eq_false (show ¬ r < (rows : Int) from Int.not_lt.mpr q), Bool.and_false])
    · refine hA 2 _ rfl _ _ _ _ _ ?_
      exact k4 _ (by rw [← hv, decide_eq_true (show 0 ≤ r by assumption), decide_eq_true (show r < (rows : Int) by assumption)]; rfl)
set_option maxRecDepth 100000 in
set_option maxHeartbeats 1000000 in
theorem c_groupsUsed (h3 : σ.2 3 = some (tbc cc rows)) (hr : rows ≤ 1500) : ab_ev 1 yX6_groupsUsed [rf 3] σ (some (.inl (gu rows))) σ := by
  refine eX6_groupsUsed rfl (fun At hA => ?_)
  refine hA 0 _ rfl _ _ _ _ _ ?_
  refine Exists.intro _ (And.intro (by first | assumption | exact st_s | exact st_e (by decide) (by assumption) | exact st_e (by omega) (by assumption) | exact st_e (by decide) st_s | exact st_e (by omega) st_s | exact st_e (by decide) (st_e (by decide) (by assumption)) | exact st_e (by omega) (st_e (by omega) (by assumption))) ?_)
  refine And.intro ⟨by omega, by first | assumption | exact b2i_R _ | exact rR (by omega) (by omega) | exact rR (by simp only [Int.toNat_natCast]; omega) (by simp only [Int.toNat_natCast]; omega), by omega, by first | assumption | exact b2i_R _ | exact rR (by omega) (by omega) | exact rR (by simp only [Int.toNat_natCast]; omega) (by simp only [Int.toNat_natCast]; omega)⟩ ?_
  refine ⟨?_, rfl⟩
  show (Sum.inl (some (Sum.inl (((rows : Int) + 15 - 1) / 15))) : ab_O) = _
  unfold gu
  congr 3
  omega
set_option maxRecDepth 100000 in
set_option maxHeartbeats 1000000 in
theorem c_addColumn (h3 : σ.2 3 = some (tbc cc rows)) {A : Nat → Option Nat} (h4 : σ.2 4 = some (.inr (.inr (1, 4, A)))) (hc : cc < 4) {n : Nat} {fs : List ab_V} (hn : σ.2 n = some (.inl (3, fs))) : ab_ev 1 yX6_addColumn [rf 3, rf n] σ (some (.inl cc)) (ab_st (ab_st σ 4 (.inr (.inr (1, 4, ab_up A cc (some n))))) 3 (tbc (cc + 1) rows)) := by
  refine eX6_addColumn rfl (fun At hA => ?_)
  refine hA 0 _ rfl _ _ _ _ _ ?_
  refine Exists.intro _ (And.intro (by first | assumption | exact st_s | exact st_e (by decide) (by assumption) | exact st_e (by omega) (by assumption) | exact st_e (by decide) st_s | exact st_e (by omega) st_s | exact st_e (by decide) (st_e (by decide) (by assumption)) | exact st_e (by omega) (st_e (by omega) (by assumption))) ?_)
  refine Exists.intro _ (And.intro (by first | assumption | exact st_s | exact st_e (by decide) (by assumption) | exact st_e (by omega) (by assumption) | exact st_e (by decide) st_s | exact st_e (by omega) st_s | exact st_e (by decide) (st_e (by decide) (by assumption)) | exact st_e (by omega) (st_e (by omega) (by assumption))) ?_)
  refine Exists.intro _ (Exists.intro _ (Exists.intro _ (And.intro (by first | assumption | exact st_s | exact st_e (by decide) (by assumption) | exact st_e (by omega) (by assumption) | exact st_e (by decide) st_s | exact st_e (by omega) st_s | exact st_e (by decide) (st_e (by decide) (by assumption)) | exact st_e (by omega) (st_e (by omega) (by assumption))) (And.intro (by first | assumption | exact st_s | exact st_e (by decide) (by assumption) | exact st_e (by omega) (by assumption) | exact st_e (by decide) st_s | exact st_e (by omega) st_s | exact st_e (by decide) (st_e (by decide) (by assumption)) | exact st_e (by omega) (st_e (by omega) (by assumption))) (And.intro (by omega) ?_)))))
  refine Exists.intro _ (And.intro (by first | assumption | exact st_s | exact st_e (by decide) (by assumption) | exact st_e (by omega) (by assumption) | exact st_e (by decide) st_s | exact st_e (by omega) st_s | exact st_e (by decide) (st_e (by decide) (by assumption)) | exact st_e (by omega) (st_e (by omega) (by assumption))) ?_)
  refine Exists.intro _ (And.intro (by first | assumption | exact st_s | exact st_e (by decide) (by assumption) | exact st_e (by omega) (by assumption) | exact st_e (by decide) st_s | exact st_e (by omega) st_s | exact st_e (by decide) (st_e (by decide) (by assumption)) | exact st_e (by omega) (st_e (by omega) (by assumption))) ?_)
  refine Exists.intro _ (And.intro (by first | assumption | exact st_s | exact st_e (by decide) (by assumption) | exact st_e (by omega) (by assumption) | exact st_e (by decide) st_s | exact st_e (by omega) st_s | exact st_e (by decide) (st_e (by decide) (by assumption)) | exact st_e (by omega) (st_e (by omega) (by assumption))) ?_)
  refine ⟨?_, rfl⟩
  show (Sum.inl (some (Sum.inl ((cc : Int) + 1 - 1))) : ab_O) = _
  congr 3
  omega
/-- what is told of the columns: by range, card, components, bases -/
abbrev CT : Type := Bool × Nat × Nat × (Nat → Nat)
/-- the cells of the columns -/
def IsCs (σ : ab_H) (cc rows : Nat) (K : Nat → CT) (va : Nat → Nat → Nat) (ad : Nat → Nat) : Prop :=
  cc ≤ 4 ∧ (∃ A : Nat → Option Nat, σ.2 4 = some (.inr (.inr (1, 4, A))) ∧ ∀ c, c < cc → A c = some (ad c)) ∧
  ∀ c, c < cc → okb (K c).2.1 (K c).2.2.1 (K c).2.2.2 ∧ (∀ r, va c r < 200) ∧ IsC σ (ad c) (K c).1 (K c).2.1 (K c).2.2.1 (K c).2.2.2 (va c) (cbm (K c).1 (K c).2.2.2 (va c) rows) ∧ 320 ≤ ad c ∧ ad c + 6 + 2 * fsp (K c).1 (K c).2.2.2 (K c).2.2.1 ≤ σ.1 ∧ ∀ c', c' < c → ad c' + 6 + 2 * fsp (K c').1 (K c').2.2.2 (K c').2.2.1 ≤ ad c
variable {K : Nat → CT} {va : Nat → Nat → Nat} {ad : Nat → Nat}
theorem IsCs.fr {A : Nat → Prop} {σ' : ab_H} (hC : IsCs σ cc rows K va ad) (hf : fr A σ σ') (h4 : ¬ A 4) (hA : ∀ a, 320 ≤ a → ¬ A a) : IsCs σ' cc rows K va ad := by
  obtain ⟨h1, ⟨B, h2, h3⟩, h5⟩ := hC
  refine ⟨h1, ⟨B, (hf.2 _ h4).trans h2, h3⟩, fun c hc => ?_⟩
  obtain ⟨k1, k2, k3, k4, k5, k6⟩ := h5 c hc
  exact ⟨k1, k2, k3.fr hf (fun a ha _ => hA a (by omega)), k4, by rw [hf.1]; exact k5, k6⟩
set_option maxRecDepth 100000 in
set_option maxHeartbeats 1000000 in
theorem c_bitmapCount (h3 : σ.2 3 = some (tbc cc rows)) (hC : IsCs σ cc rows K va ad) : ab_ev 1 yX6_bitmapCount [rf 3] σ (some (.inl (sm (fun c => fsp (K c).1 (K c).2.2.2 (K c).2.2.1) cc))) σ := by
  obtain ⟨h1, ⟨A, h4, h5⟩, h6⟩ := id hC
  refine eX6_bitmapCount rfl (fun At hA => ?_)
  have loop : ∀ m i : Nat, i + m = cc → At 1 [some (rf 3), some (.inl (sm (fun c => fsp (K c).1 (K c).2.2.2 (K c).2.2.1) i)), some (.inl i)] [] σ 0 0 := by
    intro m
    induction m with
    | zero =>
      intro i hi
      refine hA 1 _ rfl _ _ _ _ _ ?_
      refine Exists.intro _ (And.intro (by first | assumption | exact st_s | exact st_e (by decide) (by assumption) | exact st_e (by omega) (by assumption) | exact st_e (by decide) st_s | exact st_e (by omega) st_s | exact st_e (by decide) (st_e (by decide) (by assumption)) | exact st_e (by omega) (st_e (by omega) (by assumption))) ?_)
      refine And.intro (And.intro (by first | assumption | exact b2i_R _ | exact rR (by omega) (by omega) | exact rR (by simp only [Int.toNat_natCast]; omega) (by simp only [Int.toNat_natCast]; omega)) (by first | assumption | exact b2i_R _ | exact rR (by omega) (by omega) | exact rR (by simp only [Int.toNat_natCast]; omega) (by simp only [Int.toNat_natCast]; omega))) (And.intro (fun q => ?_) (fun q => ?_))
      · refine hA 3 _ rfl _ _ _ _ _ ?_
        exact ⟨by rw [show i = cc by omega], rfl⟩
      · omega
    | succ m ih =>
      intro i hi
      refine hA 1 _ rfl _ _ _ _ _ ?_
      refine Exists.intro _ (And.intro (by first | assumption | exact st_s | exact st_e (by decide) (by assumption) | exact st_e (by omega) (by assumption) | exact st_e (by decide) st_s | exact st_e (by omega) st_s | exact st_e (by decide) (st_e (by decide) (by assumption)) | exact st_e (by omega) (st_e (by omega) (by assumption))) ?_)
      refine And.intro (And.intro (by first | assumption | exact b2i_R _ | exact rR (by omega) (by omega) | exact rR (by simp only [Int.toNat_natCast]; omega) (by simp only [Int.toNat_natCast]; omega)) (by first | assumption | exact b2i_R _ | exact rR (by omega) (by omega) | exact rR (by simp only [Int.toNat_natCast]; omega) (by simp only [Int.toNat_natCast]; omega))) (And.intro (fun q => ?_) (fun q => ?_))
      · omega
      · obtain ⟨k1, k2, k3, -⟩ := h6 i (by omega)
        have k30 := k3.1
        have k35 := k3.2.2.2.2.2.1
        refine hA 2 _ rfl _ _ _ _ _ ?_
        refine Exists.intro _ (And.intro (by first | assumption | exact st_s | exact st_e (by decide) (by assumption) | exact st_e (by omega) (by assumption) | exact st_e (by decide) st_s | exact st_e (by omega) st_s | exact st_e (by decide) (st_e (by decide) (by assumption)) | exact st_e (by omega) (st_e (by omega) (by assumption))) ?_)
        refine Exists.intro _ (Exists.intro _ (And.intro (h4) (And.intro (by omega) ?_)))
        simp only [Int.toNat_natCast, h5 i (by omega)]
        refine Exists.intro _ (And.intro k30 ?_)
        refine Exists.intro _ (Exists.intro _ (And.intro k35 ?_))
        exact ih (i + 1) (by omega)
  refine hA 0 _ rfl _ _ _ _ _ ?_
  exact loop cc 0 (by omega)
def wordsC (rows : Nat) (K : Nat → CT) (va : Nat → Nat → Nat) (c : Nat) : Nat := sm (wordsP (K c).1 (K c).2.2.2 (cbm (K c).1 (K c).2.2.2 (va c) rows) (gu rows)) (K c).2.2.1
set_option maxRecDepth 100000 in
set_option maxHeartbeats 1000000 in
theorem c_wordsOfAll (h3 : σ.2 3 = some (tbc cc rows)) (hr : rows ≤ 1500) (hC : IsCs σ cc rows K va ad) : ab_ev 5 yX6_wordsOfAll [rf 3] σ (some (.inl (sm (wordsC rows K va) cc))) σ := by
  obtain ⟨h1, ⟨A, h4, h5⟩, h6⟩ := id hC
  refine eX6_wordsOfAll rfl (fun At hA => ?_)
  have loop : ∀ m i : Nat, i + m = cc → At 1 [some (rf 3), some (.inl (sm (wordsC rows K va) i)), some (.inl i)] [] σ 0 0 := by
    intro m
    induction m with
    | zero =>
      intro i hi
      refine hA 1 _ rfl _ _ _ _ _ ?_
      refine Exists.intro _ (And.intro (by first | assumption | exact st_s | exact st_e (by decide) (by assumption) | exact st_e (by omega) (by assumption) | exact st_e (by decide) st_s | exact st_e (by omega) st_s | exact st_e (by decide) (st_e (by decide) (by assumption)) | exact st_e (by omega) (st_e (by omega) (by assumption))) ?_)
      refine And.intro (And.intro (by first | assumption | exact b2i_R _ | exact rR (by omega) (by omega) | exact rR (by simp only [Int.toNat_natCast]; omega) (by simp only [Int.toNat_natCast]; omega)) (by first | assumption | exact b2i_R _ | exact rR (by omega) (by omega) | exact rR (by simp only [Int.toNat_natCast]; omega) (by simp only [Int.toNat_natCast]; omega))) (And.intro (fun q => ?_) (fun q => ?_))
      · refine hA 3 _ rfl _ _ _ _ _ ?_
        exact ⟨by rw [show i = cc by omega], rfl⟩
      · omega
    | succ m ih =>
      intro i hi
      refine hA 1 _ rfl _ _ _ _ _ ?_
      refine Exists.intro _ (And.intro (by first | assumption | exact st_s | exact st_e (by decide) (by assumption) | exact st_e (by omega) (by assumption) | exact st_e (by decide) st_s | exact st_e (by omega) st_s | exact st_e (by decide) (st_e (by decide) (by assumption)) | exact st_e (by omega) (st_e (by omega) (by assumption))) ?_)
      refine And.intro (And.intro (by first | assumption | exact b2i_R _ | exact rR (by omega) (by omega) | exact rR (by simp only [Int.toNat_natCast]; omega) (by simp only [Int.toNat_natCast]; omega)) (by first | assumption | exact b2i_R _ | exact rR (by omega) (by omega) | exact rR (by simp only [Int.toNat_natCast]; omega) (by simp only [Int.toNat_natCast]; omega))) (And.intro (fun q => ?_) (fun q => ?_))
      · omega
      · obtain ⟨k1, k2, k3, -⟩ := h6 i (by omega)
        have k30 := k3.1
        refine hA 2 _ rfl _ _ _ _ _ ?_
        refine Exists.intro _ (And.intro (by first | assumption | exact st_s | exact st_e (by decide) (by assumption) | exact st_e (by omega) (by assumption) | exact st_e (by decide) st_s | exact st_e (by omega) st_s | exact st_e (by decide) (st_e (by decide) (by assumption)) | exact st_e (by omega) (st_e (by omega) (by assumption))) ?_)
        refine Exists.intro _ (Exists.intro _ (And.intro (h4) (And.intro (by omega) ?_)))
        simp only [Int.toNat_natCast, h5 i (by omega)]
        refine Exists.intro _ (And.intro h3 (And.intro rfl (ab_inv_ev (c_groupsUsed h3 hr) (by first | decide | omega) (by first | exact Nat.le_refl _ | omega) (by first | exact Nat.le_refl _ | omega) ?_)))
        refine Exists.intro _ (And.intro k30 (And.intro rfl (ab_inv_ev (c_wordsOfColumn k3 k1 (gu rows) (gu_le hr)) (by first | decide | omega) (by first | exact Nat.le_refl _ | omega) (by first | exact Nat.le_refl _ | omega) ?_)))
        exact ih (i + 1) (by omega)
  refine hA 0 _ rfl _ _ _ _ _ ?_
  exact loop cc 0 (by omega)
/-- the values given fit the first n columns -/
def fitI (K : Nat → CT) (v : Nat → Int) : Nat → Bool
  | 0 => true
  | n + 1 => fitI K v n && (decide (0 ≤ v n) && decide (v n < (K n).2.1))
theorem fitI_at {K : Nat → CT} {v : Nat → Int} : ∀ n, fitI K v n = true → ∀ c, c < n → 0 ≤ v c ∧ v c < (K c).2.1 := by
  intro n
  induction n with
  | zero => intro _ c hc; omega
  | succ n ih =>
    intro h c hc
    have h : (fitI K v n && (decide (0 ≤ v n) && decide (v n < (K n).2.1))) = true := h
    rw [Bool.and_eq_true, Bool.and_eq_true, decide_eq_true_iff, decide_eq_true_iff] at h
    by_cases e : c = n
    · subst e; exact h.2
    · exact ih h.1 c (by omega)
theorem fitI_no {K : Nat → CT} {v : Nat → Int} {c : Nat} (h : ¬ (0 ≤ v c ∧ v c < (K c).2.1)) : ∀ n, c < n → fitI K v n = false := by
  intro n
  induction n with
  | zero => intro hc; omega
  | succ n ih =>
    intro hc
    show (fitI K v n && (decide (0 ≤ v n) && decide (v n < (K n).2.1))) = false
    by_cases e : c = n
    · subst e
      rw [show (decide (0 ≤ v c) && decide (v c < ((K c).2.1 : Int))) = false by
        rw [Bool.and_eq_false_iff, decide_eq_false_iff_not, decide_eq_false_iff_not]
        omega]
      exact Bool.and_false _
    · rw [ih (by omega)]
      rfl
set_option maxRecDepth 100000 in
set_option maxHeartbeats 1000000 in
theorem c_fits (h3 : σ.2 3 = some (tbc cc rows)) (hC : IsCs σ cc rows K va ad) {x : Nat} {v : Nat → Int} (hx : σ.2 x = some (.inr (.inl (0, 4, v)))) (hv : ∀ j, j < 4 → ab_R (v j)) : ab_ev 1 yX6_fits [rf 3, rf x] σ (some (.inl (b2i (fitI K v cc)))) σ := by
  obtain ⟨h1, ⟨A, h4, h5⟩, h6⟩ := id hC
  refine eX6_fits rfl (fun At hA => ?_)
  have loop : ∀ m i : Nat, i + m = cc → fitI K v i = true → At 1 [some (rf 3), some (rf x), some (.inl i)] [] σ 0 0 := by
    intro m
    induction m with
    | zero =>
      intro i hi hf
      refine hA 1 _ rfl _ _ _ _ _ ?_
      refine Exists.intro _ (And.intro (by first | assumption | exact st_s | exact st_e (by decide) (by assumption) | exact st_e (by omega) (by assumption) | exact st_e (by decide) st_s | exact st_e (by omega) st_s | exact st_e (by decide) (st_e (by decide) (by assumption)) | exact st_e (by omega) (st_e (by omega) (by assumption))) ?_)
      refine And.intro (And.intro (by first | assumption | exact b2i_R _ | exact rR (by omega) (by omega) | exact rR (by simp only [Int.toNat_natCast]; omega) (by simp only [Int.toNat_natCast]; omega)) (by first | assumption | exact b2i_R _ | exact rR (by omega) (by omega) | exact rR (by simp only [Int.toNat_natCast]; omega) (by simp only [Int.toNat_natCast]; omega))) (And.intro (fun q => ?_) (fun q => ?_))
      · refine hA 6 _ rfl _ _ _ _ _ ?_
        refine And.intro (by first | exact Or.inl rfl | exact Or.inr rfl | exact b2i_01 _) ?_
        exact ⟨by rw [← show i = cc by omega, hf]; rfl, rfl⟩
      · omega
    | succ m ih =>
      intro i hi hf
      have k4 : ¬ (0 ≤ v i ∧ v i < (K i).2.1) → At 4 [some (rf 3), some (rf x), some (.inl i)] [] σ 0 0 := fun hn => by
        refine hA 4 _ rfl _ _ _ _ _ ?_
        refine And.intro (by first | exact Or.inl rfl | exact Or.inr rfl | exact b2i_01 _) ?_
        exact ⟨by rw [fitI_no hn cc (by omega)]; rfl, rfl⟩
      refine hA 1 _ rfl _ _ _ _ _ ?_
      refine Exists.intro _ (And.intro (by first | assumption | exact st_s | exact st_e (by decide) (by assumption) | exact st_e (by omega) (by assumption) | exact st_e (by decide) st_s | exact st_e (by omega) st_s | exact st_e (by decide) (st_e (by decide) (by assumption)) | exact st_e (by omega) (st_e (by omega) (by assumption))) ?_)
      refine And.intro (And.intro (by first | assumption | exact b2i_R _ | exact rR (by omega) (by omega) | exact rR (by simp only [Int.toNat_natCast]; omega) (by simp only [Int.toNat_natCast]; omega)) (by first | assumption | exact b2i_R _ | exact rR (by omega) (by omega) | exact rR (by simp only [Int.toNat_natCast]; omega) (by simp only [Int.toNat_natCast]; omega))) (And.intro (fun q => ?_) (fun q => ?_))
      · omega
      · obtain ⟨k1, k2, k3, -⟩ := h6 i (by omega)
        have k30 := k3.1
        have hvi := hv i (by omega)
        have hcd := k1.2.2.2.2.1
        refine hA 2 _ rfl _ _ _ _ _ ?_
        refine Exists.intro _ (Exists.intro _ (And.intro (hx) (And.intro (by omega) ?_)))
        refine And.intro hvi (And.intro (fun q => ?_) (fun q => ?_))
        · have q : v i < 0 := q
          exact k4 (by omega)
        · have q : 0 ≤ v i := q
          refine hA 3 _ rfl _ _ _ _ _ ?_
          refine Exists.intro _ (Exists.intro _ (And.intro (hx) (And.intro (by omega) ?_)))
          refine Exists.intro _ (And.intro (by first | assumption | exact st_s | exact st_e (by decide) (by assumption) | exact st_e (by omega) (by assumption) | exact st_e (by decide) st_s | exact st_e (by omega) st_s | exact st_e (by decide) (st_e (by decide) (by assumption)) | exact st_e (by omega) (st_e (by omega) (by assumption))) ?_)
          refine Exists.intro _ (Exists.intro _ (And.intro (h4) (And.intro (by omega) ?_)))
          simp only [Int.toNat_natCast, h5 i (by omega)]
          refine Exists.intro _ (And.intro k30 ?_)
          refine And.intro (And.intro hvi (rR (by omega) (by omega))) (And.intro (fun q2 => ?_) (fun q2 => ?_))
          · have q2 : v i < ((K i).2.1 : Int) := q2
            refine hA 5 _ rfl _ _ _ _ _ ?_
            refine ih (i + 1) (by omega) ?_
            show (fitI K v i && (decide (0 ≤ v i) && decide (v i < (K i).2.1))) = true
            rw [hf, decide_eq_true q, decide_eq_true q2]
            rfl
          · have q2 : ((K i).2.1 : Int) ≤ v i := q2
            exact k4 (by omega)
  refine hA 0 _ rfl _ _ _ _ _ ?_
  exact loop cc 0 (by omega) rfl
/-- how many rows of g have each value -/
def tly (g w : Nat → Nat) (rows v : Nat) : Nat := cnt (fun r => bit g r && w r == v) rows
set_option maxRecDepth 100000 in
set_option maxHeartbeats 1000000 in
theorem c_tallyOf (h3 : σ.2 3 = some (tbc cc rows)) (hr : rows ≤ 1500) {t : Nat → Nat} (h8 : σ.2 8 = some (ints 200 t)) {h o : Nat} {rg : Bool} {card parts : Nat} {b w g : Nat → Nat} {G : Nat → Nat → Nat} (hC : IsC σ h rg card parts b w G) (hO : IsB σ o g) (hh : 8 < h) (ho : o ≠ 8 ∧ o + 1 ≠ 8) (hw : ∀ r, w r < 200) : ab_ev 2 yX6_tallyOf [rf 3, rf h, rf o] σ none (ab_st σ 8 (ints 200 (tly g w rows))) := by
  have hC0 := hC.1
  have hC4 := hC.2.2.2.2.1
  refine hq_ev (σ' := ab_st σ 8 (ints 200 (mix 200 (tly g w rows) t))) ?_ (hq_st (fun j hj => by rw [mix_lt hj]))
  refine eX6_tallyOf rfl (fun At hA => ?_)
  have loop2 : ∀ m i : Nat, i + m = rows → At 4 [some (rf 3), some (rf h), some (rf o), some (.inl i)] [] (ab_st σ 8 (ints 200 (mix 200 (tly g w i) t))) 0 0 := by
    intro m
    induction m with
    | zero =>
      intro i hi
      refine hA 4 _ rfl _ _ _ _ _ ?_
      refine Exists.intro _ (And.intro (by first | assumption | exact st_s | exact st_e (by decide) (by assumption) | exact st_e (by omega) (by assumption) | exact st_e (by decide) st_s | exact st_e (by omega) st_s | exact st_e (by decide) (st_e (by decide) (by assumption)) | exact st_e (by omega) (st_e (by omega) (by assumption))) ?_)
      refine And.intro (And.intro (by first | assumption | exact b2i_R _ | exact rR (by omega) (by omega) | exact rR (by simp only [Int.toNat_natCast]; omega) (by simp only [Int.toNat_natCast]; omega)) (by first | assumption | exact b2i_R _ | exact rR (by omega) (by omega) | exact rR (by simp only [Int.toNat_natCast]; omega) (by simp only [Int.toNat_natCast]; omega))) (And.intro (fun q => ?_) (fun q => ?_))
      · refine hA 8 _ rfl _ _ _ _ _ ?_
        exact ⟨rfl, by rw [show i = rows by omega]⟩
      · omega
    | succ m ih =>
      intro i hi
      have hO' : IsB (ab_st σ 8 (ints 200 (mix 200 (tly g w i) t))) o g := hO.ne ho.1 ho.2
      have hO1 := hO'.1
      have hwi := hw i
      refine hA 4 _ rfl _ _ _ _ _ ?_
      refine Exists.intro _ (And.intro (by first | assumption | exact st_s | exact st_e (by decide) (by assumption) | exact st_e (by omega) (by assumption) | exact st_e (by decide) st_s | exact st_e (by omega) st_s | exact st_e (by decide) (st_e (by decide) (by assumption)) | exact st_e (by omega) (st_e (by omega) (by assumption))) ?_)
      refine And.intro (And.intro (by first | assumption | exact b2i_R _ | exact rR (by omega) (by omega) | exact rR (by simp only [Int.toNat_natCast]; omega) (by simp only [Int.toNat_natCast]; omega)) (by first | assumption | exact b2i_R _ | exact rR (by omega) (by omega) | exact rR (by simp only [Int.toNat_natCast]; omega) (by simp only [Int.toNat_natCast]; omega))) (And.intro (fun q => ?_) (fun q => ?_))
      · omega
      · refine hA 5 _ rfl _ _ _ _ _ ?_
        refine Exists.intro _ (And.intro (by first | assumption | exact st_s | exact st_e (by decide) (by assumption) | exact st_e (by omega) (by assumption) | exact st_e (by decide) st_s | exact st_e (by omega) st_s | exact st_e (by decide) (st_e (by decide) (by assumption)) | exact st_e (by omega) (st_e (by omega) (by assumption))) (And.intro rfl (ab_inv_ev (c_contains hO' i (by omega)) (by first | decide | omega) (by first | exact Nat.le_refl _ | omega) (by first | exact Nat.le_refl _ | omega) ?_)))
        refine And.intro (by first | assumption | exact b2i_R _ | exact rR (by omega) (by omega) | exact rR (by simp only [Int.toNat_natCast]; omega) (by simp only [Int.toNat_natCast]; omega)) (And.intro (fun q => ?_) (fun q => ?_))
        · have hq := b2i_0 q
          refine hA 7 _ rfl _ _ _ _ _ ?_
          have := ih (i + 1) (by omega)
          have e : tly g w (i + 1) = tly g w i := by
            funext v
            exact cnt_s0 (by rw [hq]; rfl)
          rw [e] at this
          exact this
        · have hq := b2i_1 q
          refine hA 6 _ rfl _ _ _ _ _ ?_
          refine Exists.intro _ (And.intro (by first | assumption | exact st_s | exact st_e (by decide) (by assumption) | exact st_e (by omega) (by assumption) | exact st_e (by decide) st_s | exact st_e (by omega) st_s | exact st_e (by decide) (st_e (by decide) (by assumption)) | exact st_e (by omega) (st_e (by omega) (by assumption))) ?_)
          refine Exists.intro _ (And.intro (by first | assumption | exact st_s | exact st_e (by decide) (by assumption) | exact st_e (by omega) (by assumption) | exact st_e (by decide) st_s | exact st_e (by omega) st_s | exact st_e (by decide) (st_e (by decide) (by assumption)) | exact st_e (by omega) (st_e (by omega) (by assumption))) ?_)
          refine Exists.intro _ (Exists.intro _ (And.intro (by first | assumption | exact st_s | exact st_e (by decide) (by assumption) | exact st_e (by omega) (by assumption) | exact st_e (by decide) st_s | exact st_e (by omega) st_s | exact st_e (by decide) (st_e (by decide) (by assumption)) | exact st_e (by omega) (st_e (by omega) (by assumption))) (And.intro (by first | omega | (simp only [Int.toNat_natCast]; omega)) ?_)))
          refine Exists.intro _ (Exists.intro _ (And.intro (by first | assumption | exact st_s | exact st_e (by decide) (by assumption) | exact st_e (by omega) (by assumption) | exact st_e (by decide) st_s | exact st_e (by omega) st_s | exact st_e (by decide) (st_e (by decide) (by assumption)) | exact st_e (by omega) (st_e (by omega) (by assumption))) (And.intro (by first | omega | (simp only [Int.toNat_natCast]; omega)) ?_)))
          refine Exists.intro _ (Exists.intro _ (And.intro (by first | assumption | exact st_s | exact st_e (by decide) (by assumption) | exact st_e (by omega) (by assumption) | exact st_e (by decide) st_s | exact st_e (by omega) st_s | exact st_e (by decide) (st_e (by decide) (by assumption)) | exact st_e (by omega) (st_e (by omega) (by assumption))) (And.intro (by first | omega | (simp only [Int.toNat_natCast]; omega)) ?_)))
          have e : ab_up (mix 200 (tly g w i) t) (w i) (mix 200 (tly g w i) t (w i) + 1) = mix 200 (tly g w (i + 1)) t := by
            funext v
            by_cases h : v = w i
            · subst h
              rw [ab_up_s, mix_lt hwi, mix_lt hwi]
              exact (cnt_s1 (by rw [hq, beq_self_eq_true]; rfl)).symm
            · rw [ab_up_n h]
              unfold mix
              split
              · exact (cnt_s0 (by rw [hq, beq_eq_false_iff_ne.mpr (fun e => h e.symm)]; rfl)).symm
              · rfl
          show At 7 _ _ (ab_st (ab_st σ 8 _) 8 (.inr (.inl (0, 200, ab_up (fun j => ((mix 200 (tly g w i) t j : Nat) : Int)) (w i) (((mix 200 (tly g w i) t (w i) + 1 : Nat)) : Int))))) _ _
          rw [ints_up, e, st_st]
          refine hA 7 _ rfl _ _ _ _ _ ?_
          exact ih (i + 1) (by omega)
  have loop1 : ∀ m i : Nat, i + m = 200 → At 1 [some (rf 3), some (rf h), some (rf o), some (.inl i)] [] (ab_st σ 8 (ints 200 (mix i (fun _ => 0) t))) 0 0 := by
    intro m
    induction m with
    | zero =>
      intro i hi
      have hi : i = 200 := by omega
      subst hi
      refine hA 1 _ rfl _ _ _ _ _ ?_
      refine And.intro (And.intro (by first | assumption | exact b2i_R _ | exact rR (by omega) (by omega) | exact rR (by simp only [Int.toNat_natCast]; omega) (by simp only [Int.toNat_natCast]; omega)) (by first | assumption | exact b2i_R _ | exact rR (by omega) (by omega) | exact rR (by simp only [Int.toNat_natCast]; omega) (by simp only [Int.toNat_natCast]; omega))) (And.intro (fun q => ?_) (fun q => ?_))
      · refine hA 3 _ rfl _ _ _ _ _ ?_
        exact loop2 rows 0 (by omega)
      · exact absurd (show (200 : Int) < 200 from q) (by decide)
    | succ m ih =>
      intro i hi
      refine hA 1 _ rfl _ _ _ _ _ ?_
      refine And.intro (And.intro (by first | assumption | exact b2i_R _ | exact rR (by omega) (by omega) | exact rR (by simp only [Int.toNat_natCast]; omega) (by simp only [Int.toNat_natCast]; omega)) (by first | assumption | exact b2i_R _ | exact rR (by omega) (by omega) | exact rR (by simp only [Int.toNat_natCast]; omega) (by simp only [Int.toNat_natCast]; omega))) (And.intro (fun q => ?_) (fun q => ?_))
      · omega
      · refine hA 2 _ rfl _ _ _ _ _ ?_
        refine Exists.intro _ (And.intro (by first | assumption | exact st_s | exact st_e (by decide) (by assumption) | exact st_e (by omega) (by assumption) | exact st_e (by decide) st_s | exact st_e (by omega) st_s | exact st_e (by decide) (st_e (by decide) (by assumption)) | exact st_e (by omega) (st_e (by omega) (by assumption))) ?_)
        refine Exists.intro _ (Exists.intro _ (And.intro (by first | assumption | exact st_s | exact st_e (by decide) (by assumption) | exact st_e (by omega) (by assumption) | exact st_e (by decide) st_s | exact st_e (by omega) st_s | exact st_e (by decide) (st_e (by decide) (by assumption)) | exact st_e (by omega) (st_e (by omega) (by assumption))) (And.intro (by first | omega | (simp only [Int.toNat_natCast]; omega)) ?_)))
        show At 1 _ _ (ab_st (ab_st σ 8 _) 8 (.inr (.inl (0, 200, ab_up (fun j => ((mix i (fun _ => 0) t j : Nat) : Int)) i 0)))) _ _
        rw [st_st, mix_s i (fun _ => 0) t 0 rfl]
        exact ih (i + 1) (by omega)
  refine hA 0 _ rfl _ _ _ _ _ ?_
  have := loop1 200 0 (by omega)
  rw [mix_0, st_id h8] at this
  exact this
end Table
