def st_w (a b : Int) : Bool := decide (a ≠ b) || (decide (a ≠ 0) && decide (a ≠ 32767))
def b2i (b : Bool) : Int := if b then 1 else 0
set_option maxRecDepth 100000 in
theorem c_startsWord (σ : ab_H) (a b : Int) (ha : ab_R a) (hb : ab_R b) : ab_ev 1 yX2_startsWord [.inl a, .inl b] σ (some (.inl (b2i (st_w a b)))) σ := by
  refine eX2_startsWord rfl (fun At hA => ?_)
  have k5 : ∀ z : Int, z = b2i (st_w a b) → At 5 [some (.inl a), some (.inl b)] [.inl z] σ 0 0 := fun z hz => by
    refine hA 5 _ rfl _ _ _ _ _ ?_
    refine And.intro ?_ ?_
    · rw [hz]; unfold b2i; split <;> simp
    · exact ⟨by rw [hz], rfl⟩
  have k3 : st_w a b = true → At 3 [some (.inl a), some (.inl b)] [] σ 0 0 := fun h => by
    refine hA 3 _ rfl _ _ _ _ _ ?_
    exact k5 _ (by rw [h]; rfl)
  have k4 : st_w a b = false → At 4 [some (.inl a), some (.inl b)] [] σ 0 0 := fun h => by
    refine hA 4 _ rfl _ _ _ _ _ ?_
    exact k5 _ (by rw [h]; rfl)
  refine hA 0 _ rfl _ _ _ _ _ ?_
  refine And.intro (And.intro ha hb) (And.intro (fun h1 => ?_) (fun h1 => ?_))
  · exact k3 (by simp [st_w, h1])
  · refine hA 1 _ rfl _ _ _ _ _ ?_
    refine And.intro ha (And.intro (fun h2 => ?_) (fun h2 => ?_))
    · exact k4 (by subst h1; simp [st_w, h2])
    · refine hA 2 _ rfl _ _ _ _ _ ?_
      refine And.intro (And.intro ha (by unfold ab_R; omega)) (And.intro (fun h3 => ?_) (fun h3 => ?_))
      · exact k4 (by subst h1; simp [st_w, h3])
      · exact k3 (by subst h1; simp [st_w, h2, h3])
def wc_f (g : Nat → Int) : Nat → Int → Nat → Int
  | _, _, 0 => 0
  | i, b, n + 1 => b2i (st_w (g i) b) + wc_f g (i + 1) (g i) n
set_option maxRecDepth 100000 in
theorem c_wordCount (σ : ab_H) (h0 ga : Nat) (g : Nat → Int) (u : Nat) (hu : u ≤ 100) (h1 : σ.2 h0 = some (.inl (2, [.inr (.inl (some ga))]))) (h2 : σ.2 ga = some (.inr (.inl (0, 100, g)))) (hg : ∀ i, ab_R (g i)) : ab_ev 2 yX2_wordCount [.inr (.inl (some h0)), .inl u] σ (some (.inl (wc_f g 0 (-1) u))) σ := by
  refine eX2_wordCount rfl (fun At hA => ?_)
  have loop : ∀ (n i : Nat) (w b : Int), i + n = u → ab_R b → wc_f g 0 (-1) u = w + wc_f g i b n → At 1 [some (.inr (.inl (some h0))), some (.inl u), some (.inl w), some (.inl b), some (.inl i)] [] σ 0 0 := by
    intro n
    induction n with
    | zero =>
      intro i w b hi hb hw
      refine hA 1 _ rfl _ _ _ _ _ ?_
      refine And.intro (And.intro (by unfold ab_R; omega) (by unfold ab_R; omega)) (And.intro (fun q => ?_) (fun q => by omega))
      refine hA 5 _ rfl _ _ _ _ _ ?_
      exact ⟨by rw [hw]; simp [wc_f], rfl⟩
    | succ n ih =>
      intro i w b hi hb hw
      refine hA 1 _ rfl _ _ _ _ _ ?_
      refine And.intro (And.intro (by unfold ab_R; omega) (by unfold ab_R; omega)) (And.intro (fun q => by omega) (fun q => ?_))
      refine hA 2 _ rfl _ _ _ _ _ ?_
      refine Exists.intro _ (And.intro h1 ?_)
      refine Exists.intro _ (Exists.intro _ (And.intro h2 (And.intro (by omega) ?_)))
      refine And.intro rfl (ab_inv_ev (c_startsWord σ _ _ (hg _) hb) (by decide) (Nat.le_refl _) (Nat.le_refl _) ?_)
      have k4 : ∀ w' : Int, w' = w + b2i (st_w (g i) b) → At 4 [some (.inr (.inl (some h0))), some (.inl u), some (.inl w'), some (.inl b), some (.inl i)] [] σ 0 0 := fun w' hw' => by
        refine hA 4 _ rfl _ _ _ _ _ ?_
        refine Exists.intro _ (And.intro h1 ?_)
        refine Exists.intro _ (Exists.intro _ (And.intro h2 (And.intro (by omega) ?_)))
        exact ih (i + 1) w' _ (by omega) (hg _) (by rw [hw, hw']; show _ = _ + wc_f g (i + 1) (g i) n; show w + (b2i (st_w (g i) b) + wc_f g (i + 1) (g i) n) = _; omega)
      refine And.intro (by unfold b2i ab_R; split <;> omega) (And.intro (fun q => ?_) (fun q => ?_))
      · exact k4 w (by have q : b2i (st_w (g i) b) = 0 := q; omega)
      · refine hA 3 _ rfl _ _ _ _ _ ?_
        exact k4 (w + 1) (by have q : b2i (st_w (g i) b) ≠ 0 := q; revert q; unfold b2i; split <;> simp)
  refine hA 0 _ rfl _ _ _ _ _ ?_
  exact loop u 0 0 (-1) (by omega) (by unfold ab_R; omega) (by omega)
