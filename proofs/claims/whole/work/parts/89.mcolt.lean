-- ===== the model: the text of a column =====
theorem MT.ia {t f : Nat → Int} {len : Nat} {s : S2} (h : MT t f len s) {x : Nat} (hx : t 4 = x) : MT (ab_up t 4 (skB f len x : Nat)) f len s ∧ ∀ a, s = .inr a → skB f len x = skB f len a := by
  match s, h with
  | .inl (u, v), ⟨h0, h1, h2, h3, h4, y, h5, h6⟩ =>
    have hxl : x ≤ len := by omega
    exact ⟨⟨by rw [ab_up_n (by omega)]; exact h0, h1, h2, by rw [ab_up_n (by omega)]; exact h3, by rw [ab_up_n (by omega)]; exact h4, _, (skB_sp f len x hxl).2, ab_up_s⟩, fun a h => by cases h⟩
  | .inr a, ⟨h0, h1, h2, h3, y, h4, h5, h6⟩ =>
    have hyx : y = x := by omega
    subst hyx
    exact ⟨⟨by rw [ab_up_n (by omega)]; exact h0, h1, by rw [ab_up_n (by omega)]; exact h2, by rw [ab_up_n (by omega)]; exact h3, _, (skB_sp f len y h4).2, by rw [skB_id f len y h4]; exact h5, ab_up_s⟩, fun b h => by cases h; exact h5⟩
section Mcolt
variable {σ : ab_H} {t f : Nat → Int} {len : Nat} {s : S2}
/-- a base: where it leaves off, which -/
def rbT (f : Nat → Int) (len k : Nat) (s : S2) : S2 × Int := match s with
  | .inl e => (.inl e, 0)
  | .inr a => if k = 4 ∧ isD (byt f len (skB f len a)) = true then (.inl (3, (skB f len a : Nat)), 0) else ((numT f len (.inr a) 2 200).2, (numT f len (.inr a) 2 200).1)
theorem rb_k {f : Nat → Int} {len k : Nat} {s : S2} (hk : k ≤ 4) (h : isR (rbT f len k s).1 = true) : k < 4 := by
  match s with
  | .inl e => exact absurd h Bool.false_ne_true
  | .inr a =>
    unfold rbT at h
    dsimp only at h
    rcases Nat.lt_or_ge k 4 with h1 | h1
    · exact h1
    · have hk4 : k = 4 := by omega
      by_cases hd : isD (byt f len (skB f len a)) = true
      · rw [if_pos ⟨hk4, hd⟩] at h
        exact absurd h Bool.false_ne_true
      · rw [if_neg (fun q => hd q.2)] at h
        have e : numP f len a 2 200 = .inl (1, (skB f len a : Nat)) := by
          unfold numP
          exact if_neg hd
        have e2 : (numT f len (.inr a) 2 200).2 = .inl (1, (skB f len a : Nat)) := by
          show (match numP f len a 2 200 with
            | .inl e => ((-1 : Int), (.inl e : S2))
            | .inr (z, a') => (z, .inr a')).2 = _
          rw [e]
        rw [e2] at h
        exact absurd h Bool.false_ne_true
theorem num_in {f : Nat → Int} {len : Nat} {s : S2} {lo hi : Int} (h : isR (numT f len s lo hi).2 = true) (hs : ∀ a, s = .inr a → a ≤ len) : lo ≤ (numT f len s lo hi).1 ∧ (numT f len s lo hi).1 ≤ hi := by
  cases e : (numT f len s lo hi).2 with
  | inl x => rw [e] at h; exact absurd h Bool.false_ne_true
  | inr a' =>
    obtain ⟨a, -, -, -, h1, h2⟩ := numT_ok e hs
    exact ⟨h1, h2⟩
set_option maxRecDepth 100000 in
set_option maxHeartbeats 1000000 in
theorem m_readsBase (h57 : σ.2 57 = some (m10 t)) (h59 : σ.2 59 = some (bya f)) (hf : byR f) (hl : len ≤ 400) (hM : MT t f len s) {g : Nat → Int} (h65 : σ.2 65 = some (iar 7 g)) (k : Nat) (hk : k ≤ 4) (hg1 : g 1 = k) : ab_call 5 0 0 yX10_readsBase [rf 57] σ (fun z σ' => z = .inl none ∧ ∃ t' g', σ' = ab_st (ab_st σ 65 (iar 7 g')) 57 (m10 t') ∧ MT t' f len (rbT f len k s).1 ∧ MU t t' ∧ g' = if isR (rbT f len k s).1 = true then ab_up (ab_up g (3 + k) (rbT f len k s).2) 1 ((k : Int) + 1) else g) := by
  have hfi := m_fine h57 hM
  have hsl : ∀ a, s = .inr a → a ≤ len := fun a h => by subst h; exact hM.2.1
  have hrk := rb_k (f := f) (len := len) (s := s) hk
  have e65 : ∀ u : Nat → Int, ab_st σ 57 (m10 u) = ab_st (ab_st σ 65 (iar 7 g)) 57 (m10 u) := fun u => by rw [st_id h65]
  refine eX10_readsBase rfl (fun At hA => ?_)
  -- the number is read in state u
  have k4 : ∀ (u : Nat → Int) (s1 : S2), MT u f len s1 → MU t u → (∀ a, s1 = .inr a → a ≤ len) → (rbT f len k s).1 = (numT f len s1 2 200).2 → (isR (numT f len s1 2 200).2 = true → (rbT f len k s).2 = (numT f len s1 2 200).1) → ∀ y, At 4 [some (rf 57), y] [] (ab_st σ 57 (m10 u)) 0 0 := fun u s1 hMu hUu hsl1 he he2 y => by
    have u57 : (ab_st σ 57 (m10 u)).2 57 = some (m10 u) := st_s
    have u59 : (ab_st σ 57 (m10 u)).2 59 = some (bya f) := st_e (by omega) h59
    have hn := m_number u57 u59 hf hl hMu 2 200 (rR (by omega) (by omega)) (rR (by omega) (by omega)) (by omega) (by omega)
    refine hA 4 _ rfl _ _ _ _ _ ?_
    refine Exists.intro _ (And.intro (by first | assumption | exact st_s | exact st_e (by decide) (by assumption) | exact st_e (by omega) (by assumption) | exact st_e (by decide) st_s | exact st_e (by omega) st_s | exact st_e (by decide) (st_e (by decide) (by assumption)) | exact st_e (by omega) (st_e (by omega) (by assumption))) (And.intro rfl (ab_inv_of hn (by first | decide | omega) (by omega) (by omega) ?_)))
    intro z υ hpost
    obtain ⟨rfl, v, rfl, hMv, hUv⟩ := hpost
    rw [st_st]
    have v57 : (ab_st σ 57 (m10 v)).2 57 = some (m10 v) := st_s
    refine Exists.intro _ (And.intro (by first | assumption | exact st_s | exact st_e (by decide) (by assumption) | exact st_e (by omega) (by assumption) | exact st_e (by decide) st_s | exact st_e (by omega) st_s | exact st_e (by decide) (st_e (by decide) (by assumption)) | exact st_e (by omega) (st_e (by omega) (by assumption))) (And.intro rfl (ab_inv_ev (m_fine v57 hMv) (by first | decide | omega) (by first | exact Nat.le_refl _ | omega) (by first | exact Nat.le_refl _ | omega) ?_)))
    refine And.intro (by first | assumption | exact b2i_R _ | exact rR (by omega) (by omega) | exact rR (by simp only [Int.toNat_natCast]; omega) (by simp only [Int.toNat_natCast]; omega)) (And.intro (fun q => ?_) (fun q => ?_))
    · have hr := b2i_1 q
      have hr2 : isR (rbT f len k s).1 = true := by rw [he]; exact hr
      have hk4 := hrk hr2
      have v65 : (ab_st σ 57 (m10 v)).2 65 = some (iar 7 g) := st_e (by omega) h65
      have w57 : (ab_st (ab_st σ 57 (m10 v)) 65 (iar 7 (ab_up g ((3 + g 1).toNat) (if isR (numT f len s1 2 200).2 = true then (numT f len s1 2 200).1 else 0)))).2 57 = some (m10 v) := st_e (by omega) v57
      have e3 : (3 + g 1).toNat = 3 + k := by omega
      have ek : ab_up g (3 + k) (rbT f len k s).2 1 = (k : Nat) := by rw [ab_up_n (by omega)]; exact hg1
      rw [if_pos hr, e3, ← he2 hr] at w57
      have hg1' : g ((1 : Int).toNat) = k := hg1
      rw [if_pos hr, ← he2 hr]
      refine hA 6 _ rfl _ _ _ _ _ ?_
      refine Exists.intro _ (And.intro (v57) ?_)
      refine Exists.intro _ (And.intro (v57) ?_)
      refine Exists.intro _ (Exists.intro _ (And.intro (v65) (And.intro (by omega) ?_)))
      refine Exists.intro _ (Exists.intro _ (And.intro (v65) (And.intro (by omega) ?_)))
      rw [show (3 + g ((1 : Int).toNat)).toNat = 3 + k from e3]
      refine Exists.intro _ (And.intro (w57) ?_)
      refine Exists.intro _ (Exists.intro _ (And.intro (st_s) (And.intro (by omega) ?_)))
      refine Exists.intro _ (Exists.intro _ (And.intro (st_s) (And.intro (by omega) ?_)))
      refine ⟨rfl, v, _, ?_, by rw [he]; exact hMv, hUu.tr hUv, by rw [if_pos hr2]⟩
      rw [st_st, st_cm (by omega)]
      show ab_st (ab_st σ 65 (iar 7 (ab_up (ab_up g (3 + k) (rbT f len k s).2) 1 (ab_up g (3 + k) (rbT f len k s).2 1 + 1)))) 57 (m10 v) = _
      rw [ek]
    · have hr := b2i_0 q
      refine hA 5 _ rfl _ _ _ _ _ ?_
      refine ⟨rfl, v, g, e65 v, by rw [he]; exact hMv, hUu.tr hUv, ?_⟩
      rw [if_neg (by rw [he, hr]; exact Bool.false_ne_true)]
  cases s with
  | inl e =>
    have k := k4 t (.inl e) hM (MU.rf t) (fun a h => by cases h) rfl (fun h => absurd h Bool.false_ne_true)
    rw [st_id h57] at k
    refine hA 0 _ rfl _ _ _ _ _ ?_
    refine Exists.intro _ (And.intro (by first | assumption | exact st_s | exact st_e (by decide) (by assumption) | exact st_e (by omega) (by assumption) | exact st_e (by decide) st_s | exact st_e (by omega) st_s | exact st_e (by decide) (st_e (by decide) (by assumption)) | exact st_e (by omega) (st_e (by omega) (by assumption))) (And.intro rfl (ab_inv_ev hfi (by first | decide | omega) (by first | exact Nat.le_refl _ | omega) (by first | exact Nat.le_refl _ | omega) ?_)))
    refine And.intro (by first | assumption | exact b2i_R _ | exact rR (by omega) (by omega) | exact rR (by simp only [Int.toNat_natCast]; omega) (by simp only [Int.toNat_natCast]; omega)) (And.intro (fun q => ?_) (fun q => ?_))
    · exact k _
    · exact absurd rfl q
  | inr a =>
    obtain ⟨h3, ha, h6, h7, x, hx, hsx, h4⟩ := id hM
    have hb := m_here h57 h59 hf h3 hl x hx h4
    have hRb := byt_R hf len (skB f len x)
    have hMr := (hM.ia h4).1
    have q57 : (ab_st σ 57 (m10 (ab_up t 4 (skB f len x : Nat)))).2 57 = some (m10 (ab_up t 4 (skB f len x : Nat))) := st_s
    have q65 : (ab_st σ 57 (m10 (ab_up t 4 (skB f len x : Nat)))).2 65 = some (iar 7 g) := st_e (by omega) h65
    have e4 : ab_up t 4 ((skB f len x : Nat) : Int) 4 = (skB f len x : Nat) := ab_up_s
    have hno : ¬ (k = 4 ∧ isD (byt f len (skB f len a)) = true) → ∀ y, At 4 [some (rf 57), y] [] (ab_st σ 57 (m10 (ab_up t 4 (skB f len x : Nat)))) 0 0 := fun h => by
      have e : rbT f len k (.inr a) = ((numT f len (.inr a) 2 200).2, (numT f len (.inr a) 2 200).1) := if_neg h
      exact k4 _ (.inr a) hMr ((MU.rf t).a4 _) hsl (by rw [e]) (fun _ => by rw [e])
    refine hA 0 _ rfl _ _ _ _ _ ?_
    refine Exists.intro _ (And.intro (by first | assumption | exact st_s | exact st_e (by decide) (by assumption) | exact st_e (by omega) (by assumption) | exact st_e (by decide) st_s | exact st_e (by omega) st_s | exact st_e (by decide) (st_e (by decide) (by assumption)) | exact st_e (by omega) (st_e (by omega) (by assumption))) (And.intro rfl (ab_inv_ev hfi (by first | decide | omega) (by first | exact Nat.le_refl _ | omega) (by first | exact Nat.le_refl _ | omega) ?_)))
    refine And.intro (by first | assumption | exact b2i_R _ | exact rR (by omega) (by omega) | exact rR (by simp only [Int.toNat_natCast]; omega) (by simp only [Int.toNat_natCast]; omega)) (And.intro (fun q => ?_) (fun q => ?_))
    · exact absurd (show (1 : Int) = 0 from q) (by decide)
    · refine hA 1 _ rfl _ _ _ _ _ ?_
      refine Exists.intro _ (And.intro (by first | assumption | exact st_s | exact st_e (by decide) (by assumption) | exact st_e (by omega) (by assumption) | exact st_e (by decide) st_s | exact st_e (by omega) st_s | exact st_e (by decide) (st_e (by decide) (by assumption)) | exact st_e (by omega) (st_e (by omega) (by assumption))) (And.intro rfl (ab_inv_ev hb (by first | decide | omega) (by first | exact Nat.le_refl _ | omega) (by first | exact Nat.le_refl _ | omega) ?_)))
      refine And.intro rfl (ab_inv_ev (m_isDigit (byt f len (skB f len x)) (rR (by omega) (by omega))) (by first | decide | omega) (by first | exact Nat.le_refl _ | omega) (by first | exact Nat.le_refl _ | omega) ?_)
      refine And.intro (by first | assumption | exact b2i_R _ | exact rR (by omega) (by omega) | exact rR (by simp only [Int.toNat_natCast]; omega) (by simp only [Int.toNat_natCast]; omega)) (And.intro (fun q => ?_) (fun q => ?_))
      · exact hno (fun h => by rw [← hsx, b2i_0 q] at h; exact Bool.false_ne_true h.2) _
      · have hdg := b2i_1 q
        have hR1 : ab_R (g ((1 : Int).toNat)) := by show ab_R (g 1); exact rR (by omega) (by omega)
        refine hA 2 _ rfl _ _ _ _ _ ?_
        refine Exists.intro _ (And.intro (q57) ?_)
        refine Exists.intro _ (Exists.intro _ (And.intro (q65) (And.intro (by omega) ?_)))
        refine And.intro (And.intro hR1 (rR (by omega) (by omega))) (And.intro (fun q => ?_) (fun q => ?_))
        · have q : g 1 ≠ 4 := q
          exact hno (fun h => by omega) _
        · have q : g 1 = 4 := q
          have hk4 : k = 4 := by omega
          have e : rbT f len k (.inr a) = (.inl (3, (skB f len a : Nat)), 0) := if_pos ⟨hk4, by rw [← hsx]; exact hdg⟩
          have e6 : ab_up t 4 ((skB f len x : Nat) : Int) 6 = 0 := by rw [ab_up_n (by omega)]; exact h6
          have hw := m_wrong q57 (by rw [e6]; exact rR (by omega) (by omega)) 3 (skB f len x : Nat)
          rw [st_st] at hw
          have hMw : MT (wrT (ab_up t 4 ((skB f len x : Nat) : Int)) 3 (skB f len x : Nat)) f len (.inl (3, (skB f len x : Nat))) := MT.wr hMr 3 _ (by decide) (rR (by omega) (by omega))
          have k := k4 _ _ hMw (((MU.rf t).a4 _).wr _ _) (fun a h => by cases h) (by rw [e, hsx]; rfl) (fun h => absurd h Bool.false_ne_true)
          refine hA 3 _ rfl _ _ _ _ _ ?_
          refine Exists.intro _ (And.intro (q57) ?_)
          refine Exists.intro _ (And.intro q57 (And.intro rfl (ab_inv_ev hw (by first | decide | omega) (by first | exact Nat.le_refl _ | omega) (by first | exact Nat.le_refl _ | omega) ?_)))
          exact k _
set_option maxRecDepth 100000 in
set_option maxHeartbeats 1000000 in
theorem m_readsColumn (h57 : σ.2 57 = some (m10 t)) (h59 : σ.2 59 = some (bya f)) (hf : byR f) (hl : len ≤ 400) (hM : MT t f len (.inr 0)) {g0 : Nat → Int} (h65 : σ.2 65 = some (iar 7 g0)) : ab_call 6 0 0 yX10_readsColumn [rf 57] σ (fun z σ' => z = .inl none ∧ ∃ t' g', σ' = ab_st (ab_st σ 65 (iar 7 g')) 57 (m10 t') ∧ MU t t' ∧ match colP f len with
    | .inl e => MT t' f len (.inl e)
    | .inr (ρ, w, k, bs) => (∃ a, MT t' f len (.inr a)) ∧ g' 0 = w ∧ g' 1 = k ∧ g' 2 = b2i ρ ∧ ∀ p, p < k → g' (3 + p) = bs p) := by
  generalize hCP : colP f len = CP
  refine eX10_readsColumn rfl (fun At hA => ?_)
  -- the whole state
  let H : (Nat → Int) → (Nat → Int) → ab_H := fun u g => ab_st (ab_st σ 65 (iar 7 g)) 57 (m10 u)
  have H57 : ∀ u g, (H u g).2 57 = some (m10 u) := fun u g => st_s
  have H59 : ∀ u g, (H u g).2 59 = some (bya f) := fun u g => st_e (by omega) (st_e (by omega) h59)
  have H65 : ∀ u g, (H u g).2 65 = some (iar 7 g) := fun u g => st_e (by omega) st_s
  have HU : ∀ u g v, ab_st (H u g) 57 (m10 v) = H v g := fun u g v => st_st
  have HG : ∀ u g g', ab_st (H u g) 65 (iar 7 g') = H u g' := fun u g g' => by
    show ab_st (ab_st (ab_st σ 65 (iar 7 g)) 57 (m10 u)) 65 (iar 7 g') = ab_st (ab_st σ 65 (iar 7 g')) 57 (m10 u)
    rw [st_cm (by omega), st_st]
  have HE : ∀ u g, H u g = ab_st (ab_st σ 65 (iar 7 g)) 57 (m10 u) := fun u g => rfl
  -- behind the bases
  have k12 : ∀ (u g : Nat → Int) (s1 : S2) (k : Nat) (bs : Nat → Nat) (i : Nat) (y2 y3 y4 : Option ab_V) (ρ : Int), MT u f len s1 → MU t u → k ≤ 4 → g 1 = k → (∀ p, p < k → g (3 + p) = bs p) → (∀ p, 2 ≤ bs p ∧ bs p ≤ 200) → (isR s1 = true → g 2 = b2i (i == 1)) → CP = (match s1 with
      | .inl e => .inl e
      | .inr a1 => match numP f len a1 2 200 with
        | .inl e => .inl e
        | .inr (z, a2) => if wtp bs k < z.toNat then .inl (4, (skB f len a1 : Nat)) else if skB f len a2 < len then .inl (1, (skB f len a2 : Nat)) else .inr (i == 1, z.toNat, k, bs)) → At 12 [some (rf 57), some (.inl ρ), y2, y3, y4] [] (H u g) 0 0 := fun u g s1 k bs i y2 y3 y4 ρ hMu hUu hk hg1 hgp hbs hg2 hCPe => by
    obtain ⟨x, hx, h4⟩ := hMu.at
    have hb := m_here (H57 u g) (H59 u g) hf hMu.1 hl x hx h4
    rw [HU] at hb
    obtain ⟨hMr, hsr⟩ := hMu.ia h4
    have hs1 : ∀ a, s1 = .inr a → a ≤ len := fun a h => by subst h; exact hMu.2.1
    have hxs := skB_sp f len x hx
    have e4 : ab_up u 4 ((skB f len x : Nat) : Int) 4 = (skB f len x : Nat) := ab_up_s
    have hUr : MU t (ab_up u 4 ((skB f len x : Nat) : Int)) := hUu.a4 _
    generalize ab_up u 4 ((skB f len x : Nat) : Int) = v at hb hMr e4 hUr
    have hn := m_number (H57 v g) (H59 v g) hf hl hMr 2 200 (rR (by omega) (by omega)) (rR (by omega) (by omega)) (by omega) (by omega)
    have hwl := wtp_le hbs
    have hwp := wtp_pos hbs
    have v57 := H57 v g
    have v65 := H65 v g
    refine hA 12 _ rfl _ _ _ _ _ ?_
    refine Exists.intro _ (And.intro (by first | assumption | exact st_s | exact st_e (by decide) (by assumption) | exact st_e (by omega) (by assumption) | exact st_e (by decide) st_s | exact st_e (by omega) st_s | exact st_e (by decide) (st_e (by decide) (by assumption)) | exact st_e (by omega) (st_e (by omega) (by assumption))) (And.intro rfl (ab_inv_ev hb (by first | decide | omega) (by first | exact Nat.le_refl _ | omega) (by first | exact Nat.le_refl _ | omega) ?_)))
    refine Exists.intro _ (And.intro (by first | assumption | exact st_s | exact st_e (by decide) (by assumption) | exact st_e (by omega) (by assumption) | exact st_e (by decide) st_s | exact st_e (by omega) st_s | exact st_e (by decide) (st_e (by decide) (by assumption)) | exact st_e (by omega) (st_e (by omega) (by assumption))) ?_)
    refine Exists.intro _ (And.intro (by first | assumption | exact st_s | exact st_e (by decide) (by assumption) | exact st_e (by omega) (by assumption) | exact st_e (by decide) st_s | exact st_e (by omega) st_s | exact st_e (by decide) (st_e (by decide) (by assumption)) | exact st_e (by omega) (st_e (by omega) (by assumption))) ?_)
    refine Exists.intro _ (And.intro (by first | assumption | exact st_s | exact st_e (by decide) (by assumption) | exact st_e (by omega) (by assumption) | exact st_e (by decide) st_s | exact st_e (by omega) st_s | exact st_e (by decide) (st_e (by decide) (by assumption)) | exact st_e (by omega) (st_e (by omega) (by assumption))) (And.intro rfl (ab_inv_of hn (by first | decide | omega) (by omega) (by omega) ?_)))
    intro z υ hpost
    obtain ⟨rfl, w, rfl, hMw, hUw⟩ := hpost
    rw [HU]
    have w65 := H65 w g
    generalize hz : (if isR (numT f len s1 2 200).2 = true then (numT f len s1 2 200).1 else 0) = z
    have hz0 : 0 ≤ z ∧ z ≤ 200 := by
      rw [← hz]
      split
      · next h => have := num_in h hs1; omega
      · omega
    -- the end
    have k17 : ∀ (x1 g1 : Nat → Int) (s2 : S2) (y4 : Option ab_V), MT x1 f len s2 → MU t x1 → g1 0 = z → g1 1 = k → (∀ p, p < k → g1 (3 + p) = bs p) → g1 2 = g 2 → s2 = (match (numT f len s1 2 200).2 with
        | .inl e => .inl e
        | .inr a2 => if (wtp bs k : Int) < z then .inl (4, (skB f len x : Nat)) else .inr a2) → At 17 [some (rf 57), some (.inl ρ), some (.inl (skB f len x)), some (.inl (wtp bs k)), y4] [] (H x1 g1) 0 0 := fun x1 g1 s2 y4 hMx hUx q0 q1 qp q2 hs2 => by
      have he := m_end (H57 x1 g1) (H59 x1 g1) hf hl hMx
      have x57 := H57 x1 g1
      refine hA 17 _ rfl _ _ _ _ _ ?_
      refine Exists.intro _ (And.intro (by first | assumption | exact st_s | exact st_e (by decide) (by assumption) | exact st_e (by omega) (by assumption) | exact st_e (by decide) st_s | exact st_e (by omega) st_s | exact st_e (by decide) (st_e (by decide) (by assumption)) | exact st_e (by omega) (st_e (by omega) (by assumption))) (And.intro rfl (ab_inv_of he (by first | decide | omega) (by omega) (by omega) ?_)))
      intro z9 υ hpost
      obtain ⟨rfl, x2, rfl, hMe, hUe⟩ := hpost
      rw [HU]
      refine ⟨rfl, x2, g1, rfl, hUx.tr hUe, ?_⟩
      rw [hCPe]
      cases s1 with
      | inl e =>
        have e1 : s2 = .inl e := hs2
        rw [e1] at hMe
        exact hMe
      | inr a1 =>
        have hsa := hsr a1 rfl
        dsimp only
        have eN : numT f len (.inr a1) 2 200 = match numP f len a1 2 200 with
          | .inl e => (-1, .inl e)
          | .inr (z, a') => (z, .inr a') := rfl
        rcases hN : numP f len a1 2 200 with e | ⟨w9, a2⟩
        · rw [hN] at eN
          rw [eN] at hs2
          have e1 : s2 = .inl e := hs2
          rw [e1] at hMe
          exact hMe
        · rw [hN] at eN
          rw [eN] at hs2 hz
          have hz : w9 = z := hz
          subst hz
          have hs2 : s2 = if (wtp bs k : Int) < w9 then .inl (4, (skB f len x : Nat)) else .inr a2 := hs2
          dsimp only
          by_cases hlt : wtp bs k < w9.toNat
          · rw [if_pos hlt]
            rw [if_pos (by omega)] at hs2
            rw [hs2] at hMe
            rw [← hsa]
            exact hMe
          · rw [if_neg hlt]
            rw [if_neg (by omega)] at hs2
            rw [hs2] at hMe
            have eE : endT f len (.inr a2) = if skB f len a2 < len then .inl (1, (skB f len a2 : Nat)) else .inr a2 := rfl
            rw [eE] at hMe
            by_cases hse : skB f len a2 < len
            · rw [if_pos hse] at hMe ⊢
              exact hMe
            · rw [if_neg hse] at hMe ⊢
              exact ⟨⟨a2, hMe⟩, by rw [q0]; omega, q1, by rw [q2]; exact hg2 rfl, qp⟩
    have w57 := H57 w (ab_up g 0 z)
    have w652 := H65 w (ab_up g 0 z)
    have hb4 : wtp bs k ≤ 1600000000 := Nat.le_trans (hwl k) (Nat.le_trans (Nat.pow_le_pow_right (by omega) hk) (by decide))
    -- the product
    have loop : ∀ m i : Nat, i + m = k → At 13 [some (rf 57), some (.inl ρ), some (.inl (skB f len x)), some (.inl (wtp bs i)), some (.inl i)] [] (H w (ab_up g 0 z)) 0 0 := by
      intro m
      induction m with
      | zero =>
        intro i hi
        have hi : i = k := by omega
        subst hi
        have e1 : ab_up g 0 z ((1 : Int).toNat) = i := by rw [ab_up_n (show (1 : Int).toNat ≠ 0 by decide)]; exact hg1
        have e0 : ab_up g 0 z ((0 : Int).toNat) = z := ab_up_s
        have hR1 : ab_R (ab_up g 0 z ((1 : Int).toNat)) := by rw [e1]; exact rR (by omega) (by omega)
        have hR0 : ab_R (ab_up g 0 z ((0 : Int).toNat)) := by rw [e0]; exact rR (by omega) (by omega)
        have hN := num_in (f := f) (len := len) (s := s1) (lo := 2) (hi := 200)
        refine hA 13 _ rfl _ _ _ _ _ ?_
        refine Exists.intro _ (And.intro (w57) ?_)
        refine Exists.intro _ (Exists.intro _ (And.intro (w652) (And.intro (by omega) ?_)))
        refine And.intro (And.intro (rR (by omega) (by omega)) hR1) (And.intro (fun q => ?_) (fun q => ?_))
        · refine hA 15 _ rfl _ _ _ _ _ ?_
          refine Exists.intro _ (And.intro (w57) ?_)
          refine Exists.intro _ (Exists.intro _ (And.intro (w652) (And.intro (by omega) ?_)))
          refine And.intro (And.intro (rR (by omega) (by omega)) hR0) (And.intro (fun q => ?_) (fun q => ?_))
          · rw [e0] at q
            refine k17 w (ab_up g 0 z) (numT f len s1 2 200).2 _ hMw (hUr.tr hUw) ab_up_s e1 (fun p hp => by rw [ab_up_n (by omega)]; exact hgp p hp) (by rw [ab_up_n (by omega)]) ?_
            cases e : (numT f len s1 2 200).2 with
            | inl e => rfl
            | inr a2 => show _ = if (wtp bs i : Int) < z then _ else _; rw [if_neg (by omega)]
          · rw [e0] at q
            have h6 := hMw.fault
            have hw := m_wrong w57 h6.1 4 (skB f len x : Nat)
            rw [HU] at hw
            have hMx := MT.wr hMw 4 (skB f len x : Nat) (by decide) (rR (by omega) (by omega))
            have k9 := fun y => k17 (wrT w 4 (skB f len x : Nat)) (ab_up g 0 z) _ y hMx ((hUr.tr hUw).wr _ _) ab_up_s e1 (fun p hp => by rw [ab_up_n (by omega)]; exact hgp p hp) (by rw [ab_up_n (by omega)]) (by
              cases e : (numT f len s1 2 200).2 with
              | inl e => rfl
              | inr a2 => show _ = if (wtp bs i : Int) < z then _ else _; rw [if_pos (by omega)]; rfl)
            refine hA 16 _ rfl _ _ _ _ _ ?_
            refine Exists.intro _ (And.intro (by first | assumption | exact st_s | exact st_e (by decide) (by assumption) | exact st_e (by omega) (by assumption) | exact st_e (by decide) st_s | exact st_e (by omega) st_s | exact st_e (by decide) (st_e (by decide) (by assumption)) | exact st_e (by omega) (st_e (by omega) (by assumption))) (And.intro rfl (ab_inv_ev hw (by first | decide | omega) (by first | exact Nat.le_refl _ | omega) (by first | exact Nat.le_refl _ | omega) ?_)))
            exact k9 _
        · rw [e1] at q
          omega
      | succ m ih =>
        intro i hi
        have e1 : ab_up g 0 z ((1 : Int).toNat) = k := by rw [ab_up_n (show (1 : Int).toNat ≠ 0 by decide)]; exact hg1
        have hR1 : ab_R (ab_up g 0 z ((1 : Int).toNat)) := by rw [e1]; exact rR (by omega) (by omega)
        have e3 : (3 + ((i : Nat) : Int)).toNat = 3 + i := by omega
        have ei : ab_up g 0 z (3 + ((i : Nat) : Int)).toNat = bs i := by rw [e3, ab_up_n (by omega)]; exact hgp i (by omega)
        have ihi := ih (i + 1) (by omega)
        rw [show wtp bs (i + 1) = wtp bs i * bs i from rfl, Int.natCast_mul, ← ei] at ihi
        refine hA 13 _ rfl _ _ _ _ _ ?_
        refine Exists.intro _ (And.intro (w57) ?_)
        refine Exists.intro _ (Exists.intro _ (And.intro (w652) (And.intro (by omega) ?_)))
        refine And.intro (And.intro (rR (by omega) (by omega)) hR1) (And.intro (fun q => ?_) (fun q => ?_))
        · rw [e1] at q
          omega
        · refine hA 14 _ rfl _ _ _ _ _ ?_
          refine Exists.intro _ (And.intro (w57) ?_)
          refine Exists.intro _ (Exists.intro _ (And.intro (w652) (And.intro (by omega) ?_)))
          exact ihi
    have l0 := loop k 0 (by omega)
    rw [← e4] at l0
    refine Exists.intro _ (Exists.intro _ (And.intro (by first | assumption | exact st_s | exact st_e (by decide) (by assumption) | exact st_e (by omega) (by assumption) | exact st_e (by decide) st_s | exact st_e (by omega) st_s | exact st_e (by decide) (st_e (by decide) (by assumption)) | exact st_e (by omega) (st_e (by omega) (by assumption))) (And.intro (by first | omega | (simp only [Int.toNat_natCast]; omega)) ?_)))
    rw [HG]
    exact l0
  -- behind a base, at a fault
  have k7f : ∀ (u g : Nat → Int) (e : Int × Int) (k : Nat) (bs : Nat → Nat) (ρ : Int) (y2 y3 y4 : Option ab_V), k ≤ 4 → MU t u → g 1 = k → (∀ p, p < k → g (3 + p) = bs p) → (∀ p, 2 ≤ bs p ∧ bs p ≤ 200) → MT u f len (.inl e) → CP = .inl e → At 7 [some (rf 57), some (.inl ρ), y2, y3, y4] [] (H u g) 0 0 := fun u g e k bs ρ y2 y3 y4 hk4 hUu hg1 hgp hbs hMu hCPe => by
    have ht1 := m_takes (H57 u g) (H59 u g) hf hl hMu 24 (rR (by omega) (by omega))
    have u57 := H57 u g
    refine hA 7 _ rfl _ _ _ _ _ ?_
    refine Exists.intro _ (And.intro (by first | assumption | exact st_s | exact st_e (by decide) (by assumption) | exact st_e (by omega) (by assumption) | exact st_e (by decide) st_s | exact st_e (by omega) st_s | exact st_e (by decide) (st_e (by decide) (by assumption)) | exact st_e (by omega) (st_e (by omega) (by assumption))) (And.intro rfl (ab_inv_of ht1 (by first | decide | omega) (by omega) (by omega) ?_)))
    intro z υ hpost
    obtain ⟨rfl, v, rfl, hMv, hUv, -⟩ := hpost
    rw [HU]
    have v57 := H57 v g
    have k12' := k12 v g (.inl e) k bs 0 y2 y3 y4 ρ hMv (hUu.tr hUv) hk4 hg1 hgp hbs (fun h => absurd h Bool.false_ne_true) hCPe
    refine And.intro (by first | assumption | exact b2i_R _ | exact rR (by omega) (by omega) | exact rR (by simp only [Int.toNat_natCast]; omega) (by simp only [Int.toNat_natCast]; omega)) (And.intro (fun q => ?_) (fun q => ?_))
    · refine hA 9 _ rfl _ _ _ _ _ ?_
      refine Exists.intro _ (And.intro (by first | assumption | exact st_s | exact st_e (by decide) (by assumption) | exact st_e (by omega) (by assumption) | exact st_e (by decide) st_s | exact st_e (by omega) st_s | exact st_e (by decide) (st_e (by decide) (by assumption)) | exact st_e (by omega) (st_e (by omega) (by assumption))) (And.intro rfl (ab_inv_ev (m_fine v57 hMv) (by first | decide | omega) (by first | exact Nat.le_refl _ | omega) (by first | exact Nat.le_refl _ | omega) ?_)))
      refine And.intro (by first | assumption | exact b2i_R _ | exact rR (by omega) (by omega) | exact rR (by simp only [Int.toNat_natCast]; omega) (by simp only [Int.toNat_natCast]; omega)) (And.intro (fun q => ?_) (fun q => ?_))
      · exact k12'
      · exact absurd rfl q
    · exact absurd rfl q
  -- what a base leaves
  have post7 : ∀ (i : Nat) (ρ : Int) (y2 y3 y4 : Option ab_V) (m : Nat), (∀ (k : Nat) (u g : Nat → Int) (a' : Nat) (bs : Nat → Nat), k + m = 5 → k ≤ 4 → MU t u → g 1 = k → (∀ p, p < k → g (3 + p) = bs p) → (∀ p, 2 ≤ bs p ∧ bs p ≤ 200) → MT u f len (.inr a') → g 2 = b2i (i == 1) → CP = (match (match wordP f len a' 1 with
            | .inl e => (.inl e : (Int × Int) ⊕ (Nat × Nat × (Nat → Nat)))
            | .inr (j, a'') => if j = 0 then basP f len m k a'' bs else .inr (a'', k, bs)) with
        | .inl e => .inl e
        | .inr (a1, k, bs) => match numP f len a1 2 200 with
          | .inl e => .inl e
          | .inr (z, a2) => if wtp bs k < z.toNat then .inl (4, (skB f len a1 : Nat)) else if skB f len a2 < len then .inl (1, (skB f len a2 : Nat)) else .inr (i == 1, z.toNat, k, bs)) → At 7 [some (rf 57), some (.inl ρ), y2, y3, y4] [] (H u g) 0 0) → ∀ (k : Nat) (u w g g' : Nat → Int) (a9 : Nat) (bs : Nat → Nat), k + (m + 1) = 5 → k ≤ 4 → MU t u → g 1 = k → (∀ p, p < k → g (3 + p) = bs p) → (∀ p, 2 ≤ bs p ∧ bs p ≤ 200) → a9 ≤ len → g 2 = b2i (i == 1) → MT w f len (rbT f len k (.inr a9)).1 → MU u w → (g' = if isR (rbT f len k (.inr a9)).1 = true then ab_up (ab_up g (3 + k) (rbT f len k (.inr a9)).2) 1 ((k : Int) + 1) else g) → CP = (match basP f len (m + 1) k a9 bs with
        | .inl e => .inl e
        | .inr (a1, k, bs) => match numP f len a1 2 200 with
          | .inl e => .inl e
          | .inr (z, a2) => if wtp bs k < z.toNat then .inl (4, (skB f len a1 : Nat)) else if skB f len a2 < len then .inl (1, (skB f len a2 : Nat)) else .inr (i == 1, z.toNat, k, bs)) → At 7 [some (rf 57), some (.inl ρ), y2, y3, y4] [] (H w g') 0 0 := by
    intro i ρ y2 y3 y4 m ih k u w g g' a9 bs hkm hk4 hUu hg1 hgp hbs ha9 hg2 hMw hUw hg' hCPe
    have hRB := rb_k (f := f) (len := len) (s := .inr a9) hk4
    have eRB : rbT f len k (.inr a9) = if k = 4 ∧ isD (byt f len (skB f len a9)) = true then (.inl (3, (skB f len a9 : Nat)), 0) else ((numT f len (.inr a9) 2 200).2, (numT f len (.inr a9) 2 200).1) := rfl
    have eBP : basP f len (m + 1) k a9 bs = if (k == 4 && isD (byt f len (skB f len a9))) = true then .inl (3, (skB f len a9 : Nat)) else
      match numP f len a9 2 200 with
      | .inl e => .inl e
      | .inr (z, a') => match wordP f len a' 1 with
        | .inl e => .inl e
        | .inr (i, a'') => if i = 0 then basP f len m (k + 1) a'' (ab_up bs k z.toNat) else .inr (a'', k + 1, ab_up bs k z.toNat) := rfl
    rw [eBP] at hCPe
    by_cases h4 : k = 4 ∧ isD (byt f len (skB f len a9)) = true
    · rw [if_pos h4] at eRB
      rw [if_pos (by rw [h4.1, h4.2]; rfl)] at hCPe
      rw [eRB] at hMw hg'
      have hg' : g' = g := hg'
      subst hg'
      exact k7f w g' _ k bs ρ y2 y3 y4 hk4 (hUu.tr hUw) hg1 hgp hbs hMw hCPe
    · rw [if_neg h4] at eRB
      rw [if_neg (fun h => h4 (by rw [Bool.and_eq_true, beq_iff_eq] at h; exact h))] at hCPe
      have eN : numT f len (.inr a9) 2 200 = match numP f len a9 2 200 with
        | .inl e => (-1, .inl e)
        | .inr (z, a') => (z, .inr a') := rfl
      rcases hN : numP f len a9 2 200 with e | ⟨w9, a2⟩
      · rw [hN] at eN hCPe
        rw [eRB, eN] at hMw hg'
        have hg' : g' = g := hg'
        subst hg'
        exact k7f w g' _ k bs ρ y2 y3 y4 hk4 (hUu.tr hUw) hg1 hgp hbs hMw hCPe
      · have hni := num_in (f := f) (len := len) (s := .inr a9) (lo := 2) (hi := 200) (by rw [eN, hN]; rfl) (fun a h => by cases h; exact ha9)
        rw [hN] at eN hCPe
        rw [eRB, eN] at hMw hg' hRB
        have hk3 := hRB rfl
        have hg' : g' = ab_up (ab_up g (3 + k) w9) 1 ((k : Int) + 1) := hg'
        subst hg'
        rw [eN] at hni
        have hni : 2 ≤ w9 ∧ w9 ≤ 200 := hni
        have e31 : 3 + k ≠ 1 := by omega
        have e32 : 3 + k ≠ 2 := by omega
        refine ih (k + 1) w _ a2 (ab_up bs k w9.toNat) (by omega) (by omega) (hUu.tr hUw) ab_up_s (fun p hp => ?_) (fun p => ?_) hMw ?_ hCPe
        · rw [ab_up_n (by omega)]
          by_cases e : p = k
          · rw [e, ab_up_s, ab_up_s]
            show w9 = _
            omega
          · rw [ab_up_n (by omega), ab_up_n e]; exact hgp p (by omega)
        · unfold ab_up
          split
          · omega
          · exact hbs p
        · rw [ab_up_n (by omega), ab_up_n (by omega)]; exact hg2
  have k7 : ∀ (i : Nat) (ρ : Int) (y2 y3 y4 : Option ab_V) (m : Nat), ∀ (k : Nat) (u g : Nat → Int) (a' : Nat) (bs : Nat → Nat), k + m = 5 → k ≤ 4 → MU t u → g 1 = k → (∀ p, p < k → g (3 + p) = bs p) → (∀ p, 2 ≤ bs p ∧ bs p ≤ 200) → MT u f len (.inr a') → g 2 = b2i (i == 1) → CP = (match (match wordP f len a' 1 with
            | .inl e => (.inl e : (Int × Int) ⊕ (Nat × Nat × (Nat → Nat)))
            | .inr (j, a'') => if j = 0 then basP f len m k a'' bs else .inr (a'', k, bs)) with
        | .inl e => .inl e
        | .inr (a1, k, bs) => match numP f len a1 2 200 with
          | .inl e => .inl e
          | .inr (z, a2) => if wtp bs k < z.toNat then .inl (4, (skB f len a1 : Nat)) else if skB f len a2 < len then .inl (1, (skB f len a2 : Nat)) else .inr (i == 1, z.toNat, k, bs)) → At 7 [some (rf 57), some (.inl ρ), y2, y3, y4] [] (H u g) 0 0 := by
    intro i ρ y2 y3 y4 m
    induction m with
    | zero => intro k u g a' bs hk hk4; omega
    | succ m ih =>
      intro k u g a' bs hkm hk4 hUu hg1 hgp hbs hMu hg2 hCPe
      have ht1 := m_takes (H57 u g) (H59 u g) hf hl hMu 24 (rR (by omega) (by omega))
      have u57 := H57 u g
      have ha' : a' ≤ len := hMu.2.1
      have hwc := wordP_cd (f := f) ha' (q := 1) (by omega)
      have hwl := skL_sp f len (skB f len a') (skB_sp f len a' ha').2
      refine hA 7 _ rfl _ _ _ _ _ ?_
      refine Exists.intro _ (And.intro (by first | assumption | exact st_s | exact st_e (by decide) (by assumption) | exact st_e (by omega) (by assumption) | exact st_e (by decide) st_s | exact st_e (by omega) st_s | exact st_e (by decide) (st_e (by decide) (by assumption)) | exact st_e (by omega) (st_e (by omega) (by assumption))) (And.intro rfl (ab_inv_of ht1 (by first | decide | omega) (by omega) (by omega) ?_)))
      intro z υ hpost
      obtain ⟨rfl, v, rfl, hMv, hUv, -⟩ := hpost
      rw [HU]
      have v57 := H57 v g
      by_cases hx : wcd f (skB f len a') (skL f len (skB f len a') - skB f len a') = 24
      · have e1 : tkT f len (.inr a') 24 = (true, .inr (skL f len (skB f len a'))) := if_pos hx
        have e2 : wordP f len a' 1 = .inr (0, skL f len (skB f len a')) := by rw [hwc, hx]; rfl
        rw [e1] at hMv
        rw [e1]
        rw [e2] at hCPe
        dsimp only at hCPe
        rw [if_pos rfl] at hCPe
        refine And.intro (by first | assumption | exact b2i_R _ | exact rR (by omega) (by omega) | exact rR (by simp only [Int.toNat_natCast]; omega) (by simp only [Int.toNat_natCast]; omega)) (And.intro (fun q => ?_) (fun q => ?_))
        · exact absurd (show (1 : Int) = 0 from q) (by decide)
        · have hrb := m_readsBase (H57 v g) (H59 v g) hf hl hMv (H65 v g) k hk4 hg1
          refine hA 8 _ rfl _ _ _ _ _ ?_
          refine Exists.intro _ (And.intro (by first | assumption | exact st_s | exact st_e (by decide) (by assumption) | exact st_e (by omega) (by assumption) | exact st_e (by decide) st_s | exact st_e (by omega) st_s | exact st_e (by decide) (st_e (by decide) (by assumption)) | exact st_e (by omega) (st_e (by omega) (by assumption))) (And.intro rfl (ab_inv_of hrb (by first | decide | omega) (by omega) (by omega) ?_)))
          intro z υ hpost
          obtain ⟨rfl, w, g', rfl, hMw, hUw, hg'⟩ := hpost
          have e9 : ab_st (ab_st (H v g) 65 (iar 7 g')) 57 (m10 w) = H w g' := by rw [HG, HU]
          rw [e9]
          have k9 := post7 i ρ y2 y3 y4 m ih k v w g g' (skL f len (skB f len a')) bs hkm hk4 (hUu.tr hUv) hg1 hgp hbs hwl.2 hg2 hMw hUw hg' hCPe
          
          exact k9
      · have e1 : tkT f len (.inr a') 24 = (false, .inr a') := if_neg hx
        rw [e1] at hMv
        rw [e1]
        have ht2 := m_takes (H57 v g) (H59 v g) hf hl hMv 411 (rR (by omega) (by omega))
        refine And.intro (by first | assumption | exact b2i_R _ | exact rR (by omega) (by omega) | exact rR (by simp only [Int.toNat_natCast]; omega) (by simp only [Int.toNat_natCast]; omega)) (And.intro (fun q => ?_) (fun q => ?_))
        · refine hA 9 _ rfl _ _ _ _ _ ?_
          refine Exists.intro _ (And.intro (by first | assumption | exact st_s | exact st_e (by decide) (by assumption) | exact st_e (by omega) (by assumption) | exact st_e (by decide) st_s | exact st_e (by omega) st_s | exact st_e (by decide) (st_e (by decide) (by assumption)) | exact st_e (by omega) (st_e (by omega) (by assumption))) (And.intro rfl (ab_inv_ev (m_fine v57 hMv) (by first | decide | omega) (by first | exact Nat.le_refl _ | omega) (by first | exact Nat.le_refl _ | omega) ?_)))
          refine And.intro (by first | assumption | exact b2i_R _ | exact rR (by omega) (by omega) | exact rR (by simp only [Int.toNat_natCast]; omega) (by simp only [Int.toNat_natCast]; omega)) (And.intro (fun q => ?_) (fun q => ?_))
          · exact absurd (show (1 : Int) = 0 from q) (by decide)
          · have hle := m_letters (σ := H v g) 15 6 0 0 0 0 (rR (by omega) (by omega)) (rR (by omega) (by omega)) (rR (by omega) (by omega)) (rR (by omega) (by omega))
            rw [show lt6 15 6 0 0 0 0 = 411 by decide] at hle
            refine hA 10 _ rfl _ _ _ _ _ ?_
            refine And.intro rfl (ab_inv_ev hle (by first | decide | omega) (by first | exact Nat.le_refl _ | omega) (by first | exact Nat.le_refl _ | omega) ?_)
            refine Exists.intro _ (And.intro (by first | assumption | exact st_s | exact st_e (by decide) (by assumption) | exact st_e (by omega) (by assumption) | exact st_e (by decide) st_s | exact st_e (by omega) st_s | exact st_e (by decide) (st_e (by decide) (by assumption)) | exact st_e (by omega) (st_e (by omega) (by assumption))) (And.intro rfl (ab_inv_of ht2 (by first | decide | omega) (by omega) (by omega) ?_)))
            intro z υ hpost
            obtain ⟨rfl, w, rfl, hMw, hUw, hat⟩ := hpost
            rw [HU]
            have w57 := H57 w g
            by_cases hy : wcd f (skB f len a') (skL f len (skB f len a') - skB f len a') = 411
            · have e3 : tkT f len (.inr a') 411 = (true, .inr (skL f len (skB f len a'))) := if_pos hy
              have e2 : wordP f len a' 1 = .inr (1, skL f len (skB f len a')) := by rw [hwc, hy]; rfl
              rw [e3] at hMw
              rw [e3]
              rw [e2] at hCPe
              dsimp only at hCPe
              rw [if_neg (by omega)] at hCPe
              have k9 := k12 w g _ k bs i y2 y3 y4 ρ hMw ((hUu.tr hUv).tr hUw) hk4 hg1 hgp hbs (fun _ => hg2) hCPe
              refine And.intro (by first | assumption | exact b2i_R _ | exact rR (by omega) (by omega) | exact rR (by simp only [Int.toNat_natCast]; omega) (by simp only [Int.toNat_natCast]; omega)) (And.intro (fun q => ?_) (fun q => ?_))
              · exact k9
              · exact absurd (show (1 : Int) = 0 from q) (by decide)
            · have e3 : tkT f len (.inr a') 411 = (false, .inr a') := if_neg hy
              have e2 : wordP f len a' 1 = .inl (1, (skB f len a' : Nat)) := by
                have e5 : fstC (wcd f (skB f len a') (skL f len (skB f len a') - skB f len a')) (nmc 1) 0 = none := by
                  show (if _ = (24 : Int) then some 0 else if _ = (411 : Int) then some 1 else none) = none
                  rw [if_neg hx, if_neg hy]
                rw [hwc, e5]
              obtain ⟨a5, ha5, hat⟩ := hat ⟨a', rfl, by rw [e3]⟩
              cases ha5
              rw [e3] at hMw
              rw [e3]
              rw [e2] at hCPe
              have h6 := hMw.fault
              have hwr := m_wrong w57 h6.1 1 (w 4)
              rw [HU] at hwr
              have hMx := MT.wr hMw 1 (w 4) (by decide) (rR (by omega) (by omega))
              have k9 := k12 (wrT w 1 (w 4)) g _ k bs i y2 y3 y4 ρ hMx (((hUu.tr hUv).tr hUw).wr _ _) hk4 hg1 hgp hbs (fun h => absurd h Bool.false_ne_true) (by rw [hCPe, ← hat]; rfl)
              refine And.intro (by first | assumption | exact b2i_R _ | exact rR (by omega) (by omega) | exact rR (by simp only [Int.toNat_natCast]; omega) (by simp only [Int.toNat_natCast]; omega)) (And.intro (fun q => ?_) (fun q => ?_))
              · exact absurd rfl q
              · refine hA 11 _ rfl _ _ _ _ _ ?_
                refine Exists.intro _ (And.intro (by first | assumption | exact st_s | exact st_e (by decide) (by assumption) | exact st_e (by omega) (by assumption) | exact st_e (by decide) st_s | exact st_e (by omega) st_s | exact st_e (by decide) (st_e (by decide) (by assumption)) | exact st_e (by omega) (st_e (by omega) (by assumption))) ?_)
                refine Exists.intro _ (And.intro (by first | assumption | exact st_s | exact st_e (by decide) (by assumption) | exact st_e (by omega) (by assumption) | exact st_e (by decide) st_s | exact st_e (by omega) st_s | exact st_e (by decide) (st_e (by decide) (by assumption)) | exact st_e (by omega) (st_e (by omega) (by assumption))) (And.intro rfl (ab_inv_ev hwr (by first | decide | omega) (by first | exact Nat.le_refl _ | omega) (by first | exact Nat.le_refl _ | omega) ?_)))
                exact k9
        · exact absurd rfl q
  -- the first base
  have k6 : ∀ (u g : Nat → Int) (s1 : S2) (i : Nat) (ρ z : Int) (y2 y3 y4 : Option ab_V), MT u f len s1 → MU t u → g 1 = 0 → (isR s1 = true → z = b2i (i == 1)) → CP = (match s1 with
      | .inl e => .inl e
      | .inr a => match basP f len 5 0 a (fun _ => 2) with
        | .inl e => .inl e
        | .inr (a1, k, bs) => match numP f len a1 2 200 with
          | .inl e => .inl e
          | .inr (z, a2) => if wtp bs k < z.toNat then .inl (4, (skB f len a1 : Nat)) else if skB f len a2 < len then .inl (1, (skB f len a2 : Nat)) else .inr (i == 1, z.toNat, k, bs)) → At 6 [some (rf 57), some (.inl ρ), y2, y3, y4] [.inl z, .inl 2, rf 65] (H u g) 0 0 := fun u g s1 i ρ z y2 y3 y4 hMu hUu hg1 hz hCPe => by
    have hg1' : ab_up g ((2 : Int).toNat) z 1 = ((0 : Nat) : Int) := by rw [ab_up_n (show (1 : Nat) ≠ (2 : Int).toNat by decide)]; exact hg1
    have hrb := m_readsBase (H57 u (ab_up g ((2 : Int).toNat) z)) (H59 u (ab_up g ((2 : Int).toNat) z)) hf hl hMu (H65 u (ab_up g ((2 : Int).toNat) z)) 0 (by omega) hg1'
    have u57 := H57 u (ab_up g ((2 : Int).toNat) z)
    have u65 := H65 u g
    refine hA 6 _ rfl _ _ _ _ _ ?_
    refine Exists.intro _ (Exists.intro _ (And.intro (u65) (And.intro (by omega) ?_)))
    rw [HG]
    refine Exists.intro _ (And.intro u57 (And.intro rfl (ab_inv_of hrb (by first | decide | omega) (by omega) (by omega) ?_)))
    intro z9 υ hpost
    obtain ⟨rfl, w, g', rfl, hMw, hUw, hg'⟩ := hpost
    have e9 : ab_st (ab_st (H u (ab_up g ((2 : Int).toNat) z)) 65 (iar 7 g')) 57 (m10 w) = H w g' := by rw [HG, HU]
    rw [e9]
    cases s1 with
    | inl e =>
      have hg' : g' = ab_up g ((2 : Int).toNat) z := by rw [hg']; rfl
      subst hg'
      have k9 := k7f w _ e 0 (fun _ => 2) ρ y2 y3 y4 (by omega) (hUu.tr hUw) hg1' (fun p hp => by omega) (fun p => by decide) hMw hCPe
      
      exact k9
    | inr a =>
      have k9 := post7 i ρ y2 y3 y4 4 (k7 i ρ y2 y3 y4 4) 0 u w _ g' a (fun _ => 2) rfl (by omega) hUu hg1' (fun p hp => by omega) (fun p => by decide) hMu.2.1 (by rw [show ab_up g ((2 : Int).toNat) z 2 = z from ab_up_s]; exact hz rfl) hMw hUw hg' hCPe
      
      exact k9
  -- the form
  have k3 : ∀ (u : Nat → Int) (s1 : S2) (i : Nat) (ρ : Int) (y2 y3 y4 : Option ab_V), (ρ = 0 ∨ ρ = 1) → MT u f len s1 → MU t u → (isR s1 = true → ρ = b2i (i == 1)) → CP = (match s1 with
      | .inl e => .inl e
      | .inr a => match basP f len 5 0 a (fun _ => 2) with
        | .inl e => .inl e
        | .inr (a1, k, bs) => match numP f len a1 2 200 with
          | .inl e => .inl e
          | .inr (z, a2) => if wtp bs k < z.toNat then .inl (4, (skB f len a1 : Nat)) else if skB f len a2 < len then .inl (1, (skB f len a2 : Nat)) else .inr (i == 1, z.toNat, k, bs)) → At 3 [some (rf 57), some (.inl ρ), y2, y3, y4] [] (H u g0) 0 0 := fun u s1 i ρ y2 y3 y4 hρ hMu hUu hz hCPe => by
    have u57 := H57 u g0
    have u65 := H65 u g0
    have v57 := H57 u (ab_up g0 ((1 : Int).toNat) 0)
    have k9 := fun z hz => k6 u (ab_up g0 ((1 : Int).toNat) 0) s1 i ρ z y2 y3 y4 hMu hUu ab_up_s hz hCPe
    refine hA 3 _ rfl _ _ _ _ _ ?_
    refine Exists.intro _ (And.intro (u57) ?_)
    refine Exists.intro _ (Exists.intro _ (And.intro (u65) (And.intro (by omega) ?_)))
    rw [HG]
    refine Exists.intro _ (And.intro (v57) ?_)
    refine And.intro (rR (by omega) (by omega)) (And.intro (fun q => ?_) (fun q => ?_))
    · refine hA 5 _ rfl _ _ _ _ _ ?_
      exact k9 0 (fun h => by rw [← hz h]; omega)
    · refine hA 4 _ rfl _ _ _ _ _ ?_
      exact k9 1 (fun h => by rw [← hz h]; omega)
  have H0 : σ = H t g0 := by
    show σ = ab_st (ab_st σ 65 (iar 7 g0)) 57 (m10 t)
    rw [st_id h65, st_id h57]
  have hl1 := m_letters (σ := σ) 18 1 14 7 5 0 (rR (by omega) (by omega)) (rR (by omega) (by omega)) (rR (by omega) (by omega)) (rR (by omega) (by omega))
  rw [show lt6 18 1 14 7 5 0 = 9596021 by decide] at hl1
  have ht1 := m_takes h57 h59 hf hl hM 9596021 (rR (by omega) (by omega))
  have hwc := wordP_cd (f := f) (Nat.zero_le len) (q := 0) (by omega)
  have hCP2 : CP = match wordP f len 0 0 with
      | .inl e => .inl e
      | .inr (i, a) => match basP f len 5 0 a (fun _ => 2) with
        | .inl e => .inl e
        | .inr (a1, k, bs) => match numP f len a1 2 200 with
          | .inl e => .inl e
          | .inr (z, a2) => if wtp bs k < z.toNat then .inl (4, (skB f len a1 : Nat)) else if skB f len a2 < len then .inl (1, (skB f len a2 : Nat)) else .inr (i == 1, z.toNat, k, bs) := by rw [← hCP]; rfl
  refine hA 0 _ rfl _ _ _ _ _ ?_
  refine And.intro rfl (ab_inv_ev hl1 (by first | decide | omega) (by first | exact Nat.le_refl _ | omega) (by first | exact Nat.le_refl _ | omega) ?_)
  refine Exists.intro _ (And.intro (by first | assumption | exact st_s | exact st_e (by decide) (by assumption) | exact st_e (by omega) (by assumption) | exact st_e (by decide) st_s | exact st_e (by omega) st_s | exact st_e (by decide) (st_e (by decide) (by assumption)) | exact st_e (by omega) (st_e (by omega) (by assumption))) (And.intro rfl (ab_inv_of ht1 (by first | decide | omega) (by omega) (by omega) ?_)))
  intro z υ hpost
  obtain ⟨rfl, v, rfl, hMv, hUv, -⟩ := hpost
  have ev : ab_st σ 57 (m10 v) = H v g0 := by rw [HE, st_id h65]
  rw [ev]
  have v57 := H57 v g0
  by_cases hx : wcd f (skB f len 0) (skL f len (skB f len 0) - skB f len 0) = 9596021
  · have e1 : tkT f len (.inr 0) 9596021 = (true, .inr (skL f len (skB f len 0))) := if_pos hx
    have e2 : wordP f len 0 0 = .inr (1, skL f len (skB f len 0)) := by rw [hwc, hx]; rfl
    rw [e1] at hMv
    rw [e1]
    rw [e2] at hCP2
    have k9 := k3 v _ 1 1 none none none (Or.inr rfl) hMv hUv (fun _ => rfl) hCP2
    refine And.intro (by first | assumption | exact b2i_R _ | exact rR (by omega) (by omega) | exact rR (by simp only [Int.toNat_natCast]; omega) (by simp only [Int.toNat_natCast]; omega)) (And.intro (fun q => ?_) (fun q => ?_))
    · exact k9
    · exact absurd (show (1 : Int) = 0 from q) (by decide)
  · have e1 : tkT f len (.inr 0) 9596021 = (false, .inr 0) := if_neg hx
    rw [e1] at hMv
    rw [e1]
    have hl2 := m_letters (σ := H v g0) 5 17 21 1 12 0 (rR (by omega) (by omega)) (rR (by omega) (by omega)) (rR (by omega) (by omega)) (rR (by omega) (by omega))
    rw [show lt6 5 17 21 1 12 0 = 3007164 by decide] at hl2
    have ht2 := m_takes (H57 v g0) (H59 v g0) hf hl hMv 3007164 (rR (by omega) (by omega))
    refine And.intro (by first | assumption | exact b2i_R _ | exact rR (by omega) (by omega) | exact rR (by simp only [Int.toNat_natCast]; omega) (by simp only [Int.toNat_natCast]; omega)) (And.intro (fun q => ?_) (fun q => ?_))
    · exact absurd rfl q
    · refine hA 1 _ rfl _ _ _ _ _ ?_
      refine And.intro rfl (ab_inv_ev hl2 (by first | decide | omega) (by first | exact Nat.le_refl _ | omega) (by first | exact Nat.le_refl _ | omega) ?_)
      refine Exists.intro _ (And.intro (by first | assumption | exact st_s | exact st_e (by decide) (by assumption) | exact st_e (by omega) (by assumption) | exact st_e (by decide) st_s | exact st_e (by omega) st_s | exact st_e (by decide) (st_e (by decide) (by assumption)) | exact st_e (by omega) (st_e (by omega) (by assumption))) (And.intro rfl (ab_inv_of ht2 (by first | decide | omega) (by omega) (by omega) ?_)))
      intro z υ hpost
      obtain ⟨rfl, w, rfl, hMw, hUw, hat⟩ := hpost
      rw [HU]
      have w57 := H57 w g0
      by_cases hy : wcd f (skB f len 0) (skL f len (skB f len 0) - skB f len 0) = 3007164
      · have e3 : tkT f len (.inr 0) 3007164 = (true, .inr (skL f len (skB f len 0))) := if_pos hy
        have e2 : wordP f len 0 0 = .inr (0, skL f len (skB f len 0)) := by rw [hwc, hy]; rfl
        rw [e3] at hMw
        rw [e3]
        rw [e2] at hCP2
        have k9 := k3 w _ 0 0 none none none (Or.inl rfl) hMw (hUv.tr hUw) (fun _ => rfl) hCP2
        refine And.intro (by first | assumption | exact b2i_R _ | exact rR (by omega) (by omega) | exact rR (by simp only [Int.toNat_natCast]; omega) (by simp only [Int.toNat_natCast]; omega)) (And.intro (fun q => ?_) (fun q => ?_))
        · exact k9
        · exact absurd (show (1 : Int) = 0 from q) (by decide)
      · have e3 : tkT f len (.inr 0) 3007164 = (false, .inr 0) := if_neg hy
        have e2 : wordP f len 0 0 = .inl (1, (skB f len 0 : Nat)) := by
          have e5 : fstC (wcd f (skB f len 0) (skL f len (skB f len 0) - skB f len 0)) (nmc 0) 0 = none := by
            show (if _ = (3007164 : Int) then some 0 else if _ = (9596021 : Int) then some 1 else none) = none
            rw [if_neg hy, if_neg hx]
          rw [hwc, e5]
        obtain ⟨a5, ha5, hat⟩ := hat ⟨0, rfl, by rw [e3]⟩
        cases ha5
        rw [e3] at hMw
        rw [e3]
        rw [e2] at hCP2
        have h6 := hMw.fault
        have hwr := m_wrong w57 h6.1 1 (w 4)
        rw [HU] at hwr
        have hMx := MT.wr hMw 1 (w 4) (by decide) (rR (by omega) (by omega))
        have k9 := k3 (wrT w 1 (w 4)) _ 0 0 none none none (Or.inl rfl) hMx ((hUv.tr hUw).wr _ _) (fun h => absurd h Bool.false_ne_true) (by rw [hCP2, ← hat]; rfl)
        refine And.intro (by first | assumption | exact b2i_R _ | exact rR (by omega) (by omega) | exact rR (by simp only [Int.toNat_natCast]; omega) (by simp only [Int.toNat_natCast]; omega)) (And.intro (fun q => ?_) (fun q => ?_))
        · exact absurd rfl q
        · refine hA 2 _ rfl _ _ _ _ _ ?_
          refine Exists.intro _ (And.intro (by first | assumption | exact st_s | exact st_e (by decide) (by assumption) | exact st_e (by omega) (by assumption) | exact st_e (by decide) st_s | exact st_e (by omega) st_s | exact st_e (by decide) (st_e (by decide) (by assumption)) | exact st_e (by omega) (st_e (by omega) (by assumption))) ?_)
          refine Exists.intro _ (And.intro (by first | assumption | exact st_s | exact st_e (by decide) (by assumption) | exact st_e (by omega) (by assumption) | exact st_e (by decide) st_s | exact st_e (by omega) st_s | exact st_e (by decide) (st_e (by decide) (by assumption)) | exact st_e (by omega) (st_e (by omega) (by assumption))) (And.intro rfl (ab_inv_ev hwr (by first | decide | omega) (by first | exact Nat.le_refl _ | omega) (by first | exact Nat.le_refl _ | omega) ?_)))
          exact k9
end Mcolt
