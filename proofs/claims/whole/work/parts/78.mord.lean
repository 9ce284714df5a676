-- ===== the model's calls that ask: the order =====
/-- what the order's cells may be -/
def orA (k a : Nat) : Prop := a = 313 ∨ a = 316 ∨ a = 67 + k
theorem MK.fr {σ τ : ab_H} {c : Nat} {k : CT} (h : MK σ c k) {A : Nat → Prop} (hf : fr A σ τ) (h1 : ¬ A 60) (h2 : ¬ A (61 + c)) : MK τ c k := by
  obtain ⟨a1, a2, a3, g, a4, a5⟩ := h
  exact ⟨a1, a2, (hf.2 _ h1).trans a3, g, (hf.2 _ h2).trans a4, a5⟩
section Mord
variable {σ : ab_H} {cc rows : Nat} {K : Nat → CT} {va : Nat → Nat → Nat} {R : Nat → V1} {f : Nat → Int} {n : Nat} {pl : Int} {c : C3} {t : Nat → Int} {r : Nat → Nat} {th : Int}
theorem MI.ord (hI : MI σ cc rows K va R f n pl c t r th) {τ : ab_H} {k : Nat} (hf : fr (orA k) σ τ) (h313 : ∃ g : Nat → Nat, τ.2 313 = some (bmc g)) (h316 : ∃ g : Nat → Int, τ.2 316 = some (iar 1500 g)) (hk : k < 4) {W : Nat → Int} (h67 : τ.2 (67 + k) = some (iar 1500 W)) (hW : k < cc → ∀ x, x < rows → W x = va k x) : MI τ cc rows K va R f n pl c t r th := by
  obtain ⟨w, s, co, v, gn, ⟨k1, k2, k3, ⟨k4, k5⟩, ⟨g, k6⟩, ⟨k7, k8⟩, k9, ⟨l1, l2⟩, l3, l4⟩, f1, f2, f3, f4⟩ := hI
  have e : ∀ a, a ≠ 313 → a ≠ 316 → a ≠ 67 + k → τ.2 a = σ.2 a := fun a h1 h2 h3 => hf.2 a (by unfold orA; omega)
  refine ⟨w, fun a h1 h2 h3 => ?_, co, ab_up v k W, gn, ⟨(e _ (by omega) (by omega) (by omega)).trans k1, (e _ (by omega) (by omega) (by omega)).trans k2, (e _ (by omega) (by omega) (by omega)).trans k3, ⟨(e _ (by omega) (by omega) (by omega)).trans k4, fun c hc => (e _ (by omega) (by omega) (by omega)).trans (k5 c hc)⟩, ⟨g, (e _ (by omega) (by omega) (by omega)).trans k6⟩, ⟨(e _ (by omega) (by omega) (by omega)).trans k7, fun c hc => ?_⟩, (e _ (by omega) (by omega) (by omega)).trans k9, ⟨(e _ (by omega) (by omega) (by omega)).trans l1, fun c hc => (e _ (by omega) (by omega) (by omega)).trans (l2 c hc)⟩, (e _ (by omega) (by omega) (by omega)).trans l3, (e _ (by omega) (by omega) (by omega)).trans l4⟩, f1, f2, fun c hc x hx => ?_, f4⟩
  · by_cases h4 : a = 313
    · subst h4
      obtain ⟨g, h⟩ := h313
      exact ⟨_, h, shp_bm (by omega) (by omega)⟩
    · by_cases h5 : a = 316
      · subst h5
        obtain ⟨g, h⟩ := h316
        exact ⟨_, h, shp_as⟩
      · obtain ⟨x, x1, x2⟩ := s a h1 h2 h3
        exact ⟨x, (e a h4 h5 (by omega)).trans x1, x2⟩
  · by_cases h4 : c = k
    · subst h4; rw [ab_up_s]; exact h67
    · rw [ab_up_n h4]; exact (e _ (by omega) (by omega) (by omega)).trans (k8 c hc)
  · by_cases h4 : c = k
    · subst h4; rw [ab_up_s]; exact hW hc x hx
    · rw [ab_up_n h4]; exact f3 c hc x hx
set_option maxRecDepth 100000 in
set_option maxHeartbeats 1000000 in
theorem m_swaps (h57 : σ.2 57 = some (m10 t)) {k : Nat} (hk : k < 4) (h66 : σ.2 66 = some (rfs 67 4)) {W A : Nat → Int} (h67 : σ.2 (67 + k) = some (iar 1500 W)) (h316 : σ.2 316 = some (iar 1500 A)) (i : Nat) (hi : i < 1500) : ab_ev 1 yX10_swaps [rf 57, .inl k, .inl i] σ none (ab_st (ab_st σ (67 + k) (iar 1500 (ab_up W i (A i)))) 316 (iar 1500 (ab_up A i (W i)))) := by
  have q57 : (ab_st σ (67 + k) (iar 1500 (ab_up W i (A i)))).2 57 = some (m10 t) := st_e (by omega) h57
  have q316 : (ab_st σ (67 + k) (iar 1500 (ab_up W i (A i)))).2 316 = some (iar 1500 A) := st_e (by omega) h316
  refine eX10_swaps rfl (fun At hA => ?_)
  refine hA 0 _ rfl _ _ _ _ _ ?_
  refine Exists.intro _ (And.intro (h57) ?_)
  refine Exists.intro _ (Exists.intro _ (And.intro (h66) (And.intro (by omega) ?_)))
  refine Exists.intro _ (Exists.intro _ (And.intro (h67) (And.intro (by omega) ?_)))
  refine Exists.intro _ (And.intro (h57) ?_)
  refine Exists.intro _ (Exists.intro _ (And.intro (h66) (And.intro (by omega) ?_)))
  refine Exists.intro _ (And.intro (h57) ?_)
  refine Exists.intro _ (Exists.intro _ (And.intro (h316) (And.intro (by omega) ?_)))
  refine Exists.intro _ (Exists.intro _ (And.intro (h67) (And.intro (by omega) ?_)))
  refine Exists.intro _ (And.intro (q57) ?_)
  refine Exists.intro _ (Exists.intro _ (And.intro (q316) (And.intro (by omega) ?_)))
  exact ⟨rfl, rfl⟩
set_option maxRecDepth 100000 in
set_option maxHeartbeats 1000000 in
theorem g_ordered (hI : MI σ cc rows K va R f n pl c t r th) (a b : Int) (ha : ab_R a) (hb : ab_R b) : ab_call 10 0 0 yX10_ordered [rf 57, .inl a, .inl b] σ (mdP σ (cc, rows, K, va, R, f, n, pl, c) r (fun i => (i : Int) + 1) (stq (cc, rows, K, va, R, f, n, pl, c) (sp_ordered cc rows K va a b))) := by
  have q57 := hI.h57
  have hr := hI.hr
  have hcc := hI.hc
  have hgl := gu_le hr
  have hI0 := hI.uth 0
  have hf0 : fr mA σ (ab_st σ 57 (m10 (ab_up t 0 0))) := fr_st (by unfold mA; omega)
  generalize ht0 : ab_up t 0 0 = t0 at hI0 hf0
  generalize hs0 : ab_st σ 57 (m10 t0) = σ0 at hI0 hf0
  have p57 := hI0.h57
  have p58 := hI0.h58
  have p0 := hI0.t0
  have p2 := hI0.t2
  have p12 := hI0.t12
  have p13 := hI0.t13
  refine eX10_ordered rfl (fun At hA => ?_)
  have gK1 : ((0 ≤ a ∧ a < cc) ∧ 0 ≤ b ∧ b < cc) → At 4 [some (rf 57), some (.inl a), some (.inl b), none, none, none] [.inl 0, rf 57] σ0 0 0 := fun hP1 => by
    refine hA 4 _ rfl _ _ _ _ _ ?_
    refine Exists.intro _ (And.intro (by first | assumption | exact st_s | exact st_e (by decide) (by assumption) | exact st_e (by omega) (by assumption) | exact st_e (by decide) st_s | exact st_e (by omega) st_s | exact st_e (by decide) (st_e (by decide) (by assumption)) | exact st_e (by omega) (st_e (by omega) (by assumption))) (And.intro rfl (ab_inv_ev (m_bad0 p57 p0 1 0) (by first | decide | omega) (by first | exact Nat.le_refl _ | omega) (by first | exact Nat.le_refl _ | omega) ?_)))
    refine And.intro (by first | assumption | exact b2i_R _ | exact rR (by omega) (by omega) | exact rR (by simp only [Int.toNat_natCast]; omega) (by simp only [Int.toNat_natCast]; omega)) (And.intro (fun q => ?_) (fun q => ?_))
    · obtain ⟨a', rfl⟩ : ∃ m : Nat, a = (m : Int) := ⟨a.toNat, by omega⟩
      obtain ⟨b', rfl⟩ : ∃ m : Nat, b = (m : Int) := ⟨b.toNat, by omega⟩
      have hKa := hI0.k (k := a') (by omega)
      obtain ⟨v66, wb, vb67, hwb, hvb⟩ := hI0.v (k := b') (by omega)
      obtain ⟨-, wa, va67, hwa, hva⟩ := hI0.v (k := a') (by omega)
      obtain ⟨o3, ho3⟩ := hI0.sc.bm (a := 313) (by omega) (by omega)
      obtain ⟨o6, ho6⟩ := hI0.sc.as
      have ha4 : a' < 4 := hKa.1
      have hb4 : b' < 4 := by omega
      have hod : ∀ x, od (va b') (va a') rows x < 200 := fun x => hva _
      -- the exchange back
      have back : ∀ (m r9 : Nat) (A W : Nat → Int) (τ : ab_H) (ans : Nat) (y5 : Option ab_V), r9 + m = rows → fr (orA a') σ0 τ → τ.2 316 = some (iar 1500 A) → τ.2 (67 + a') = some (iar 1500 W) → (∃ g : Nat → Nat, τ.2 313 = some (bmc g)) → (∀ x, x < r9 → W x = va a' x) → (∀ x, r9 ≤ x → x < rows → A x = va a' x) → ans = wordsO rows (K a').1 (K a').2.2.2 (va b') (va a') (K a').2.2.1 → At 19 [some (rf 57), some (.inl (a' : Nat)), some (.inl (b' : Nat)), some (.inl ans), some (.inl r9), y5] [] τ 0 0 := by
        intro m
        induction m with
        | zero =>
          intro r9 A W τ ans y5 h1 hf h316 h67 h313 hW hA9 hans
          have e57 := (hf.2 57 (by unfold orA; omega)).trans p57
          have hfin := hI0.ord hf h313 ⟨A, h316⟩ ha4 h67 (fun _ x hx => hW x (by omega))
          refine hA 19 _ rfl _ _ _ _ _ ?_
          refine Exists.intro _ (And.intro (by first | assumption | exact st_s | exact st_e (by decide) (by assumption) | exact st_e (by omega) (by assumption) | exact st_e (by decide) st_s | exact st_e (by omega) st_s | exact st_e (by decide) (st_e (by decide) (by assumption)) | exact st_e (by omega) (st_e (by omega) (by assumption))) ?_)
          refine And.intro (And.intro (by first | assumption | exact b2i_R _ | exact rR (by omega) (by omega) | exact rR (by simp only [Int.toNat_natCast]; omega) (by simp only [Int.toNat_natCast]; omega)) (by first | assumption | exact b2i_R _ | exact rR (by omega) (by omega) | exact rR (by simp only [Int.toNat_natCast]; omega) (by simp only [Int.toNat_natCast]; omega))) (And.intro (fun q => ?_) (fun q => ?_))
          · refine hA 21 _ rfl _ _ _ _ _ ?_
            exact md_as (by unfold sp_ordered; rw [if_pos hP1] <;> rfl) (by rw [hans]; rfl) (hf0.tr (hf.mono (fun x hx => by unfold orA at hx; unfold mA; omega))) hfin
          · omega
        | succ m ih =>
          intro r9 A W τ ans y5 h1 hf h316 h67 h313 hW hA9 hans
          have e57 := (hf.2 57 (by unfold orA; omega)).trans p57
          have e66 := (hf.2 66 (by unfold orA; omega)).trans v66
          have hsw := m_swaps e57 ha4 e66 h67 h316 r9 (by omega)
          obtain ⟨g3, h313⟩ := h313
          have ihr := ih (r9 + 1) (ab_up A r9 (W r9)) (ab_up W r9 (A r9)) _ ans y5 (by omega) ((hf.st (c := iar 1500 (ab_up W r9 (A r9))) (a := 67 + a') (by unfold orA; omega)).st (c := iar 1500 (ab_up A r9 (W r9))) (a := 316) (by unfold orA; omega)) st_s (st_e (by omega) st_s) ⟨g3, st_e (by omega) (st_e (by omega) h313)⟩ (fun x hx => by
            by_cases e : x = r9
            · rw [e, ab_up_s]; exact hA9 r9 (by omega) (by omega)
            · rw [ab_up_n e]; exact hW x (by omega)) (fun x h2 h3 => by rw [ab_up_n (by omega)]; exact hA9 x (by omega) h3) hans
          refine hA 19 _ rfl _ _ _ _ _ ?_
          refine Exists.intro _ (And.intro (by first | assumption | exact st_s | exact st_e (by decide) (by assumption) | exact st_e (by omega) (by assumption) | exact st_e (by decide) st_s | exact st_e (by omega) st_s | exact st_e (by decide) (st_e (by decide) (by assumption)) | exact st_e (by omega) (st_e (by omega) (by assumption))) ?_)
          refine And.intro (And.intro (by first | assumption | exact b2i_R _ | exact rR (by omega) (by omega) | exact rR (by simp only [Int.toNat_natCast]; omega) (by simp only [Int.toNat_natCast]; omega)) (by first | assumption | exact b2i_R _ | exact rR (by omega) (by omega) | exact rR (by simp only [Int.toNat_natCast]; omega) (by simp only [Int.toNat_natCast]; omega))) (And.intro (fun q => ?_) (fun q => ?_))
          · omega
          · refine hA 20 _ rfl _ _ _ _ _ ?_
            refine Exists.intro _ (And.intro (by first | assumption | exact st_s | exact st_e (by decide) (by assumption) | exact st_e (by omega) (by assumption) | exact st_e (by decide) st_s | exact st_e (by omega) st_s | exact st_e (by decide) (st_e (by decide) (by assumption)) | exact st_e (by omega) (st_e (by omega) (by assumption))) (And.intro rfl (ab_inv_ev hsw (by first | decide | omega) (by first | exact Nat.le_refl _ | omega) (by first | exact Nat.le_refl _ | omega) ?_)))
            exact ihr
      -- the exchange
      have there : ∀ (m r9 : Nat) (A W : Nat → Int) (τ : ab_H) (y3 y5 : Option ab_V), r9 + m = rows → fr (orA a') σ0 τ → τ.2 316 = some (iar 1500 A) → τ.2 (67 + a') = some (iar 1500 W) → τ.2 313 = some (bmc o3) → (∀ x, x < r9 → W x = (od (va b') (va a') rows x : Nat)) → (∀ x, r9 ≤ x → x < rows → A x = (od (va b') (va a') rows x : Nat)) → (∀ x, x < r9 → A x = va a' x) → (∀ x, r9 ≤ x → x < rows → W x = va a' x) → At 16 [some (rf 57), some (.inl (a' : Nat)), some (.inl (b' : Nat)), y3, some (.inl r9), y5] [] τ 0 0 := by
        intro m
        induction m with
        | zero =>
          intro r9 A W τ y3 y5 h1 hf h316 h67 h313 hW hA9 hA8 hW8
          have e57 := (hf.2 57 (by unfold orA; omega)).trans p57
          have e66 := (hf.2 66 (by unfold orA; omega)).trans v66
          have eK : MK τ a' (K a') := hKa.fr hf (by unfold orA; omega) (by unfold orA; omega)
          have eV : MV τ a' rows (od (va b') (va a') rows) := ⟨e66, W, h67, fun x hx => hW x (by omega), hod⟩
          refine hA 16 _ rfl _ _ _ _ _ ?_
          refine Exists.intro _ (And.intro (by first | assumption | exact st_s | exact st_e (by decide) (by assumption) | exact st_e (by omega) (by assumption) | exact st_e (by decide) st_s | exact st_e (by omega) st_s | exact st_e (by decide) (st_e (by decide) (by assumption)) | exact st_e (by omega) (st_e (by omega) (by assumption))) ?_)
          refine And.intro (And.intro (by first | assumption | exact b2i_R _ | exact rR (by omega) (by omega) | exact rR (by simp only [Int.toNat_natCast]; omega) (by simp only [Int.toNat_natCast]; omega)) (by first | assumption | exact b2i_R _ | exact rR (by omega) (by omega) | exact rR (by simp only [Int.toNat_natCast]; omega) (by simp only [Int.toNat_natCast]; omega))) (And.intro (fun q => ?_) (fun q => ?_))
          · refine hA 18 _ rfl _ _ _ _ _ ?_
            refine Exists.intro _ (And.intro (by first | assumption | exact st_s | exact st_e (by decide) (by assumption) | exact st_e (by omega) (by assumption) | exact st_e (by decide) st_s | exact st_e (by omega) st_s | exact st_e (by decide) (st_e (by decide) (by assumption)) | exact st_e (by omega) (st_e (by omega) (by assumption))) (And.intro rfl (ab_inv_of (m_wordsOfColumn e57 p13 hr eK eV h313) (by first | decide | omega) (by omega) (by omega) ?_)))
            intro z υ hpost
            obtain ⟨rfl, g9, rfl⟩ := hpost
            have hb := back rows 0 A W (ab_st τ 313 (bmc g9)) _ y5 (by omega) (hf.st (by unfold orA; omega)) (st_e (by omega) h316) (st_e (by omega) h67) ⟨g9, st_s⟩ (fun x hx => by omega) (fun x _ hx => hA8 x (by omega)) rfl
            
            exact hb
          · omega
        | succ m ih =>
          intro r9 A W τ y3 y5 h1 hf h316 h67 h313 hW hA9 hA8 hW8
          have e57 := (hf.2 57 (by unfold orA; omega)).trans p57
          have e66 := (hf.2 66 (by unfold orA; omega)).trans v66
          have hsw := m_swaps e57 ha4 e66 h67 h316 r9 (by omega)
          have ihr := ih (r9 + 1) (ab_up A r9 (W r9)) (ab_up W r9 (A r9)) _ y3 y5 (by omega) ((hf.st (c := iar 1500 (ab_up W r9 (A r9))) (a := 67 + a') (by unfold orA; omega)).st (c := iar 1500 (ab_up A r9 (W r9))) (a := 316) (by unfold orA; omega)) st_s (st_e (by omega) st_s) (st_e (by omega) (st_e (by omega) h313)) (fun x hx => by
            by_cases e : x = r9
            · rw [e, ab_up_s]; exact hA9 r9 (by omega) (by omega)
            · rw [ab_up_n e]; exact hW x (by omega)) (fun x h2 h3 => by rw [ab_up_n (by omega)]; exact hA9 x (by omega) h3) (fun x hx => by
            by_cases e : x = r9
            · rw [e, ab_up_s]; exact hW8 r9 (by omega) (by omega)
            · rw [ab_up_n e]; exact hA8 x (by omega)) (fun x h2 h3 => by rw [ab_up_n (by omega)]; exact hW8 x (by omega) h3)
          refine hA 16 _ rfl _ _ _ _ _ ?_
          refine Exists.intro _ (And.intro (by first | assumption | exact st_s | exact st_e (by decide) (by assumption) | exact st_e (by omega) (by assumption) | exact st_e (by decide) st_s | exact st_e (by omega) st_s | exact st_e (by decide) (st_e (by decide) (by assumption)) | exact st_e (by omega) (st_e (by omega) (by assumption))) ?_)
          refine And.intro (And.intro (by first | assumption | exact b2i_R _ | exact rR (by omega) (by omega) | exact rR (by simp only [Int.toNat_natCast]; omega) (by simp only [Int.toNat_natCast]; omega)) (by first | assumption | exact b2i_R _ | exact rR (by omega) (by omega) | exact rR (by simp only [Int.toNat_natCast]; omega) (by simp only [Int.toNat_natCast]; omega))) (And.intro (fun q => ?_) (fun q => ?_))
          · omega
          · refine hA 17 _ rfl _ _ _ _ _ ?_
            refine Exists.intro _ (And.intro (by first | assumption | exact st_s | exact st_e (by decide) (by assumption) | exact st_e (by omega) (by assumption) | exact st_e (by decide) st_s | exact st_e (by omega) st_s | exact st_e (by decide) (st_e (by decide) (by assumption)) | exact st_e (by omega) (st_e (by omega) (by assumption))) (And.intro rfl (ab_inv_ev hsw (by first | decide | omega) (by first | exact Nat.le_refl _ | omega) (by first | exact Nat.le_refl _ | omega) ?_)))
            exact ihr
      -- all values gone over
      have all : ∀ (A : Nat → Int) (y3 y4 y5 : Option ab_V), (∀ s, s < rows → A (pos (va b') rows s) = va a' s) → At 15 [some (rf 57), some (.inl (a' : Nat)), some (.inl (b' : Nat)), y3, y4, y5] [] (ab_st σ0 316 (iar 1500 A)) 0 0 := fun A y3 y4 y5 hA9 => by
        have hA8 : ∀ x, 0 ≤ x → x < rows → A x = (od (va b') (va a') rows x : Nat) := fun x _ hx => by
          have h1 := od_of (w := va b') (u := va a') (ar := fun q => (A q).toNat) (N := 200) (rows := rows) hvb (fun s hs => by rw [hA9 s hs]; exact Int.toNat_natCast _) hx
          obtain ⟨s, hs, hp⟩ := pos_on (w := va b') (N := 200) (rows := rows) hvb hx
          have h2 := hA9 s hs
          rw [hp] at h2
          rw [h2] at h1 ⊢
          rw [← h1, Int.toNat_natCast]
        have hth := there rows 0 A wa (ab_st σ0 316 (iar 1500 A)) y3 y5 (by omega) (fr_st (by unfold orA; omega)) st_s (st_e (by omega) va67) (st_e (by omega) ho3) (fun x hx => by omega) hA8 (fun x hx => by omega) (fun x _ hx => hwa x hx)
        refine hA 15 _ rfl _ _ _ _ _ ?_
        exact hth
      have loop : ∀ (mv v9 : Nat) (A : Nat → Int) (y5 : Option ab_V), v9 + mv = 200 → (∀ s, s < rows → va b' s < v9 → A (pos (va b') rows s) = va a' s) → At 7 [some (rf 57), some (.inl (a' : Nat)), some (.inl (b' : Nat)), some (.inl (pre (va b') rows v9 : Nat)), some (.inl v9), y5] [] (ab_st σ0 316 (iar 1500 A)) 0 0 := by
        intro mv
        induction mv with
        | zero =>
          intro v9 A y5 hv hA9
          have hal := all A (some (.inl (pre (va b') rows v9 : Nat))) (some (.inl v9)) y5 (fun s hs => hA9 s hs (by have := hvb s; omega))
          refine hA 7 _ rfl _ _ _ _ _ ?_
          refine And.intro (And.intro (by first | assumption | exact b2i_R _ | exact rR (by omega) (by omega) | exact rR (by simp only [Int.toNat_natCast]; omega) (by simp only [Int.toNat_natCast]; omega)) (by first | assumption | exact b2i_R _ | exact rR (by omega) (by omega) | exact rR (by simp only [Int.toNat_natCast]; omega) (by simp only [Int.toNat_natCast]; omega))) (And.intro (fun q => ?_) (fun q => ?_))
          · exact hal
          · omega
        | succ mv ihv =>
          intro v9 A y5 hv hA9
          have inner : ∀ (m r9 : Nat) (A : Nat → Int), r9 + m = rows → (∀ s, s < rows → va b' s < v9 ∨ (va b' s = v9 ∧ s < r9) → A (pos (va b') rows s) = va a' s) → At 9 [some (rf 57), some (.inl (a' : Nat)), some (.inl (b' : Nat)), some (.inl (pre (va b') rows v9 + cnt (fun s => va b' s == v9) r9 : Nat)), some (.inl v9), some (.inl r9)] [] (ab_st σ0 316 (iar 1500 A)) 0 0 := by
            intro m
            induction m with
            | zero =>
              intro r9 A h1 hA9
              have hr9 : r9 = rows := by omega
              have q57 : (ab_st σ0 316 (iar 1500 A)).2 57 = some (m10 t0) := st_e (by omega) p57
              have ihv9 := ihv (v9 + 1) A (some (.inl r9)) (by omega) (fun s hs hlt => hA9 s hs (by omega))
              rw [show pre (va b') rows (v9 + 1) = pre (va b') rows v9 + cnt (fun s => va b' s == v9) rows from rfl, ← hr9] at ihv9
              rw [← hr9]
              refine hA 9 _ rfl _ _ _ _ _ ?_
              refine Exists.intro _ (And.intro (by first | assumption | exact st_s | exact st_e (by decide) (by assumption) | exact st_e (by omega) (by assumption) | exact st_e (by decide) st_s | exact st_e (by omega) st_s | exact st_e (by decide) (st_e (by decide) (by assumption)) | exact st_e (by omega) (st_e (by omega) (by assumption))) ?_)
              refine And.intro (And.intro (by first | assumption | exact b2i_R _ | exact rR (by omega) (by omega) | exact rR (by simp only [Int.toNat_natCast]; omega) (by simp only [Int.toNat_natCast]; omega)) (by first | assumption | exact b2i_R _ | exact rR (by omega) (by omega) | exact rR (by simp only [Int.toNat_natCast]; omega) (by simp only [Int.toNat_natCast]; omega))) (And.intro (fun q => ?_) (fun q => ?_))
              · refine hA 14 _ rfl _ _ _ _ _ ?_
                exact ihv9
              · omega
            | succ m ih =>
              intro r9 A h1 hA9
              have q57 : (ab_st σ0 316 (iar 1500 A)).2 57 = some (m10 t0) := st_e (by omega) p57
              have q66 : (ab_st σ0 316 (iar 1500 A)).2 66 = some (rfs 67 4) := st_e (by omega) v66
              have qb : (ab_st σ0 316 (iar 1500 A)).2 (67 + b') = some (iar 1500 wb) := st_e (by omega) vb67
              have qa : (ab_st σ0 316 (iar 1500 A)).2 (67 + a') = some (iar 1500 wa) := st_e (by omega) va67
              have hwr := hwb r9 (by omega)
              have hvr := hvb r9
              have har := hwa r9 (by omega)
              have hwR : ab_R (wb ((r9 : Nat) : Int).toNat) := by
                show ab_R (wb r9)
                exact rR (by omega) (by omega)
              have hv9R : v9 < 200 := by omega
              refine hA 9 _ rfl _ _ _ _ _ ?_
              refine Exists.intro _ (And.intro (by first | assumption | exact st_s | exact st_e (by decide) (by assumption) | exact st_e (by omega) (by assumption) | exact st_e (by decide) st_s | exact st_e (by omega) st_s | exact st_e (by decide) (st_e (by decide) (by assumption)) | exact st_e (by omega) (st_e (by omega) (by assumption))) ?_)
              refine And.intro (And.intro (by first | assumption | exact b2i_R _ | exact rR (by omega) (by omega) | exact rR (by simp only [Int.toNat_natCast]; omega) (by simp only [Int.toNat_natCast]; omega)) (by first | assumption | exact b2i_R _ | exact rR (by omega) (by omega) | exact rR (by simp only [Int.toNat_natCast]; omega) (by simp only [Int.toNat_natCast]; omega))) (And.intro (fun q => ?_) (fun q => ?_))
              · omega
              · refine hA 10 _ rfl _ _ _ _ _ ?_
                refine Exists.intro _ (And.intro (q57) ?_)
                refine Exists.intro _ (Exists.intro _ (And.intro (q66) (And.intro (by omega) ?_)))
                refine Exists.intro _ (Exists.intro _ (And.intro (qb) (And.intro (by omega) ?_)))
                refine And.intro (And.intro hwR (rR (by omega) (by omega))) (And.intro (fun q => ?_) (fun q => ?_))
                · have q : wb r9 = ((v9 : Nat) : Int) := q
                  have hrv : va b' r9 = v9 := by omega
                  have hps : pos (va b') rows r9 = pre (va b') rows v9 + cnt (fun s => va b' s == v9) r9 := by
                    unfold pos
                    rw [hrv]
                  have hpb := pos_bd (w := va b') (N := 200) (rows := rows) hvb (show r9 < rows by omega)
                  rw [hps] at hpb
                  have ihr := ih (r9 + 1) (ab_up A (pre (va b') rows v9 + cnt (fun s => va b' s == v9) r9) (wa r9)) (by omega) (fun s hs hq => by
                    by_cases e : s = r9
                    · rw [e, hps, ab_up_s]; exact har
                    · have hne : pos (va b') rows s ≠ pre (va b') rows v9 + cnt (fun s => va b' s == v9) r9 := fun h => e (pos_in (rows := rows) hs (by omega) (h.trans hps.symm))
                      rw [ab_up_n hne]
                      exact hA9 s hs (by omega))
                  rw [cnt_s1 (p := fun s => va b' s == v9) (by rw [hrv]; exact beq_self_eq_true _), ← Nat.add_assoc, Int.natCast_add, ← st_st (x := iar 1500 A)] at ihr
                  refine hA 12 _ rfl _ _ _ _ _ ?_
                  refine Exists.intro _ (And.intro (q57) ?_)
                  refine Exists.intro _ (And.intro (q57) ?_)
                  refine Exists.intro _ (Exists.intro _ (And.intro (q66) (And.intro (by omega) ?_)))
                  refine Exists.intro _ (Exists.intro _ (And.intro (qa) (And.intro (by omega) ?_)))
                  refine Exists.intro _ (Exists.intro _ (And.intro (st_s) (And.intro (by omega) ?_)))
                  rw [st_st]
                  rw [st_st] at ihr
                  refine hA 13 _ rfl _ _ _ _ _ ?_
                  exact ihr
                · have q : wb r9 ≠ ((v9 : Nat) : Int) := q
                  have hrv : va b' r9 ≠ v9 := by omega
                  have ihr := ih (r9 + 1) A (by omega) (fun s hs hq => hA9 s hs (by
                    by_cases e : s = r9
                    · rw [e] at hq ⊢; omega
                    · omega))
                  rw [cnt_s0 (p := fun s => va b' s == v9) (beq_eq_false_iff_ne.mpr hrv)] at ihr
                  refine hA 11 _ rfl _ _ _ _ _ ?_
                  refine hA 13 _ rfl _ _ _ _ _ ?_
                  exact ihr
          have i0 := inner rows 0 A (by omega) (fun s hs hq => hA9 s hs (by omega))
          refine hA 7 _ rfl _ _ _ _ _ ?_
          refine And.intro (And.intro (by first | assumption | exact b2i_R _ | exact rR (by omega) (by omega) | exact rR (by simp only [Int.toNat_natCast]; omega) (by simp only [Int.toNat_natCast]; omega)) (by first | assumption | exact b2i_R _ | exact rR (by omega) (by omega) | exact rR (by simp only [Int.toNat_natCast]; omega) (by simp only [Int.toNat_natCast]; omega))) (And.intro (fun q => ?_) (fun q => ?_))
          · omega
          · refine hA 8 _ rfl _ _ _ _ _ ?_
            exact i0
      have l0 := loop 200 0 o6 none (by omega) (fun s hs h => by omega)
      rw [st_id ho6] at l0
      refine hA 6 _ rfl _ _ _ _ _ ?_
      exact l0
    · exact absurd rfl q
  have gF1 : ¬ ((0 ≤ a ∧ a < cc) ∧ 0 ≤ b ∧ b < cc) → At 4 [some (rf 57), some (.inl a), some (.inl b), none, none, none] [.inl 1, rf 57] σ0 0 0 := fun hP1 => by
    refine hA 4 _ rfl _ _ _ _ _ ?_
    refine Exists.intro _ (And.intro (by first | assumption | exact st_s | exact st_e (by decide) (by assumption) | exact st_e (by omega) (by assumption) | exact st_e (by decide) st_s | exact st_e (by omega) st_s | exact st_e (by decide) (st_e (by decide) (by assumption)) | exact st_e (by omega) (st_e (by omega) (by assumption))) (And.intro rfl (ab_inv_ev (m_bad1 p57 p0 p58 1 0 (by decide) (by decide) (by decide)) (by first | decide | omega) (by first | exact Nat.le_refl _ | omega) (by first | exact Nat.le_refl _ | omega) ?_)))
    refine And.intro (by first | assumption | exact b2i_R _ | exact rR (by omega) (by omega) | exact rR (by simp only [Int.toNat_natCast]; omega) (by simp only [Int.toNat_natCast]; omega)) (And.intro (fun q => ?_) (fun q => ?_))
    · exact absurd q (by decide)
    · refine hA 5 _ rfl _ _ _ _ _ ?_
      exact md_no (by unfold sp_ordered; rw [if_neg hP1] <;> rfl) hf0 hI0 rfl
  have gO1 : ¬ ((0 ≤ a ∧ a < cc) ∧ 0 ≤ b ∧ b < cc) → At 2 [some (rf 57), some (.inl a), some (.inl b), none, none, none] [rf 57] σ0 0 0 := fun h => by
    refine hA 2 _ rfl _ _ _ _ _ ?_
    exact gF1 h
  have gZ1 : ((0 ≤ a ∧ a < cc) ∧ 0 ≤ b ∧ b < cc) → At 3 [some (rf 57), some (.inl a), some (.inl b), none, none, none] [rf 57] σ0 0 0 := fun h => by
    refine hA 3 _ rfl _ _ _ _ _ ?_
    exact gK1 h
  refine hA 0 _ rfl _ _ _ _ _ ?_
  refine Exists.intro _ (And.intro (q57) ?_)
  rw [m10_s0, ht0, hs0]
  refine Exists.intro _ (And.intro (by first | assumption | exact st_s | exact st_e (by decide) (by assumption) | exact st_e (by omega) (by assumption) | exact st_e (by decide) st_s | exact st_e (by omega) st_s | exact st_e (by decide) (st_e (by decide) (by assumption)) | exact st_e (by omega) (st_e (by omega) (by assumption))) (And.intro rfl (ab_inv_ev (m_isColumn p57 p12 hcc a ha) (by first | decide | omega) (by first | exact Nat.le_refl _ | omega) (by first | exact Nat.le_refl _ | omega) ?_)))
  refine And.intro (by first | assumption | exact b2i_R _ | exact rR (by omega) (by omega) | exact rR (by simp only [Int.toNat_natCast]; omega) (by simp only [Int.toNat_natCast]; omega)) (And.intro (fun q => ?_) (fun q => ?_))
  · exact gO1 (by have q1 := of_decide_eq_false (b2i_0 q); omega)
  · have q00 := of_decide_eq_true (b2i_1 q)
    refine hA 1 _ rfl _ _ _ _ _ ?_
    refine Exists.intro _ (And.intro (by first | assumption | exact st_s | exact st_e (by decide) (by assumption) | exact st_e (by omega) (by assumption) | exact st_e (by decide) st_s | exact st_e (by omega) st_s | exact st_e (by decide) (st_e (by decide) (by assumption)) | exact st_e (by omega) (st_e (by omega) (by assumption))) (And.intro rfl (ab_inv_ev (m_isColumn p57 p12 hcc b hb) (by first | decide | omega) (by first | exact Nat.le_refl _ | omega) (by first | exact Nat.le_refl _ | omega) ?_)))
    refine And.intro (by first | assumption | exact b2i_R _ | exact rR (by omega) (by omega) | exact rR (by simp only [Int.toNat_natCast]; omega) (by simp only [Int.toNat_natCast]; omega)) (And.intro (fun q => ?_) (fun q => ?_))
    · have q01 := of_decide_eq_true (b2i_1 q)
      exact gZ1 (by omega)
    · exact gO1 (by have q1 := of_decide_eq_false (b2i_0 q); omega)
end Mord
