-- ===== the table: rows in order, rows that come, rows that go =====
/-- how many have lesser values -/
def pre (w : Nat → Nat) (rows v : Nat) : Nat := sm (fun u => cnt (fun r => w r == u) rows) v
/-- where a row stands in order -/
def pos (w : Nat → Nat) (rows r : Nat) : Nat := pre w rows (w r) + cnt (fun s => w s == w r) r
/-- the values in that order -/
def od (w u : Nat → Nat) (rows q : Nat) : Nat := u (rn (fun r => !(pos w rows r == q)) 0 rows)
theorem sm_mono {f : Nat → Nat} {i j : Nat} (h : i ≤ j) : sm f i ≤ sm f j := by
  induction j with
  | zero => rw [show i = 0 by omega]; exact Nat.le_refl _
  | succ j ih =>
    by_cases e : i = j + 1
    · rw [e]; exact Nat.le_refl _
    · exact Nat.le_trans (ih (by omega)) (Nat.le_add_right _ _)
theorem cnt_lt {p : Nat → Bool} {i j : Nat} (h : i < j) (hp : p i = true) : cnt p i < cnt p j := by
  have h1 := cnt_s1 hp
  have h2 := cnt_mono p (show i + 1 ≤ j from h)
  omega
theorem pos_lt {w : Nat → Nat} {rows r : Nat} (hr : r < rows) : pos w rows r < pre w rows (w r + 1) := by
  have := cnt_lt (p := fun s => w s == w r) hr (beq_self_eq_true _)
  show _ < pre w rows (w r) + cnt (fun s => w s == w r) rows
  unfold pos
  omega
theorem pos_in {w : Nat → Nat} {rows r s : Nat} (hr : r < rows) (hs : s < rows) (h : pos w rows r = pos w rows s) : r = s := by
  have key : ∀ r s, r < rows → s < rows → w r < w s → pos w rows r < pos w rows s := fun r s hr hs hw => by
    have h1 := pos_lt (w := w) hr
    have h2 : pre w rows (w r + 1) ≤ pre w rows (w s) := sm_mono hw
    have h3 : pre w rows (w s) ≤ pos w rows s := Nat.le_add_right _ _
    omega
  rcases Nat.lt_trichotomy (w r) (w s) with h1 | h1 | h1
  · have := key r s hr hs h1; omega
  · unfold pos at h
    rw [h1] at h
    rcases Nat.lt_trichotomy r s with h2 | h2 | h2
    · have := cnt_lt (p := fun x => w x == w s) h2 (by show (w r == w s) = true; rw [h1, beq_self_eq_true]); omega
    · exact h2
    · have := cnt_lt (p := fun x => w x == w s) h2 (beq_self_eq_true _); omega
  · have := key s r hs hr h1; omega
theorem sm_one (N x : Nat) (h : x < N) : sm (fun u => (x == u).toNat) N = 1 := by
  have key : ∀ N, sm (fun u => (x == u).toNat) N = if x < N then 1 else 0 := by
    intro N
    induction N with
    | zero => rfl
    | succ N ih =>
      show sm _ N + (x == N).toNat = _
      rw [ih]
      by_cases e : x = N
      · subst e; rw [if_neg (by omega), if_pos (by omega), beq_self_eq_true]; rfl
      · rw [beq_eq_false_iff_ne.mpr e]
        by_cases h : x < N
        · rw [if_pos h, if_pos (by omega)]; rfl
        · rw [if_neg h, if_neg (by omega)]; rfl
  rw [key, if_pos h]
theorem sm_add (f g : Nat → Nat) : ∀ N, sm (fun u => f u + g u) N = sm f N + sm g N := by
  intro N
  induction N with
  | zero => rfl
  | succ N ih => show sm _ N + (f N + g N) = sm f N + f N + (sm g N + g N); rw [ih]; omega
/-- every row has its place -/
theorem pre_all {w : Nat → Nat} {N : Nat} (h : ∀ r, w r < N) : ∀ rows, pre w rows N = rows := by
  intro rows
  induction rows with
  | zero =>
    unfold pre
    have : ∀ N, sm (fun u => cnt (fun r => w r == u) 0) N = 0 := by
      intro N
      induction N with
      | zero => rfl
      | succ N ih => show sm _ N + 0 = 0; rw [ih]
    exact this N
  | succ rows ih =>
    have e : pre w (rows + 1) N = sm (fun u => cnt (fun r => w r == u) rows + (w rows == u).toNat) N := rfl
    rw [e, sm_add, sm_one N _ (h rows)]
    show pre w rows N + 1 = _
    rw [ih]
theorem pos_bd {w : Nat → Nat} {N rows r : Nat} (h : ∀ r, w r < N) (hr : r < rows) : pos w rows r < rows := by
  have h1 := pos_lt (w := w) hr
  have h2 : pre w rows (w r + 1) ≤ pre w rows N := sm_mono (h r)
  rw [pre_all h] at h2
  omega
theorem cnt_nth {p : Nat → Bool} : ∀ n k, k < cnt p n → ∃ r, r < n ∧ p r = true ∧ cnt p r = k := by
  intro n
  induction n with
  | zero => intro k h; exact absurd h (Nat.not_lt_zero _)
  | succ n ih =>
    intro k h
    by_cases e : k < cnt p n
    · obtain ⟨r, h1, h2, h3⟩ := ih k e
      exact ⟨r, by omega, h2, h3⟩
    · by_cases hp : p n = true
      · rw [cnt_s1 hp] at h
        exact ⟨n, by omega, hp, by omega⟩
      · rw [cnt_s0 (by simpa using hp)] at h
        omega
theorem sm_nth {f : Nat → Nat} : ∀ N q, q < sm f N → ∃ v, v < N ∧ sm f v ≤ q ∧ q < sm f v + f v := by
  intro N
  induction N with
  | zero => intro q h; exact absurd h (Nat.not_lt_zero _)
  | succ N ih =>
    intro q h
    by_cases e : q < sm f N
    · obtain ⟨v, h1, h2, h3⟩ := ih q e
      exact ⟨v, by omega, h2, h3⟩
    · exact ⟨N, by omega, by omega, h⟩
theorem pos_on {w : Nat → Nat} {N rows q : Nat} (h : ∀ r, w r < N) (hq : q < rows) : ∃ r, r < rows ∧ pos w rows r = q := by
  rw [← pre_all h rows] at hq
  obtain ⟨v, h1, h2, h3⟩ := sm_nth N q hq
  have h2 : pre w rows v ≤ q := h2
  have h3 : q < pre w rows v + cnt (fun r => w r == v) rows := h3
  obtain ⟨r, k1, k2, k3⟩ := cnt_nth (p := fun r => w r == v) rows (q - pre w rows v) (by omega)
  have k2 := beq_iff_eq.mp k2
  refine ⟨r, k1, ?_⟩
  unfold pos
  rw [k2, k3]
  omega
/-- what has the values at their places has them in order -/
theorem od_of {w u ar : Nat → Nat} {N rows : Nat} (h : ∀ r, w r < N) (ha : ∀ r, r < rows → ar (pos w rows r) = u r) {q : Nat} (hq : q < rows) : ar q = od w u rows q := by
  obtain ⟨s1, s2, s3, s4⟩ := rn_sp (fun r => !(pos w rows r == q)) rows 0
  obtain ⟨r, k1, k2⟩ := pos_on h hq
  unfold od
  by_cases e : rn (fun r => !(pos w rows r == q)) 0 rows < rows
  · have := s4 (by omega)
    have h5 : pos w rows (rn (fun r => !(pos w rows r == q)) 0 rows) = q := by
      rw [Bool.not_eq_false'] at this
      exact beq_iff_eq.mp this
    rw [← ha _ e, h5]
  · have := s3 r (by omega) (by omega)
    rw [Bool.not_eq_true', beq_eq_false_iff_ne] at this
    exact absurd k2 this
theorem cnt_all {p : Nat → Bool} : ∀ n, (∀ r, r < n → p r = true) → cnt p n = n := by
  intro n
  induction n with
  | zero => intro _; rfl
  | succ n ih => intro h; rw [cnt_s1 (h n (by omega)), ih (fun r hr => h r (by omega))]
theorem bit_rg (rows r : Nat) : bit (fun i => rg i rows) r = decide (r < rows) := by
  unfold bit
  rw [rg_bit, Bool.eq_iff_iff, decide_eq_true_iff, decide_eq_true_iff]
  omega
theorem tly_all (w : Nat → Nat) (rows : Nat) : tly (fun i => rg i rows) w rows = fun v => cnt (fun r => w r == v) rows := by
  funext v
  refine cnt_ext rows (fun r hr => ?_)
  rw [bit_rg, decide_eq_true hr, Bool.true_and]
/-- where arrange writes -/
def arA (a : Nat) : Prop := a = 7 ∨ a = 8 ∨ a = 9
section Table2
variable {σ : ab_H} {cc rows : Nat}
set_option maxRecDepth 100000 in
set_option maxHeartbeats 1000000 in
theorem c_arrange (h3 : σ.2 3 = some (tbc cc rows)) (hr : rows ≤ 1500) {t ar e0 : Nat → Nat} (h8 : σ.2 8 = some (ints 200 t)) (h9 : σ.2 9 = some (ints 1500 ar)) (h6 : IsB σ 6 e0) {h o : Nat} {ρ ρ' : Bool} {card parts card' parts' : Nat} {b b' u w : Nat → Nat} {G G' : Nat → Nat → Nat} (hC : IsC σ h ρ card parts b u G) (hO : IsC σ o ρ' card' parts' b' w G') (hh : 9 < h) (ho : 9 < o) (hw : ∀ r, w r < 200) (hu : ∀ r, u r < 1000) (har : ∀ r, ar r < 1000) :
    ab_call 3 0 0 yX6_arrange [rf 3, rf h, rf o] σ (fun r σ' => r = .inl none ∧ fr arA σ σ' ∧ ∃ e1 t' ar' : Nat → Nat, IsB σ' 6 e1 ∧ σ'.2 8 = some (ints 200 t') ∧ σ'.2 9 = some (ints 1500 ar') ∧ (∀ r, ar' r < 1000) ∧ (∀ q, q < rows → ar' q = od w u rows q)) := by
  have hC0 := hC.1
  have hO0 := hO.1
  have hC4 := hC.2.2.2.2.1
  have hO4 := hO.2.2.2.2.1
  have h61 := h6.1
  have hpl : ∀ v, v ≤ 200 → pre w rows v ≤ rows := fun v hv => by
    have : pre w rows v ≤ pre w rows 200 := sm_mono hv
    rw [pre_all hw] at this
    exact this
  have n3 : ¬ arA 3 := by unfold arA; omega
  have nh : ∀ k, ¬ arA (h + k) := fun k => by unfold arA; omega
  have no : ∀ k, ¬ arA (o + k) := fun k => by unfold arA; omega
  refine eX6_arrange rfl (fun At hA => ?_)
  have loop2 : ∀ (m i : Nat) (τ : ab_H) (ar1 t1 : Nat → Nat) (y5 y3 : Option ab_V), i + m = rows → fr arA σ τ → IsB τ 6 (fun i => rg i rows) → τ.2 8 = some (ints 200 t1) → (∀ j, j < 200 → t1 j = pre w rows j + cnt (fun r => w r == j) i) → τ.2 9 = some (ints 1500 ar1) → (∀ r, ar1 r < 1000) → (∀ r, r < i → ar1 (pos w rows r) = u r) → At 4 [some (rf 3), some (rf h), some (rf o), y3, some (.inl i), y5] [] τ 0 0 := by
    intro m
    induction m with
    | zero =>
      intro i τ ar1 t1 y5 y3 hi hf q6 q8 ht q9 hb hp
      have hi : i = rows := by omega
      subst hi
      have q3 := (hf.2 3 n3).trans h3
      refine hA 4 _ rfl _ _ _ _ _ ?_
      refine Exists.intro _ (And.intro (by first | assumption | exact st_s | exact st_e (by decide) (by assumption) | exact st_e (by omega) (by assumption) | exact st_e (by decide) st_s | exact st_e (by omega) st_s | exact st_e (by decide) (st_e (by decide) (by assumption)) | exact st_e (by omega) (st_e (by omega) (by assumption))) ?_)
      refine And.intro (And.intro (by first | assumption | exact b2i_R _ | exact rR (by omega) (by omega) | exact rR (by simp only [Int.toNat_natCast]; omega) (by simp only [Int.toNat_natCast]; omega)) (by first | assumption | exact b2i_R _ | exact rR (by omega) (by omega) | exact rR (by simp only [Int.toNat_natCast]; omega) (by simp only [Int.toNat_natCast]; omega))) (And.intro (fun q => ?_) (fun q => ?_))
      · refine hA 6 _ rfl _ _ _ _ _ ?_
        exact ⟨rfl, hf, _, _, ar1, q6, q8, q9, hb, fun q hq => od_of hw hp hq⟩
      · omega
    | succ m ih =>
      intro i τ ar1 t1 y5 y3 hi hf q6 q8 ht q9 hb hp
      have hwi := hw i
      have hpi := pos_bd hw (show i < rows by omega)
      have hpi2 : pre w rows (w i) + cnt (fun r => w r == w i) i = pos w rows i := rfl
      have q3 := (hf.2 3 n3).trans h3
      have qo := (hf.2 o (no 0)).trans hO0
      have qh := (hf.2 h (nh 0)).trans hC0
      have qo4 := (hf.2 (o + 4) (no 4)).trans hO4
      have qh4 := (hf.2 (h + 4) (nh 4)).trans hC4
      refine hA 4 _ rfl _ _ _ _ _ ?_
      refine Exists.intro _ (And.intro (by first | assumption | exact st_s | exact st_e (by decide) (by assumption) | exact st_e (by omega) (by assumption) | exact st_e (by decide) st_s | exact st_e (by omega) st_s | exact st_e (by decide) (st_e (by decide) (by assumption)) | exact st_e (by omega) (st_e (by omega) (by assumption))) ?_)
      refine And.intro (And.intro (by first | assumption | exact b2i_R _ | exact rR (by omega) (by omega) | exact rR (by simp only [Int.toNat_natCast]; omega) (by simp only [Int.toNat_natCast]; omega)) (by first | assumption | exact b2i_R _ | exact rR (by omega) (by omega) | exact rR (by simp only [Int.toNat_natCast]; omega) (by simp only [Int.toNat_natCast]; omega))) (And.intro (fun q => ?_) (fun q => ?_))
      · omega
      · have htw : t1 (w i) = pos w rows i := ht _ hwi
        have hrange : (0 : Int) ≤ ((t1 (w i) : Nat) : Int) ∧ ((t1 (w i) : Nat) : Int) < ((1500 : Nat) : Int) ∧ ((1500 : Nat) : Int) < 2147483648 := by omega
        refine hA 5 _ rfl _ _ _ _ _ ?_
        refine Exists.intro _ (And.intro (qo) ?_)
        refine Exists.intro _ (Exists.intro _ (And.intro (qo4) (And.intro (by omega) ?_)))
        refine Exists.intro _ (And.intro (q3) ?_)
        refine Exists.intro _ (And.intro (q3) ?_)
        refine Exists.intro _ (Exists.intro _ (And.intro (q8) (And.intro (by (simp only [Int.toNat_natCast]; omega)) ?_)))
        refine Exists.intro _ (And.intro (qh) ?_)
        refine Exists.intro _ (Exists.intro _ (And.intro (qh4) (And.intro (by omega) ?_)))
        refine Exists.intro _ (Exists.intro _ (And.intro q9 (And.intro hrange ?_)))
        refine Exists.intro _ (And.intro (st_e (by decide) q3) ?_)
        refine Exists.intro _ (Exists.intro _ (And.intro (st_e (by decide) q8) (And.intro (by (simp only [Int.toNat_natCast]; omega)) ?_)))
        refine Exists.intro _ (Exists.intro _ (And.intro (st_e (by decide) q8) (And.intro (by (simp only [Int.toNat_natCast]; omega)) ?_)))
        have e3 := ints_up 1500 ar1 (pos w rows i) (u i)
        have e4 := ints_up 200 t1 (w i) (t1 (w i) + 1)
        have := ih (i + 1) (ab_st (ab_st τ 9 (ints 1500 (ab_up ar1 (pos w rows i) (u i)))) 8 (ints 200 (ab_up t1 (w i) (t1 (w i) + 1)))) (ab_up ar1 (pos w rows i) (u i)) (ab_up t1 (w i) (t1 (w i) + 1)) (some (.inl (w i))) y3 (by omega) ((hf.st (Or.inr (Or.inr rfl))).st (Or.inr (Or.inl rfl))) ((q6.ne (by decide) (by decide)).ne (by decide) (by decide)) st_s (fun v hv => by
          by_cases e : v = w i
          · subst e
            rw [ab_up_s, cnt_s1 (p := fun r => w r == w i) (beq_self_eq_true _), ht _ hwi]
            rfl
          · rw [ab_up_n e, ht v hv, cnt_s0 (p := fun r => w r == v) (beq_eq_false_iff_ne.mpr (fun h => e h.symm))]) (st_e (by decide) st_s) (fun r => by
          unfold ab_up
          split
          · exact hu i
          · exact hb r) (fun r hr => by
          by_cases e : r = i
          · rw [e, ab_up_s]
          · rw [ab_up_n (fun h => e (pos_in (by omega) (by omega) h))]
            exact hp r (by omega))
        rw [← e3, ← e4, ← htw] at this
        exact this
  have loop1 : ∀ (m v : Nat) (τ : ab_H) (t1 : Nat → Nat) (y5 : Option ab_V), v + m = 200 → fr arA σ τ → IsB τ 6 (fun i => rg i rows) → τ.2 8 = some (ints 200 t1) → τ.2 9 = some (ints 1500 ar) → (∀ j, j < v → t1 j = pre w rows j) → (∀ j, v ≤ j → j < 200 → t1 j = cnt (fun r => w r == j) rows) → At 1 [some (rf 3), some (rf h), some (rf o), some (.inl (pre w rows v)), some (.inl v), y5] [] τ 0 0 := by
    intro m
    induction m with
    | zero =>
      intro v τ t1 y5 hv hf q6 q8 q9 hlo hhi
      refine hA 1 _ rfl _ _ _ _ _ ?_
      refine And.intro (And.intro (by first | assumption | exact b2i_R _ | exact rR (by omega) (by omega) | exact rR (by simp only [Int.toNat_natCast]; omega) (by simp only [Int.toNat_natCast]; omega)) (by first | assumption | exact b2i_R _ | exact rR (by omega) (by omega) | exact rR (by simp only [Int.toNat_natCast]; omega) (by simp only [Int.toNat_natCast]; omega))) (And.intro (fun q => ?_) (fun q => ?_))
      · refine hA 3 _ rfl _ _ _ _ _ ?_
        exact loop2 rows 0 τ ar t1 _ _ (by omega) hf q6 q8 (fun j hj => by rw [hlo j (by omega)]; rfl) q9 har (fun r hr => by omega)
      · omega
    | succ m ih =>
      intro v τ t1 y5 hv hf q6 q8 q9 hlo hhi
      refine hA 1 _ rfl _ _ _ _ _ ?_
      refine And.intro (And.intro (by first | assumption | exact b2i_R _ | exact rR (by omega) (by omega) | exact rR (by simp only [Int.toNat_natCast]; omega) (by simp only [Int.toNat_natCast]; omega)) (by first | assumption | exact b2i_R _ | exact rR (by omega) (by omega) | exact rR (by simp only [Int.toNat_natCast]; omega) (by simp only [Int.toNat_natCast]; omega))) (And.intro (fun q => ?_) (fun q => ?_))
      · omega
      · have q3 := (hf.2 3 n3).trans h3
        refine hA 2 _ rfl _ _ _ _ _ ?_
        refine Exists.intro _ (And.intro (by first | assumption | exact st_s | exact st_e (by decide) (by assumption) | exact st_e (by omega) (by assumption) | exact st_e (by decide) st_s | exact st_e (by omega) st_s | exact st_e (by decide) (st_e (by decide) (by assumption)) | exact st_e (by omega) (st_e (by omega) (by assumption))) ?_)
        refine Exists.intro _ (Exists.intro _ (And.intro (by first | assumption | exact st_s | exact st_e (by decide) (by assumption) | exact st_e (by omega) (by assumption) | exact st_e (by decide) st_s | exact st_e (by omega) st_s | exact st_e (by decide) (st_e (by decide) (by assumption)) | exact st_e (by omega) (st_e (by omega) (by assumption))) (And.intro (by first | omega | (simp only [Int.toNat_natCast]; omega)) ?_)))
        refine Exists.intro _ (And.intro (by first | assumption | exact st_s | exact st_e (by decide) (by assumption) | exact st_e (by omega) (by assumption) | exact st_e (by decide) st_s | exact st_e (by omega) st_s | exact st_e (by decide) (st_e (by decide) (by assumption)) | exact st_e (by omega) (st_e (by omega) (by assumption))) ?_)
        refine Exists.intro _ (Exists.intro _ (And.intro (by first | assumption | exact st_s | exact st_e (by decide) (by assumption) | exact st_e (by omega) (by assumption) | exact st_e (by decide) st_s | exact st_e (by omega) st_s | exact st_e (by decide) (st_e (by decide) (by assumption)) | exact st_e (by omega) (st_e (by omega) (by assumption))) (And.intro (by first | omega | (simp only [Int.toNat_natCast]; omega)) ?_)))
        have e4 := ints_up 200 t1 v (pre w rows v)
        have := ih (v + 1) (ab_st τ 8 (ints 200 (ab_up t1 v (pre w rows v)))) (ab_up t1 v (pre w rows v)) (some (.inl (t1 v))) (by omega) (hf.st (Or.inr (Or.inl rfl))) (q6.ne (by decide) (by decide)) st_s (st_e (by decide) q9) (fun j hj => by
          by_cases e : j = v
          · rw [e, ab_up_s]
          · rw [ab_up_n e]; exact hlo j (by omega)) (fun j hj hj2 => by rw [ab_up_n (by omega)]; exact hhi j (by omega) hj2)
        rw [← e4, show pre w rows (v + 1) = pre w rows v + cnt (fun r => w r == v) rows from rfl, ← hhi v (by omega) (by omega)] at this
        exact this
  refine hA 0 _ rfl _ _ _ _ _ ?_
  refine Exists.intro _ (And.intro (by first | assumption | exact st_s | exact st_e (by decide) (by assumption) | exact st_e (by omega) (by assumption) | exact st_e (by decide) st_s | exact st_e (by omega) st_s | exact st_e (by decide) (st_e (by decide) (by assumption)) | exact st_e (by omega) (st_e (by omega) (by assumption))) ?_)
  refine Exists.intro _ (And.intro (by first | assumption | exact st_s | exact st_e (by decide) (by assumption) | exact st_e (by omega) (by assumption) | exact st_e (by decide) st_s | exact st_e (by omega) st_s | exact st_e (by decide) (st_e (by decide) (by assumption)) | exact st_e (by omega) (st_e (by omega) (by assumption))) ?_)
  refine Exists.intro _ (And.intro (by first | assumption | exact st_s | exact st_e (by decide) (by assumption) | exact st_e (by omega) (by assumption) | exact st_e (by decide) st_s | exact st_e (by omega) st_s | exact st_e (by decide) (st_e (by decide) (by assumption)) | exact st_e (by omega) (st_e (by omega) (by assumption))) (And.intro rfl (ab_inv_ev (c_fillTo h6 rows hr) (by decide) (Nat.le_refl _) (Nat.le_refl _) ?_)))
  refine Exists.intro _ (And.intro (by first | assumption | exact st_s | exact st_e (by decide) (by assumption) | exact st_e (by omega) (by assumption) | exact st_e (by decide) st_s | exact st_e (by omega) st_s | exact st_e (by decide) (st_e (by decide) (by assumption)) | exact st_e (by omega) (st_e (by omega) (by assumption))) ?_)
  refine Exists.intro _ (And.intro (by first | assumption | exact st_s | exact st_e (by decide) (by assumption) | exact st_e (by omega) (by assumption) | exact st_e (by decide) st_s | exact st_e (by omega) st_s | exact st_e (by decide) (st_e (by decide) (by assumption)) | exact st_e (by omega) (st_e (by omega) (by assumption))) (And.intro rfl (ab_inv_ev (c_tallyOf (t := t) (G := G') (st_e (by decide) h3) hr (st_e (by decide) h8) (hO.ne (by omega)) (h6.st (fun i => rg_lt i rows)) (by omega) (by omega) hw) (by decide) (Nat.le_refl _) (Nat.le_refl _) ?_)))
  refine loop1 200 0 _ _ _ (by omega) (((fr_rf _ _).st (Or.inl rfl)).st (Or.inr (Or.inl rfl))) ((h6.st (fun i => rg_lt i rows)).ne (by decide) (by decide)) st_s (st_e (by decide) (st_e (by decide) h9)) (fun j hj => by omega) (fun j _ _ => by rw [tly_all])
/-- where arrangedWords writes -/
def awA (a : Nat) : Prop := a = 10 ∨ a = 11
set_option maxRecDepth 100000 in
set_option maxHeartbeats 1000000 in
theorem c_arrangedWords (h3 : σ.2 3 = some (tbc cc rows)) (hr : rows ≤ 1500) {ar m : Nat → Nat} {mb : Nat → Int} (h9 : σ.2 9 = some (ints 1500 ar)) (h10 : σ.2 10 = some (ints 200 m)) (h11 : σ.2 11 = some (.inr (.inl (0, 200, mb)))) (hm : ∀ j, m j < 32768) {h : Nat} {ρ : Bool} {card parts : Nat} {b u : Nat → Nat} {G : Nat → Nat → Nat} (hC : IsC σ h ρ card parts b u G) (hob : okb card parts b) (hh : 11 < h) (har : ∀ r, ar r < 1000) (p : Nat) (hp : p < parts) :
    ab_call 3 0 0 yX6_arrangedWords [rf 3, rf h, .inl p] σ (fun r σ' => r = .inl (some (.inl (wordsP ρ b (cbm ρ b ar rows) (gu rows) p))) ∧ fr awA σ σ' ∧ ∃ (m' : Nat → Nat) (mb' : Nat → Int), (∀ j, m' j < 32768) ∧ σ'.2 10 = some (ints 200 m') ∧ σ'.2 11 = some (.inr (.inl (0, 200, mb')))) := by
  have hC0 := hC.1
  obtain ⟨o1, o2, o3, o4, o5, o6⟩ := id hob
  have hb := o3 p
  have hnb := nbm_le (rg := ρ) o3 p
  have hgu := gu_le hr
  have n3 : ¬ awA 3 := by unfold awA; omega
  have n9 : ¬ awA 9 := by unfold awA; omega
  have nh : ∀ a, h ≤ a → a < h + 6 + 2 * fsp ρ b parts → ¬ awA a := fun a h1 _ => by unfold awA; omega
  have hgR : ab_R ((gu rows : Nat) : Int) := rR (by omega) (by omega)
  have hnR : ab_R ((nbm ρ b p : Nat) : Int) := rR (by omega) (by omega)
  let M : Nat → Nat → Nat := fun j => mk (prd ρ b p ar rows j)
  have hM : ∀ j g, M j g < 32768 := fun j g => mk_lt _ _
  have hW : wordsP ρ b (cbm ρ b ar rows) (gu rows) p = sm (fun j => cnt (sw (M j)) (gu rows)) (nbm ρ b p) := by
    unfold wordsP
    refine sm_ext _ (fun j hj => ?_)
    rw [cbm_eq (by omega) hj]
  refine eX6_arrangedWords rfl (fun At hA => ?_)
  have loopG : ∀ (n g : Nat) (τ : ab_H) (y5 : Option ab_V), g + n = gu rows → fr awA σ τ → (∃ m' : Nat → Nat, (∀ j, m' j < 32768) ∧ τ.2 10 = some (ints 200 m')) → (∃ mb' : Nat → Int, τ.2 11 = some (.inr (.inl (0, 200, mb'))) ∧ ∀ j, j < nbm ρ b p → mb' j = bf (M j) g) → At 4 [some (rf 3), some (rf h), some (.inl p), some (.inl (sm (fun j => cnt (sw (M j)) g) (nbm ρ b p))), some (.inl g), y5] [] τ 0 0 := by
    intro n
    induction n with
    | zero =>
      intro g τ y5 hg hf h10' h11'
      have hg : g = gu rows := by omega
      subst hg
      have q3 := (hf.2 3 n3).trans h3
      obtain ⟨m', k1, k2⟩ := h10'
      obtain ⟨mb', k3, k4⟩ := h11'
      refine hA 4 _ rfl _ _ _ _ _ ?_
      refine Exists.intro _ (And.intro (by first | assumption | exact st_s | exact st_e (by decide) (by assumption) | exact st_e (by omega) (by assumption) | exact st_e (by decide) st_s | exact st_e (by omega) st_s | exact st_e (by decide) (st_e (by decide) (by assumption)) | exact st_e (by omega) (st_e (by omega) (by assumption))) (And.intro rfl (ab_inv_ev (c_groupsUsed q3 hr) (by decide) (Nat.le_refl _) (Nat.le_refl _) ?_)))
      refine And.intro (And.intro (by first | assumption | exact b2i_R _ | exact rR (by omega) (by omega) | exact rR (by simp only [Int.toNat_natCast]; omega) (by simp only [Int.toNat_natCast]; omega)) (by first | assumption | exact b2i_R _ | exact rR (by omega) (by omega) | exact rR (by simp only [Int.toNat_natCast]; omega) (by simp only [Int.toNat_natCast]; omega))) (And.intro (fun q => ?_) (fun q => ?_))
      · refine hA 11 _ rfl _ _ _ _ _ ?_
        exact ⟨by rw [hW], hf, m', mb', k1, k2, k3⟩
      · exact absurd (show ((gu rows : Nat) : Int) < ((gu rows : Nat) : Int) from q) (by omega)
    | succ n ih =>
      intro g τ y5 hg hf h10' h11'
      have q3 := (hf.2 3 n3).trans h3
      have q9 := (hf.2 9 n9).trans h9
      have qC := hC.fr hf nh
      have qC0 := qC.1
      obtain ⟨m', k1, k2⟩ := h10'
      obtain ⟨mb', k3, k4⟩ := h11'
      have loopJ : ∀ (n j : Nat) (τ : ab_H), j + n = nbm ρ b p → fr awA σ τ → (∃ m' : Nat → Nat, (∀ j, m' j < 32768) ∧ τ.2 10 = some (ints 200 m') ∧ ∀ i, i < b p → m' i = M i g) → (∃ mb' : Nat → Int, τ.2 11 = some (.inr (.inl (0, 200, mb'))) ∧ ∀ i, i < nbm ρ b p → mb' i = if i < j then ((M i g : Nat) : Int) else bf (M i) g) → At 6 [some (rf 3), some (rf h), some (.inl p), some (.inl (sm (fun i => cnt (sw (M i)) (if i < j then g + 1 else g)) (nbm ρ b p))), some (.inl g), some (.inl j)] [] τ 0 0 := by
        intro n
        induction n with
        | zero =>
          intro j τ hj hf h10' h11'
          have hj : j = nbm ρ b p := by omega
          subst hj
          have qC := hC.fr hf nh
          have qC0 := qC.1
          obtain ⟨m', k1, k2, -⟩ := h10'
          obtain ⟨mb', k3, k4⟩ := h11'
          refine hA 6 _ rfl _ _ _ _ _ ?_
          refine Exists.intro _ (And.intro (by first | assumption | exact st_s | exact st_e (by decide) (by assumption) | exact st_e (by omega) (by assumption) | exact st_e (by decide) st_s | exact st_e (by omega) st_s | exact st_e (by decide) (st_e (by decide) (by assumption)) | exact st_e (by omega) (st_e (by omega) (by assumption))) (And.intro rfl (ab_inv_ev (c_bitmapsOfPart qC hob p hp) (by decide) (Nat.le_refl _) (Nat.le_refl _) ?_)))
          refine And.intro (And.intro (by first | assumption | exact b2i_R _ | exact rR (by omega) (by omega) | exact rR (by simp only [Int.toNat_natCast]; omega) (by simp only [Int.toNat_natCast]; omega)) (by first | assumption | exact b2i_R _ | exact rR (by omega) (by omega) | exact rR (by simp only [Int.toNat_natCast]; omega) (by simp only [Int.toNat_natCast]; omega))) (And.intro (fun q => ?_) (fun q => ?_))
          · refine hA 10 _ rfl _ _ _ _ _ ?_
            have := ih (g + 1) τ (some (.inl (nbm ρ b p))) (by omega) hf ⟨m', k1, k2⟩ ⟨mb', k3, fun j hj => by rw [k4 j hj, if_pos hj, bf_s]⟩
            rw [sm_ext (g := fun i => cnt (sw (M i)) (if i < nbm ρ b p then g + 1 else g)) _ (fun i hi => by rw [if_pos hi])] at this
            exact this
          · exact absurd (show ((nbm ρ b p : Nat) : Int) < ((nbm ρ b p : Nat) : Int) from q) (by omega)
        | succ n ihj =>
          intro j τ hj hf h10' h11'
          have qC := hC.fr hf nh
          have qC0 := qC.1
          have q3 := (hf.2 3 n3).trans h3
          obtain ⟨m', k1, k2, k5⟩ := h10'
          obtain ⟨mb', k3, k4⟩ := h11'
          have e1 : m' j = M j g := k5 j (by omega)
          have e2 : mb' j = bf (M j) g := by rw [k4 j (by omega), if_neg (by omega)]
          have hsm : ∀ N, sm (fun i => cnt (sw (M i)) (if i < j + 1 then g + 1 else g)) N = sm (fun i => cnt (sw (M i)) (if i < j then g + 1 else g)) N + (if j < N then (sw (M j) g).toNat else 0) := by
            intro N
            induction N with
            | zero => rfl
            | succ N ihN =>
              show sm _ N + cnt (sw (M N)) (if N < j + 1 then g + 1 else g) = sm _ N + cnt (sw (M N)) (if N < j then g + 1 else g) + _
              rw [ihN]
              rcases Nat.lt_trichotomy N j with h | h | h
              · rw [if_neg (show ¬ j < N by omega), if_neg (show ¬ j < N + 1 by omega), if_pos h, if_pos (show N < j + 1 by omega)]
                omega
              · subst h
                rw [if_neg (show ¬ N < N by omega), if_pos (show N < N + 1 by omega), if_pos (show N < N + 1 by omega)]
                show _ + 0 + (cnt (sw (M N)) g + (sw (M N) g).toNat) = _ + cnt (sw (M N)) (if N < N then g + 1 else g) + _
                rw [if_neg (show ¬ N < N by omega)]
                omega
              · rw [if_pos h, if_pos (show j < N + 1 by omega), if_neg (show ¬ N < j + 1 by omega), if_neg (show ¬ N < j by omega)]
                omega
          have hs2 := hsm (nbm ρ b p)
          rw [if_pos (show j < nbm ρ b p by omega)] at hs2
          have k9 : ∀ z : Int, z = sm (fun i => cnt (sw (M i)) (if i < j + 1 then g + 1 else g)) (nbm ρ b p) → At 9 [some (rf 3), some (rf h), some (.inl p), some (.inl z), some (.inl g), some (.inl j)] [] τ 0 0 := fun z hz => by
            subst hz
            refine hA 9 _ rfl _ _ _ _ _ ?_
            refine Exists.intro _ (And.intro (by first | assumption | exact st_s | exact st_e (by decide) (by assumption) | exact st_e (by omega) (by assumption) | exact st_e (by decide) st_s | exact st_e (by omega) st_s | exact st_e (by decide) (st_e (by decide) (by assumption)) | exact st_e (by omega) (st_e (by omega) (by assumption))) ?_)
            refine Exists.intro _ (And.intro (by first | assumption | exact st_s | exact st_e (by decide) (by assumption) | exact st_e (by omega) (by assumption) | exact st_e (by decide) st_s | exact st_e (by omega) st_s | exact st_e (by decide) (st_e (by decide) (by assumption)) | exact st_e (by omega) (st_e (by omega) (by assumption))) ?_)
            refine Exists.intro _ (Exists.intro _ (And.intro (by first | assumption | exact st_s | exact st_e (by decide) (by assumption) | exact st_e (by omega) (by assumption) | exact st_e (by decide) st_s | exact st_e (by omega) st_s | exact st_e (by decide) (st_e (by decide) (by assumption)) | exact st_e (by omega) (st_e (by omega) (by assumption))) (And.intro (by first | omega | (simp only [Int.toNat_natCast]; omega)) ?_)))
            refine Exists.intro _ (Exists.intro _ (And.intro (by first | assumption | exact st_s | exact st_e (by decide) (by assumption) | exact st_e (by omega) (by assumption) | exact st_e (by decide) st_s | exact st_e (by omega) st_s | exact st_e (by decide) (st_e (by decide) (by assumption)) | exact st_e (by omega) (st_e (by omega) (by assumption))) (And.intro (by first | omega | (simp only [Int.toNat_natCast]; omega)) ?_)))
            refine ihj (j + 1) _ (by omega) (hf.st (Or.inr rfl)) ⟨m', k1, st_e (by decide) k2, k5⟩ ⟨_, st_s, fun i hi => ?_⟩
            by_cases e : i = j
            · subst e
              rw [if_pos (by omega)]
              show ab_up mb' _ _ i = _
              rw [← e1]
              exact ab_up_s
            · show ab_up mb' j _ i = _
              rw [ab_up_n e, k4 i hi]
              by_cases e3 : i < j
              · rw [if_pos e3, if_pos (by omega)]
              · rw [if_neg e3, if_neg (by omega)]
          refine hA 6 _ rfl _ _ _ _ _ ?_
          refine Exists.intro _ (And.intro (by first | assumption | exact st_s | exact st_e (by decide) (by assumption) | exact st_e (by omega) (by assumption) | exact st_e (by decide) st_s | exact st_e (by omega) st_s | exact st_e (by decide) (st_e (by decide) (by assumption)) | exact st_e (by omega) (st_e (by omega) (by assumption))) (And.intro rfl (ab_inv_ev (c_bitmapsOfPart qC hob p hp) (by decide) (Nat.le_refl _) (Nat.le_refl _) ?_)))
          refine And.intro (And.intro (by first | assumption | exact b2i_R _ | exact rR (by omega) (by omega) | exact rR (by simp only [Int.toNat_natCast]; omega) (by simp only [Int.toNat_natCast]; omega)) (by first | assumption | exact b2i_R _ | exact rR (by omega) (by omega) | exact rR (by simp only [Int.toNat_natCast]; omega) (by simp only [Int.toNat_natCast]; omega))) (And.intro (fun q => ?_) (fun q => ?_))
          · exact absurd (show ((nbm ρ b p : Nat) : Int) ≤ (j : Int) from q) (by omega)
          · have hcall := c_startsWord τ (hM j) g
            rw [← e1, ← e2] at hcall
            refine hA 7 _ rfl _ _ _ _ _ ?_
            refine Exists.intro _ (And.intro (by first | assumption | exact st_s | exact st_e (by decide) (by assumption) | exact st_e (by omega) (by assumption) | exact st_e (by decide) st_s | exact st_e (by omega) st_s | exact st_e (by decide) (st_e (by decide) (by assumption)) | exact st_e (by omega) (st_e (by omega) (by assumption))) ?_)
            refine Exists.intro _ (Exists.intro _ (And.intro (by first | assumption | exact st_s | exact st_e (by decide) (by assumption) | exact st_e (by omega) (by assumption) | exact st_e (by decide) st_s | exact st_e (by omega) st_s | exact st_e (by decide) (st_e (by decide) (by assumption)) | exact st_e (by omega) (st_e (by omega) (by assumption))) (And.intro (by first | omega | (simp only [Int.toNat_natCast]; omega)) ?_)))
            refine Exists.intro _ (And.intro (by first | assumption | exact st_s | exact st_e (by decide) (by assumption) | exact st_e (by omega) (by assumption) | exact st_e (by decide) st_s | exact st_e (by omega) st_s | exact st_e (by decide) (st_e (by decide) (by assumption)) | exact st_e (by omega) (st_e (by omega) (by assumption))) ?_)
            refine Exists.intro _ (Exists.intro _ (And.intro (by first | assumption | exact st_s | exact st_e (by decide) (by assumption) | exact st_e (by omega) (by assumption) | exact st_e (by decide) st_s | exact st_e (by omega) st_s | exact st_e (by decide) (st_e (by decide) (by assumption)) | exact st_e (by omega) (st_e (by omega) (by assumption))) (And.intro (by first | omega | (simp only [Int.toNat_natCast]; omega)) ?_)))
            refine And.intro rfl (ab_inv_ev hcall (by decide) (Nat.le_refl _) (Nat.le_refl _) ?_)
            refine And.intro (by first | assumption | exact b2i_R _ | exact rR (by omega) (by omega) | exact rR (by simp only [Int.toNat_natCast]; omega) (by simp only [Int.toNat_natCast]; omega)) (And.intro (fun q => ?_) (fun q => ?_))
            · have q := b2i_0 q
              exact k9 _ (by rw [hs2, q]; rfl)
            · have q := b2i_1 q
              refine hA 8 _ rfl _ _ _ _ _ ?_
              exact k9 _ (by rw [hs2, q]; rfl)
      refine hA 4 _ rfl _ _ _ _ _ ?_
      refine Exists.intro _ (And.intro (by first | assumption | exact st_s | exact st_e (by decide) (by assumption) | exact st_e (by omega) (by assumption) | exact st_e (by decide) st_s | exact st_e (by omega) st_s | exact st_e (by decide) (st_e (by decide) (by assumption)) | exact st_e (by omega) (st_e (by omega) (by assumption))) (And.intro rfl (ab_inv_ev (c_groupsUsed q3 hr) (by decide) (Nat.le_refl _) (Nat.le_refl _) ?_)))
      refine And.intro (And.intro (by first | assumption | exact b2i_R _ | exact rR (by omega) (by omega) | exact rR (by simp only [Int.toNat_natCast]; omega) (by simp only [Int.toNat_natCast]; omega)) (by first | assumption | exact b2i_R _ | exact rR (by omega) (by omega) | exact rR (by simp only [Int.toNat_natCast]; omega) (by simp only [Int.toNat_natCast]; omega))) (And.intro (fun q => ?_) (fun q => ?_))
      · exact absurd (show ((gu rows : Nat) : Int) ≤ (g : Int) from q) (by omega)
      · refine hA 5 _ rfl _ _ _ _ _ ?_
        refine Exists.intro _ (And.intro (by first | assumption | exact st_s | exact st_e (by decide) (by assumption) | exact st_e (by omega) (by assumption) | exact st_e (by decide) st_s | exact st_e (by omega) st_s | exact st_e (by decide) (st_e (by decide) (by assumption)) | exact st_e (by omega) (st_e (by omega) (by assumption))) ?_)
        refine Exists.intro _ (And.intro (by first | assumption | exact st_s | exact st_e (by decide) (by assumption) | exact st_e (by omega) (by assumption) | exact st_e (by decide) st_s | exact st_e (by omega) st_s | exact st_e (by decide) (st_e (by decide) (by assumption)) | exact st_e (by omega) (st_e (by omega) (by assumption))) ?_)
        refine Exists.intro _ (And.intro (by first | assumption | exact st_s | exact st_e (by decide) (by assumption) | exact st_e (by omega) (by assumption) | exact st_e (by decide) st_s | exact st_e (by omega) st_s | exact st_e (by decide) (st_e (by decide) (by assumption)) | exact st_e (by omega) (st_e (by omega) (by assumption))) ?_)
        refine Exists.intro _ (And.intro (by first | assumption | exact st_s | exact st_e (by decide) (by assumption) | exact st_e (by omega) (by assumption) | exact st_e (by decide) st_s | exact st_e (by omega) st_s | exact st_e (by decide) (st_e (by decide) (by assumption)) | exact st_e (by omega) (st_e (by omega) (by assumption))) (And.intro rfl (ab_inv_ev (c_gatherMasks qC hob p g rows hp (by omega) hr q9 k2 (by decide) (by omega) har k1) (by decide) (Nat.le_refl _) (Nat.le_refl _) ?_)))
        have := loopJ (nbm ρ b p) 0 (ab_st τ 10 (ints 200 (mix (b p) (fun j => mk (prd ρ b p ar rows j) g) m'))) (by omega) (hf.st (Or.inl rfl)) ⟨_, fun j => ?_, st_s, fun i hi => mix_lt hi⟩ ⟨mb', st_e (by decide) k3, fun i hi => by rw [if_neg (by omega)]; exact k4 i hi⟩
        · rw [sm_ext (g := fun i => cnt (sw (M i)) g) _ (fun i hi => by rw [if_neg (by omega)])] at this
          exact this
        · unfold mix
          split
          · exact mk_lt _ _
          · exact k1 j
  have loop1 : ∀ (n j : Nat) (mb1 : Nat → Int), j + n = 200 → (∀ i, i < j → mb1 i = -1) → At 1 [some (rf 3), some (rf h), some (.inl p), some (.inl 0), some (.inl j), none] [] (ab_st σ 11 (.inr (.inl (0, 200, mb1)))) 0 0 := by
    intro n
    induction n with
    | zero =>
      intro j mb1 hj hm1
      refine hA 1 _ rfl _ _ _ _ _ ?_
      refine And.intro (And.intro (by first | assumption | exact b2i_R _ | exact rR (by omega) (by omega) | exact rR (by simp only [Int.toNat_natCast]; omega) (by simp only [Int.toNat_natCast]; omega)) (by first | assumption | exact b2i_R _ | exact rR (by omega) (by omega) | exact rR (by simp only [Int.toNat_natCast]; omega) (by simp only [Int.toNat_natCast]; omega))) (And.intro (fun q => ?_) (fun q => ?_))
      · refine hA 3 _ rfl _ _ _ _ _ ?_
        have := loopG (gu rows) 0 (ab_st σ 11 (.inr (.inl (0, 200, mb1)))) none (by omega) (fr_st (Or.inr rfl)) ⟨m, hm, st_e (by decide) h10⟩ ⟨mb1, st_s, fun j hj => by rw [hm1 j (by omega)]; rfl⟩
        have e0 : ∀ N, sm (fun j => cnt (sw (M j)) 0) N = 0 := by
          intro N
          induction N with
          | zero => rfl
          | succ N ih => show sm _ N + 0 = 0; rw [ih]
        rw [e0] at this
        exact this
      · omega
    | succ n ih =>
      intro j mb1 hj hm1
      refine hA 1 _ rfl _ _ _ _ _ ?_
      refine And.intro (And.intro (by first | assumption | exact b2i_R _ | exact rR (by omega) (by omega) | exact rR (by simp only [Int.toNat_natCast]; omega) (by simp only [Int.toNat_natCast]; omega)) (by first | assumption | exact b2i_R _ | exact rR (by omega) (by omega) | exact rR (by simp only [Int.toNat_natCast]; omega) (by simp only [Int.toNat_natCast]; omega))) (And.intro (fun q => ?_) (fun q => ?_))
      · omega
      · refine hA 2 _ rfl _ _ _ _ _ ?_
        refine Exists.intro _ (And.intro (by first | assumption | exact st_s | exact st_e (by decide) (by assumption) | exact st_e (by omega) (by assumption) | exact st_e (by decide) st_s | exact st_e (by omega) st_s | exact st_e (by decide) (st_e (by decide) (by assumption)) | exact st_e (by omega) (st_e (by omega) (by assumption))) ?_)
        refine Exists.intro _ (Exists.intro _ (And.intro (by first | assumption | exact st_s | exact st_e (by decide) (by assumption) | exact st_e (by omega) (by assumption) | exact st_e (by decide) st_s | exact st_e (by omega) st_s | exact st_e (by decide) (st_e (by decide) (by assumption)) | exact st_e (by omega) (st_e (by omega) (by assumption))) (And.intro (by first | omega | (simp only [Int.toNat_natCast]; omega)) ?_)))
        rw [st_st]
        refine ih (j + 1) _ (by omega) (fun i hi => ?_)
        show ab_up mb1 j (-1) i = -1
        unfold ab_up
        split
        · rfl
        · exact hm1 i (by omega)
  refine hA 0 _ rfl _ _ _ _ _ ?_
  have := loop1 200 0 mb (by omega) (fun i hi => by omega)
  rw [st_id h11] at this
  exact this
/-- the rows in order: the words that a column would have -/
def wordsO (rows : Nat) (ρ : Bool) (b w u : Nat → Nat) (parts : Nat) : Nat := sm (wordsP ρ b (cbm ρ b (od w u rows) rows) (gu rows)) parts
theorem cbm_ext {ρ : Bool} {b u v : Nat → Nat} {rows : Nat} (h : ∀ r, r < rows → u r = v r) : cbm ρ b u rows = cbm ρ b v rows := by
  funext i
  unfold cbm
  refine mk_ext (fun r => ?_)
  unfold prd
  by_cases e : r < rows
  · rw [h r e]
  · rw [decide_eq_false e]; rfl
def woA (a : Nat) : Prop := arA a ∨ awA a
set_option maxRecDepth 100000 in
set_option maxHeartbeats 1000000 in
theorem c_wordsIfOrdered (h3 : σ.2 3 = some (tbc cc rows)) (hr : rows ≤ 1500) {t ar e0 m : Nat → Nat} {mb : Nat → Int} (h8 : σ.2 8 = some (ints 200 t)) (h9 : σ.2 9 = some (ints 1500 ar)) (h6 : IsB σ 6 e0) (h10 : σ.2 10 = some (ints 200 m)) (h11 : σ.2 11 = some (.inr (.inl (0, 200, mb)))) (hm : ∀ j, m j < 32768) {h o : Nat} {ρ ρ' : Bool} {card parts card' parts' : Nat} {b b' u w : Nat → Nat} {G G' : Nat → Nat → Nat} (hC : IsC σ h ρ card parts b u G) (hob : okb card parts b) (hO : IsC σ o ρ' card' parts' b' w G') (hh : 11 < h) (ho : 11 < o) (hw : ∀ r, w r < 200) (hu : ∀ r, u r < 1000) (har : ∀ r, ar r < 1000) :
    ab_call 4 0 0 yX6_wordsIfOrdered [rf 3, rf h, rf o] σ (fun r σ' => r = .inl (some (.inl (wordsO rows ρ b w u parts))) ∧ fr woA σ σ' ∧ ∃ (e1 t' ar' m' : Nat → Nat) (mb' : Nat → Int), IsB σ' 6 e1 ∧ σ'.2 8 = some (ints 200 t') ∧ σ'.2 9 = some (ints 1500 ar') ∧ (∀ r, ar' r < 1000) ∧ (∀ j, m' j < 32768) ∧ σ'.2 10 = some (ints 200 m') ∧ σ'.2 11 = some (.inr (.inl (0, 200, mb')))) := by
  have hC0 := hC.1
  obtain ⟨o1, o2, o3, o4, o5, o6⟩ := id hob
  refine eX6_wordsIfOrdered rfl (fun At hA => ?_)
  refine hA 0 _ rfl _ _ _ _ _ ?_
  refine Exists.intro _ (And.intro (by first | assumption | exact st_s | exact st_e (by decide) (by assumption) | exact st_e (by omega) (by assumption) | exact st_e (by decide) st_s | exact st_e (by omega) st_s | exact st_e (by decide) (st_e (by decide) (by assumption)) | exact st_e (by omega) (st_e (by omega) (by assumption))) (And.intro rfl (ab_inv_of (c_arrange h3 hr h8 h9 h6 hC hO (by omega) (by omega) hw hu har) (by decide) (by omega) (by omega) ?_)))
  intro r τ hpost
  obtain ⟨rfl, hf, e1, t', ar', q6, q8, q9, hb, hod⟩ := hpost
  have hcb : cbm ρ b ar' rows = cbm ρ b (od w u rows) rows := cbm_ext hod
  have na : ∀ a, a = 3 ∨ 10 ≤ a → ¬ arA a := fun a ha => by unfold arA; omega
  have qC := hC.fr hf (fun a h1 h2 => na a (by omega))
  have loop : ∀ (n i : Nat) (υ : ab_H), i + n = parts → fr awA τ υ → (∃ m' : Nat → Nat, (∀ j, m' j < 32768) ∧ υ.2 10 = some (ints 200 m')) → (∃ mb' : Nat → Int, υ.2 11 = some (.inr (.inl (0, 200, mb')))) → At 1 [some (rf 3), some (rf h), some (rf o), some (.inl (sm (wordsP ρ b (cbm ρ b (od w u rows) rows) (gu rows)) i)), some (.inl i)] [] υ 0 0 := by
    intro n
    induction n with
    | zero =>
      intro i υ hi hg h10' h11'
      have hi : i = parts := by omega
      subst hi
      obtain ⟨m', k1, k2⟩ := h10'
      obtain ⟨mb', k3⟩ := h11'
      have nw : ∀ a, a < 10 ∨ 11 < a → ¬ awA a := fun a ha => by unfold awA; omega
      have pC := qC.fr hg (fun a h1 h2 => nw a (by omega))
      have pC0 := pC.1
      refine hA 1 _ rfl _ _ _ _ _ ?_
      refine Exists.intro _ (And.intro (by first | assumption | exact st_s | exact st_e (by decide) (by assumption) | exact st_e (by omega) (by assumption) | exact st_e (by decide) st_s | exact st_e (by omega) st_s | exact st_e (by decide) (st_e (by decide) (by assumption)) | exact st_e (by omega) (st_e (by omega) (by assumption))) ?_)
      refine And.intro (And.intro (by first | assumption | exact b2i_R _ | exact rR (by omega) (by omega) | exact rR (by simp only [Int.toNat_natCast]; omega) (by simp only [Int.toNat_natCast]; omega)) (by first | assumption | exact b2i_R _ | exact rR (by omega) (by omega) | exact rR (by simp only [Int.toNat_natCast]; omega) (by simp only [Int.toNat_natCast]; omega))) (And.intro (fun q => ?_) (fun q => ?_))
      · refine hA 3 _ rfl _ _ _ _ _ ?_
        exact ⟨rfl, (hf.mono (fun a h => Or.inl h)).tr (hg.mono (fun a h => Or.inr h)), e1, t', ar', m', mb', q6.fr hg (nw _ (by omega)) (nw _ (by omega)), (hg.2 8 (nw _ (by omega))).trans q8, (hg.2 9 (nw _ (by omega))).trans q9, hb, k1, k2, k3⟩
      · omega
    | succ n ih =>
      intro i υ hi hg h10' h11'
      obtain ⟨m', k1, k2⟩ := h10'
      obtain ⟨mb', k3⟩ := h11'
      have nw : ∀ a, a < 10 ∨ 11 < a → ¬ awA a := fun a ha => by unfold awA; omega
      have pC := qC.fr hg (fun a h1 h2 => nw a (by omega))
      have pC0 := pC.1
      have p3 := (hg.2 3 (nw _ (by omega))).trans ((hf.2 3 (na _ (by omega))).trans h3)
      have p9 := (hg.2 9 (nw _ (by omega))).trans q9
      refine hA 1 _ rfl _ _ _ _ _ ?_
      refine Exists.intro _ (And.intro (by first | assumption | exact st_s | exact st_e (by decide) (by assumption) | exact st_e (by omega) (by assumption) | exact st_e (by decide) st_s | exact st_e (by omega) st_s | exact st_e (by decide) (st_e (by decide) (by assumption)) | exact st_e (by omega) (st_e (by omega) (by assumption))) ?_)
      refine And.intro (And.intro (by first | assumption | exact b2i_R _ | exact rR (by omega) (by omega) | exact rR (by simp only [Int.toNat_natCast]; omega) (by simp only [Int.toNat_natCast]; omega)) (by first | assumption | exact b2i_R _ | exact rR (by omega) (by omega) | exact rR (by simp only [Int.toNat_natCast]; omega) (by simp only [Int.toNat_natCast]; omega))) (And.intro (fun q => ?_) (fun q => ?_))
      · omega
      · refine hA 2 _ rfl _ _ _ _ _ ?_
        refine Exists.intro _ (And.intro (by first | assumption | exact st_s | exact st_e (by decide) (by assumption) | exact st_e (by omega) (by assumption) | exact st_e (by decide) st_s | exact st_e (by omega) st_s | exact st_e (by decide) (st_e (by decide) (by assumption)) | exact st_e (by omega) (st_e (by omega) (by assumption))) (And.intro rfl (ab_inv_of (c_arrangedWords p3 hr p9 k2 k3 k1 pC hob hh hb i (by omega)) (by decide) (by omega) (by omega) ?_)))
        intro r υ' hpost
        obtain ⟨rfl, hg', m2, mb2, k4, k5, k6⟩ := hpost
        rw [hcb]
        exact ih (i + 1) υ' (by omega) (hg.tr hg') ⟨m2, k4, k5⟩ ⟨mb2, k6⟩
  
  exact loop parts 0 τ (by omega) (fr_rf _ _) ⟨m, hm, (hf.2 10 (na _ (by omega))).trans h10⟩ ⟨mb, (hf.2 11 (na _ (by omega))).trans h11⟩
end Table2
