-- ===== the model: the search for fewest readings =====
theorem MI.gen {σ τ : ab_H} {cc rows : Nat} {K : Nat → CT} {va : Nat → Nat → Nat} {R : Nat → V1} {f : Nat → Int} {n : Nat} {pl : Int} {c : C3} {t t' : Nat → Int} {r : Nat → Nat} {th th' : Int} (hI : MI σ cc rows K va R f n pl c t r th) {A : Nat → Prop} (hf : fr A σ τ) (hA : ∀ a, A a → a = 57 ∨ (80 ≤ a ∧ a ≤ 318 ∧ a ≠ 280)) (h57 : τ.2 57 = some (m10 t')) (h0 : t' 0 = th') (ht : ∀ j, j = 2 ∨ j = 5 ∨ j = 12 ∨ j = 13 ∨ j = 24 ∨ j = 25 ∨ j = 26 → t' j = t j) (hs : ∀ a, A a → a ≠ 57 → ∃ x, τ.2 a = some x ∧ shp a x) : MI τ cc rows K va R f n pl c t' r th' := by
  obtain ⟨w, s, co, v, gn, ⟨k1, k2, k3, ⟨k4, k5⟩, ⟨g, k6⟩, ⟨k7, k8⟩, k9, ⟨l1, l2⟩, l3, l4⟩, ⟨f0, f1, f2, f3, f4, f5, f6, f7⟩, fx⟩ := hI
  have e : ∀ a, a ≠ 57 → (a < 80 ∨ a = 280) → τ.2 a = σ.2 a := fun a h1 h2 => hf.2 a (fun q => by have := hA a q; omega)
  refine ⟨w, fun a h1 h2 h3 => ?_, co, v, gn, ⟨h57, (e _ (by omega) (by omega)).trans k2, (e _ (by omega) (by omega)).trans k3, ⟨(e _ (by omega) (by omega)).trans k4, fun c hc => (e _ (by omega) (by omega)).trans (k5 c hc)⟩, ⟨g, (e _ (by omega) (by omega)).trans k6⟩, ⟨(e _ (by omega) (by omega)).trans k7, fun c hc => (e _ (by omega) (by omega)).trans (k8 c hc)⟩, (e _ (by omega) (by omega)).trans k9, ⟨(e _ (by omega) (by omega)).trans l1, fun c hc => (e _ (by omega) (by omega)).trans (l2 c hc)⟩, (e _ (by omega) (by omega)).trans l3, (e _ (by omega) (by omega)).trans l4⟩, ⟨h0, (ht 2 (by omega)).trans f1, (ht 5 (by omega)).trans f2, (ht 12 (by omega)).trans f3, (ht 13 (by omega)).trans f4, (ht 24 (by omega)).trans f5, (ht 25 (by omega)).trans f6, (ht 26 (by omega)).trans f7⟩, fx⟩
  by_cases q : A a
  · exact hs a q (by omega)
  · obtain ⟨x, x1, x2⟩ := s a h1 h2 h3
    exact ⟨x, (hf.2 a q).trans x1, x2⟩
theorem MI.sb {σ τ : ab_H} {cc rows : Nat} {K : Nat → CT} {va : Nat → Nat → Nat} {R : Nat → V1} {f : Nat → Int} {n : Nat} {pl : Int} {c : C3} {t : Nat → Int} {r : Nat → Nat} {th : Int} (hI : MI σ cc rows K va R f n pl c t r th) {i : Nat} {tt : Nat → Nat} {B : B3} (hS : SB σ τ t i tt B) : ∃ t', MI τ cc rows K va R f n pl c t' r th := by
  obtain ⟨hf, ⟨t', h57, ht, -⟩, ⟨g, h317, -⟩, ⟨g8, h318, -⟩, -⟩ := hS
  refine ⟨t', hI.gen hf (fun a ha => by omega) h57 ((ht 0 (by omega) (by omega)).trans hI.t0) (fun j hj => ht j (by omega) (by omega)) (fun a ha h5 => ?_)⟩
  by_cases e : a = 317
  · subst e; exact ⟨_, h317, shp_tb (by omega)⟩
  · have e : a = 318 := by omega
    subst e; exact ⟨_, h318, shp_tb (by omega)⟩
theorem enF_lt {k card : Nat} (hc : 1 ≤ card) (hc2 : card ≤ 200) : ∀ (r i prod sum : Nat) (t : Nat → Nat) (B : B3), 1 ≤ prod → (enF k card (r + 1) i prod sum t B).2.1 ≤ sum + 199 + r := by
  intro r
  induction r with
  | zero =>
    intro i prod sum t B hp
    rw [enF_1 hc hc2 hp]
    have := (lb_sp (card := card) hc hp).2.2
    split
    · show sum + lb card prod - 1 ≤ _; omega
    · omega
  | succ r ih =>
    intro i prod sum t B hp
    have e : enF k card (r + 1 + 1) i prod sum t B = fb (fun b B => enF k card (r + 1) (i + 1) (prod * b) (sum + b - 1) (ab_up t i b) B) (198 + 1) 2 B := rfl
    rw [e, fb_s]
    refine Nat.le_trans (fb_mono (fun b B => enF_mono k card (r + 1) _ _ _ _ B) 198 3 _) ?_
    have := ih (i + 1) (prod * 2) (sum + 2 - 1) (ab_up t i 2) B (by omega)
    omega
/-- the readings of the bases tried up to place i -/
def rdS (card : Nat) (tt : Nat → Nat) (i : Nat) : Nat := sm (fun k => rdo card k (wtp tt k) (tt k)) i
theorem rdS_up {card : Nat} {tt : Nat → Nat} {i b : Nat} : rdS card (ab_up tt i b) (i + 1) = rdS card tt i + rdo card i (wtp tt i) b := by
  show sm _ i + rdo card i (wtp (ab_up tt i b) i) (ab_up tt i b i) = _
  rw [ab_up_s, wtp_up i (Nat.le_refl _)]
  congr 1
  exact sm_ext i (fun j hj => by rw [wtp_up j (by omega), ab_up_n (by omega)])
theorem rdS_le {card : Nat} {tt : Nat → Nat} : ∀ i, rdS card tt i ≤ 2 * (card - 1) * i := by
  intro i
  induction i with
  | zero => exact Nat.zero_le _
  | succ i ih =>
    have h1 : rdS card tt (i + 1) = rdS card tt i + rdo card i (wtp tt i) (tt i) := rfl
    have h2 := rdo_le (c := card) (i := i) (w := wtp tt i) (b := tt i)
    rw [h1, Nat.mul_add, Nat.mul_one]
    omega
theorem wtp_25 {tt : Nat → Nat} : ∀ i, (∀ j, j < i → 2 ≤ tt j ∧ tt j ≤ 25) → 1 ≤ wtp tt i ∧ wtp tt i ≤ 25 ^ i := by
  intro i
  induction i with
  | zero => intro _; exact ⟨Nat.le_refl _, Nat.le_refl _⟩
  | succ i ih =>
    intro h
    have h1 := ih (fun j hj => h j (by omega))
    have h2 := h i (by omega)
    have e : wtp tt (i + 1) = wtp tt i * tt i := rfl
    rw [e, Nat.pow_succ]
    exact ⟨Nat.mul_pos h1.1 (by omega), Nat.mul_le_mul h1.2 h2.2⟩
section Msea2
variable {σ : ab_H} {t : Nat → Int} {card so : Nat}
set_option maxRecDepth 100000 in
set_option maxHeartbeats 1000000 in
theorem m_withDigit (N w b x : Nat) (hN : N < 100000) (hw : 1 ≤ w) (hb : 2 ≤ b) (hx : x < b) (hwb : w * b < 2147483648) : ab_ev 2 yX10_withDigit [.inl N, .inl w, .inl b, .inl x] σ (some (.inl (nwd N w b x))) σ := by
  have hxw : x * w ≤ w * b := by rw [Nat.mul_comm w b]; exact Nat.mul_le_mul_right w (by omega)
  have hwb0 : 1 ≤ w * b := Nat.mul_pos hw (by omega)
  have hww : w ≤ w * b := Nat.le_mul_of_pos_right w (by omega)
  have e1 : (w : Int) * (b : Int) = ((w * b : Nat) : Int) := (Int.natCast_mul w b).symm
  have e2 : (x : Int) * (w : Int) = ((x * w : Nat) : Int) := (Int.natCast_mul x w).symm
  have hm := Nat.mod_lt N (y := w * b) (by omega)
  have e3 : (N : Int) % ((w * b : Nat) : Int) = ((N % (w * b) : Nat) : Int) := (Int.natCast_emod _ _).symm
  have e4 : (N : Int) / ((w * b : Nat) : Int) = ((N / (w * b) : Nat) : Int) := (Int.natCast_ediv _ _).symm
  have hR : ∀ z : Nat, z < w * b → ab_R ((z : Int) - ((x * w : Nat) : Int)) := fun z hz => rR (by omega) (by omega)
  have hl := m_less (σ := σ) w ((N : Int) % ((w : Int) * (b : Int)) - (x : Int) * (w : Int)) (rR (by omega) (by omega)) (by rw [e1, e2, e3]; exact hR _ hm)
  have hle : (if ((N : Int) % ((w : Int) * (b : Int)) - (x : Int) * (w : Int)) ≤ (w : Int) then ((N : Int) % ((w : Int) * (b : Int)) - (x : Int) * (w : Int)) else (w : Int)) = min (w : Int) ((N : Int) % ((w : Int) * (b : Int)) - (x : Int) * (w : Int)) := by split <;> omega
  rw [hle] at hl
  have hmo := m_more (σ := σ) 0 (min (w : Int) ((N : Int) % ((w : Int) * (b : Int)) - (x : Int) * (w : Int))) (rR (by omega) (by omega)) (by
    rw [e1, e2, e3]
    have := hR _ hm
    generalize N % (w * b) = z at hm this
    unfold ab_R at this ⊢
    omega)
  have hmx : (N : Int) / ((w : Int) * (b : Int)) * (w : Int) + (if (0 : Int) ≤ min (w : Int) ((N : Int) % ((w : Int) * (b : Int)) - (x : Int) * (w : Int)) then min (w : Int) ((N : Int) % ((w : Int) * (b : Int)) - (x : Int) * (w : Int)) else 0) = ((nwd N w b x : Nat) : Int) := by
    unfold nwd
    rw [e1, e2, e3, e4, Int.natCast_add, Int.natCast_mul]
    congr 1
    generalize N % (w * b) = z at hm
    split <;> omega
  refine eX10_withDigit rfl (fun At hA => ?_)
  refine hA 0 _ rfl _ _ _ _ _ ?_
  refine And.intro ⟨by omega, rR (by omega) (by omega), by rw [e1]; omega, by rw [e1]; exact rR (by omega) (by omega)⟩ ?_
  refine And.intro ⟨by omega, rR (by omega) (by omega), by rw [e1]; omega, by rw [e1]; exact rR (by omega) (by omega)⟩ ?_
  refine And.intro rfl (ab_inv_ev hl (by first | decide | omega) (by first | exact Nat.le_refl _ | omega) (by first | exact Nat.le_refl _ | omega) ?_)
  refine And.intro rfl (ab_inv_ev hmo (by first | decide | omega) (by first | exact Nat.le_refl _ | omega) (by first | exact Nat.le_refl _ | omega) ?_)
  refine ⟨?_, rfl⟩
  rw [← hmx]
set_option maxRecDepth 100000 in
set_option maxHeartbeats 1000000 in
theorem m_readingsBy {τ : ab_H} {u g : Nat → Int} (h57 : τ.2 57 = some (m10 u)) (h317 : τ.2 317 = some (iar 4 g)) {tt : Nat → Nat} (hc : 2 ≤ card ∧ card ≤ 200) (hso : so ≤ 4) (hg : ∀ j, j < so → g j = tt j) (htt : ∀ j, j < so → 2 ≤ tt j ∧ tt j ≤ 25) : ab_ev 3 yX10_readingsBy [rf 57, .inl card, .inl so] τ (some (.inl (rdS card tt so))) τ := by
  refine eX10_readingsBy rfl (fun At hA => ?_)
  have loop : ∀ m i : Nat, i + m = so → At 1 [some (rf 57), some (.inl card), some (.inl so), some (.inl ((card : Int) - 1)), some (.inl (wtp tt i)), some (.inl (rdS card tt i)), some (.inl i)] [] τ 0 0 := by
    intro m
    induction m with
    | zero =>
      intro i hi
      have hi : i = so := by omega
      refine hA 1 _ rfl _ _ _ _ _ ?_
      refine And.intro (And.intro (by first | assumption | exact b2i_R _ | exact rR (by omega) (by omega) | exact rR (by simp only [Int.toNat_natCast]; omega) (by simp only [Int.toNat_natCast]; omega)) (by first | assumption | exact b2i_R _ | exact rR (by omega) (by omega) | exact rR (by simp only [Int.toNat_natCast]; omega) (by simp only [Int.toNat_natCast]; omega))) (And.intro (fun q => ?_) (fun q => ?_))
      · refine hA 5 _ rfl _ _ _ _ _ ?_
        rw [hi]
        exact ⟨rfl, rfl⟩
      · omega
    | succ m ih =>
      intro i hi
      have ihi := ih (i + 1) (by omega)
      have hgi := hg i (by omega)
      have hgi2 : g ((i : Nat) : Int).toNat = tt i := hgi
      have hti := htt i (by omega)
      have hw := wtp_25 i (fun j hj => htt j (by omega))
      have h25 : 25 ^ i ≤ 25 ^ 3 := Nat.pow_le_pow_right (by omega) (by omega)
      have h25 : 25 ^ i ≤ 15625 := h25
      have hwb : wtp tt i * tt i ≤ 15625 * 25 := Nat.mul_le_mul (by omega) (by omega)
      have hn1 := nwd_le (card - 1) (wtp tt i) (tt i) (tt i - 1) hw.1 (by omega)
      have hn2 := nwd_le (card - 1) (wtp tt i) (tt i) 0 hw.1 (by omega)
      have hd1 := m_withDigit (σ := τ) (card - 1) (wtp tt i) (tt i) (tt i - 1) (by omega) hw.1 (by omega) (by omega) (by omega)
      have hd2 := m_withDigit (σ := τ) (card - 1) (wtp tt i) (tt i) 0 (by omega) hw.1 (by omega) (by omega) (by omega)
      rw [show ((card - 1 : Nat) : Int) = (card : Int) - 1 by omega, show ((tt i - 1 : Nat) : Int) = g ((i : Nat) : Int).toNat - 1 by omega, ← hgi2] at hd1
      rw [show ((card - 1 : Nat) : Int) = (card : Int) - 1 by omega, ← hgi2] at hd2
      have e1 : rdS card tt (i + 1) = rdS card tt i + rdo card i (wtp tt i) (tt i) := rfl
      have e2 : wtp tt (i + 1) = wtp tt i * tt i := rfl
      have k4 : ∀ z : Int, z = (rdS card tt (i + 1) : Nat) → At 4 [some (rf 57), some (.inl card), some (.inl so), some (.inl ((card : Int) - 1)), some (.inl (wtp tt i)), some (.inl z), some (.inl i)] [] τ 0 0 := fun z hz => by
        subst hz
        rw [e2, Int.natCast_mul, ← hgi2] at ihi
        refine hA 4 _ rfl _ _ _ _ _ ?_
        refine Exists.intro _ (And.intro (h57) ?_)
        refine Exists.intro _ (Exists.intro _ (And.intro (h317) (And.intro (by omega) ?_)))
        exact ihi
      refine hA 1 _ rfl _ _ _ _ _ ?_
      refine And.intro (And.intro (by first | assumption | exact b2i_R _ | exact rR (by omega) (by omega) | exact rR (by simp only [Int.toNat_natCast]; omega) (by simp only [Int.toNat_natCast]; omega)) (by first | assumption | exact b2i_R _ | exact rR (by omega) (by omega) | exact rR (by simp only [Int.toNat_natCast]; omega) (by simp only [Int.toNat_natCast]; omega))) (And.intro (fun q => ?_) (fun q => ?_))
      · omega
      · refine hA 2 _ rfl _ _ _ _ _ ?_
        refine Exists.intro _ (And.intro (h57) ?_)
        refine Exists.intro _ (Exists.intro _ (And.intro (h317) (And.intro (by omega) ?_)))
        refine Exists.intro _ (And.intro (h57) ?_)
        refine Exists.intro _ (Exists.intro _ (And.intro (h317) (And.intro (by omega) ?_)))
        refine And.intro rfl (ab_inv_ev hd1 (by first | decide | omega) (by first | exact Nat.le_refl _ | omega) (by first | exact Nat.le_refl _ | omega) ?_)
        refine And.intro (rR (by omega) (by omega)) (And.intro (fun q => ?_) (fun q => ?_))
        · have q : ((i : Nat) : Int) ≤ 0 := q
          refine k4 _ ?_
          rw [e1]
          unfold rdo
          rw [if_neg (by omega)]
          omega
        · have q : (0 : Int) < ((i : Nat) : Int) := q
          refine hA 3 _ rfl _ _ _ _ _ ?_
          refine Exists.intro _ (And.intro (h57) ?_)
          refine Exists.intro _ (Exists.intro _ (And.intro (h317) (And.intro (by omega) ?_)))
          refine And.intro rfl (ab_inv_ev hd2 (by first | decide | omega) (by first | exact Nat.le_refl _ | omega) (by first | exact Nat.le_refl _ | omega) ?_)
          refine k4 _ ?_
          rw [e1]
          unfold rdo
          rw [if_pos (by omega)]
          omega
  refine hA 0 _ rfl _ _ _ _ _ ?_
  exact loop so 0 (by omega)
set_option maxRecDepth 100000 in
set_option maxHeartbeats 1000000 in
theorem m_triesSwift (hc : 2 ≤ card ∧ card ≤ 200) (hso : 1 ≤ so ∧ so ≤ 4) : ∀ (r i : Nat), i + r = so → ∀ (τ : ab_H) (left : Nat) (tt : Nat → Nat) (B : B3), left ≤ 24 → (∀ j, j < i → 2 ≤ tt j ∧ tt j ≤ 25) → SB σ τ t i tt B → ab_call (4 + r) 0 0 yX10_triesSwift [rf 57, .inl card, .inl so, .inl i, .inl (wtp tt i), .inl left] τ (fun z σ' => z = .inl none ∧ SB σ σ' t i tt (enS so card r i (wtp tt i) left (rdS card tt i) tt B)) := by
  intro r
  induction r with
  | zero =>
    intro i hi τ left tt B hl htt hS
    obtain ⟨hf, ⟨t', h57, ht, h33, h34⟩, ⟨g, h317, hg⟩, ⟨g8, h318, hg8⟩, hB4, hB0, hBm⟩ := id hS
    have hi : i = so := by omega
    subst hi
    have hw := wtp_25 i htt
    have h25 : 25 ^ i ≤ 25 ^ 4 := Nat.pow_le_pow_right (by omega) (by omega)
    have h25 : 25 ^ i ≤ 390625 := h25
    have hrb := rdS_le (card := card) (tt := tt) i
    have hrb2 : 2 * (card - 1) * i ≤ 400 * 4 := Nat.mul_le_mul (by omega) hso.2
    have hk := m_keeps hS hso (rdS card tt i) (by omega)
    have e : enS i card 0 i (wtp tt i) left (rdS card tt i) tt B = if card ≤ wtp tt i ∧ rdS card tt i < B.2.1 then (i, rdS card tt i, tt) else B := rfl
    refine eX10_triesSwift rfl (fun At hA => ?_)
    refine hA 0 _ rfl _ _ _ _ _ ?_
    refine And.intro (And.intro (by first | assumption | exact b2i_R _ | exact rR (by omega) (by omega) | exact rR (by simp only [Int.toNat_natCast]; omega) (by simp only [Int.toNat_natCast]; omega)) (by first | assumption | exact b2i_R _ | exact rR (by omega) (by omega) | exact rR (by simp only [Int.toNat_natCast]; omega) (by simp only [Int.toNat_natCast]; omega))) (And.intro (fun q => ?_) (fun q => ?_))
    · exact absurd rfl q
    · refine hA 1 _ rfl _ _ _ _ _ ?_
      refine And.intro (And.intro (by first | assumption | exact b2i_R _ | exact rR (by omega) (by omega) | exact rR (by simp only [Int.toNat_natCast]; omega) (by simp only [Int.toNat_natCast]; omega)) (by first | assumption | exact b2i_R _ | exact rR (by omega) (by omega) | exact rR (by simp only [Int.toNat_natCast]; omega) (by simp only [Int.toNat_natCast]; omega))) (And.intro (fun q => ?_) (fun q => ?_))
      · refine hA 3 _ rfl _ _ _ _ _ ?_
        refine ⟨rfl, ?_⟩
        rw [e, if_neg (by omega)]
        exact hS
      · refine hA 2 _ rfl _ _ _ _ _ ?_
        refine Exists.intro _ (And.intro (by first | assumption | exact st_s | exact st_e (by decide) (by assumption) | exact st_e (by omega) (by assumption) | exact st_e (by decide) st_s | exact st_e (by omega) st_s | exact st_e (by decide) (st_e (by decide) (by assumption)) | exact st_e (by omega) (st_e (by omega) (by assumption))) (And.intro rfl (ab_inv_ev (m_readingsBy h57 h317 hc hso.2 hg htt) (by first | decide | omega) (by first | exact Nat.le_refl _ | omega) (by first | exact Nat.le_refl _ | omega) ?_)))
        refine Exists.intro _ (And.intro (by first | assumption | exact st_s | exact st_e (by decide) (by assumption) | exact st_e (by omega) (by assumption) | exact st_e (by decide) st_s | exact st_e (by omega) st_s | exact st_e (by decide) (st_e (by decide) (by assumption)) | exact st_e (by omega) (st_e (by omega) (by assumption))) (And.intro rfl (ab_inv_of hk (by first | decide | omega) (by omega) (by omega) ?_)))
        intro z υ hpost
        obtain ⟨rfl, hS3⟩ := hpost
        
        refine hA 3 _ rfl _ _ _ _ _ ?_
        refine ⟨rfl, ?_⟩
        rw [e]
        by_cases q2 : rdS card tt i < B.2.1
        · rw [if_pos q2] at hS3
          rw [if_pos ⟨by omega, q2⟩]
          exact hS3
        · rw [if_neg q2] at hS3
          rw [if_neg (fun z => q2 z.2)]
          exact hS3
  | succ r ihr =>
    intro i hi τ left tt B hl htt hS
    have hw := wtp_25 i htt
    have h25 : 25 ^ i ≤ 25 ^ 3 := Nat.pow_le_pow_right (by omega) (by omega)
    have h25 : 25 ^ i ≤ 15625 := h25
    obtain ⟨-, ⟨t', h57, -⟩, -⟩ := id hS
    refine eX10_triesSwift rfl (fun At hA => ?_)
    have loop : ∀ (m b : Nat) (υ : ab_H) (B' : B3), b + m = left + 2 → 2 ≤ b → SB σ υ t i tt B' → fb (fun b B => enS so card r (i + 1) (wtp tt i * b) (left - (b - 1)) (rdS card tt i + rdo card i (wtp tt i) b) (ab_up tt i b) B) m b B' = enS so card (r + 1) i (wtp tt i) left (rdS card tt i) tt B → At 5 [some (rf 57), some (.inl card), some (.inl so), some (.inl i), some (.inl (wtp tt i)), some (.inl left), some (.inl b)] [] υ 0 0 := by
      intro m
      induction m with
      | zero =>
        intro b υ B' hb h2 hS' he
        refine hA 5 _ rfl _ _ _ _ _ ?_
        refine And.intro (And.intro (by first | assumption | exact b2i_R _ | exact rR (by omega) (by omega) | exact rR (by simp only [Int.toNat_natCast]; omega) (by simp only [Int.toNat_natCast]; omega)) (by first | assumption | exact b2i_R _ | exact rR (by omega) (by omega) | exact rR (by simp only [Int.toNat_natCast]; omega) (by simp only [Int.toNat_natCast]; omega))) (And.intro (fun q => ?_) (fun q => ?_))
        · refine hA 7 _ rfl _ _ _ _ _ ?_
          refine ⟨rfl, ?_⟩
          rw [← he]
          exact hS'
        · omega
      | succ m ih =>
        intro b υ B' hb h2 hS' he
        obtain ⟨hf', ⟨u', u57, ut, u33, u34⟩, ⟨g, u317, hg⟩, ⟨g8, u318, hg8⟩, uB⟩ := id hS'
        have hS2 : SB σ (ab_st υ 317 (iar 4 (ab_up g i b))) t (i + 1) (ab_up tt i b) B' := ⟨hf'.st (by omega), ⟨u', st_e (by omega) u57, ut, u33, u34⟩, ⟨_, st_s, fun j hj => by
          by_cases e : j = i
          · rw [e, ab_up_s, ab_up_s]
          · rw [ab_up_n e, ab_up_n e]; exact hg j (by omega)⟩, ⟨g8, st_e (by omega) u318, hg8⟩, uB⟩
        have hr := ihr (i + 1) (by omega) (ab_st υ 317 (iar 4 (ab_up g i b))) (left - (b - 1)) (ab_up tt i b) B' (by omega) (fun j hj => by
          by_cases e : j = i
          · rw [e, ab_up_s]; omega
          · rw [ab_up_n e]; exact htt j (by omega)) hS2
        have ew : wtp (ab_up tt i b) (i + 1) = wtp tt i * b := by
          show wtp (ab_up tt i b) i * ab_up tt i b i = _
          rw [wtp_up i (Nat.le_refl _), ab_up_s]
        rw [ew, rdS_up, Int.natCast_mul, show ((left - (b - 1) : Nat) : Int) = (left : Int) - (b : Int) + 1 by omega, Int.natCast_add i 1] at hr
        have q57 : (ab_st υ 317 (iar 4 (ab_up g i b))).2 57 = some (m10 u') := st_e (by omega) u57
        refine hA 5 _ rfl _ _ _ _ _ ?_
        refine And.intro (And.intro (by first | assumption | exact b2i_R _ | exact rR (by omega) (by omega) | exact rR (by simp only [Int.toNat_natCast]; omega) (by simp only [Int.toNat_natCast]; omega)) (by first | assumption | exact b2i_R _ | exact rR (by omega) (by omega) | exact rR (by simp only [Int.toNat_natCast]; omega) (by simp only [Int.toNat_natCast]; omega))) (And.intro (fun q => ?_) (fun q => ?_))
        · omega
        · refine hA 6 _ rfl _ _ _ _ _ ?_
          refine Exists.intro _ (And.intro (u57) ?_)
          refine Exists.intro _ (Exists.intro _ (And.intro (u317) (And.intro (by omega) ?_)))
          refine Exists.intro _ (And.intro q57 (And.intro rfl (ab_inv_of hr (by first | decide | omega) (by omega) (by omega) ?_)))
          intro z υ2 hpost
          obtain ⟨rfl, hS3⟩ := hpost
          have ihb := ih (b + 1) υ2 _ (by omega) (by omega) (hS3.lo (by omega) (fun x hx => ab_up_n (by omega))) he
          
          exact ihb
    have l0 := loop left 2 τ B (by omega) (by omega) hS rfl
    refine hA 0 _ rfl _ _ _ _ _ ?_
    refine And.intro (And.intro (by first | assumption | exact b2i_R _ | exact rR (by omega) (by omega) | exact rR (by simp only [Int.toNat_natCast]; omega) (by simp only [Int.toNat_natCast]; omega)) (by first | assumption | exact b2i_R _ | exact rR (by omega) (by omega) | exact rR (by simp only [Int.toNat_natCast]; omega) (by simp only [Int.toNat_natCast]; omega))) (And.intro (fun q => ?_) (fun q => ?_))
    · refine hA 4 _ rfl _ _ _ _ _ ?_
      exact l0
    · omega
end Msea2
section Mask5
variable {σ : ab_H} {cc rows : Nat} {K : Nat → CT} {va : Nat → Nat → Nat} {R : Nat → V1} {f : Nat → Int} {n : Nat} {pl : Int} {c : C3} {t : Nat → Int} {r : Nat → Nat} {th : Int}
set_option maxRecDepth 100000 in
set_option maxHeartbeats 1000000 in
theorem g_thrift (hI : MI σ cc rows K va R f n pl c t r th) (card k what : Int) (hcard : ab_R card) (hk : ab_R k) (hwhat : ab_R what) : ab_call 12 0 0 yX10_thrift [rf 57, .inl card, .inl k, .inl what] σ (mdP σ (cc, rows, K, va, R, f, n, pl, c) r (fun i => (i : Int)) (stq (cc, rows, K, va, R, f, n, pl, c) (sp_thrift card k what))) := by
  have q57 := hI.h57
  have hr := hI.hr
  have hcc := hI.hc
  have hgl := gu_le hr
  have hI0 := hI.uth 0
  have hf0 : fr mA σ (ab_st σ 57 (m10 (ab_up t 0 0))) := fr_st (by unfold mA; omega)
  generalize ht0 : ab_up t 0 0 = t0 at hI0 hf0
  generalize hs0 : ab_st σ 57 (m10 t0) = σ0 at hI0 hf0
  have p57 := hI0.h57
  have p58 := hI0.h58
  have p0 := hI0.t0
  have p2 := hI0.t2
  have p12 := hI0.t12
  have p13 := hI0.t13
  refine eX10_thrift rfl (fun At hA => ?_)
  have gK1 : (((2 ≤ card ∧ card ≤ 200) ∧ 1 ≤ k ∧ k ≤ 4) ∧ 0 ≤ what ∧ what ≤ 4) → At 5 [some (rf 57), some (.inl card), some (.inl k), some (.inl what)] [.inl 0, rf 57] σ0 0 0 := fun hP1 => by
    refine hA 5 _ rfl _ _ _ _ _ ?_
    refine Exists.intro _ (And.intro (by first | assumption | exact st_s | exact st_e (by decide) (by assumption) | exact st_e (by omega) (by assumption) | exact st_e (by decide) st_s | exact st_e (by omega) st_s | exact st_e (by decide) (st_e (by decide) (by assumption)) | exact st_e (by omega) (st_e (by omega) (by assumption))) (And.intro rfl (ab_inv_ev (m_bad0 p57 p0 1 1) (by first | decide | omega) (by first | exact Nat.le_refl _ | omega) (by first | exact Nat.le_refl _ | omega) ?_)))
    refine And.intro (by first | assumption | exact b2i_R _ | exact rR (by omega) (by omega) | exact rR (by simp only [Int.toNat_natCast]; omega) (by simp only [Int.toNat_natCast]; omega)) (And.intro (fun q => ?_) (fun q => ?_))
    · obtain ⟨card', rfl⟩ : ∃ m : Nat, card = (m : Int) := ⟨card.toNat, by omega⟩
      obtain ⟨k', rfl⟩ : ∃ m : Nat, k = (m : Int) := ⟨k.toNat, by omega⟩
      obtain ⟨what', rfl⟩ : ∃ m : Nat, what = (m : Int) := ⟨what.toNat, by omega⟩
      have hS0 : SB σ0 (ab_st σ0 57 (m10 (ab_up t0 33 0))) t0 0 (fun _ => 0) B0 := by
        obtain ⟨g7, h7⟩ := hI0.sc.tb (a := 317) (by omega) (by omega)
        obtain ⟨g8, h8⟩ := hI0.sc.tb (a := 318) (by omega) (by omega)
        exact ⟨fr_st (by omega), ⟨_, st_s, fun j h1 h2 => ab_up_n h1, ab_up_s, fun h => absurd (show 0 < 0 from h) (by decide)⟩, ⟨g7, st_e (by omega) h7, fun j hj => by omega⟩, ⟨g8, st_e (by omega) h8, fun j hj => absurd (show j < 0 from hj) (by omega)⟩, by decide, fun _ => rfl, Nat.le_refl _⟩
      have htf := m_triesFew (σ := σ0) (t := t0) (card := card') (so := k') (by omega) (by omega) (k' - 1) 0 (by omega) _ 1 0 (fun _ => 0) B0 (Nat.le_refl _) (Nat.le_refl _) (Nat.le_refl _) hS0
      rw [show k' - 1 + 1 = k' by omega] at htf
      have q57' : (ab_st σ0 57 (m10 (ab_up t0 33 0))).2 57 = some (m10 (ab_up t0 33 0)) := st_s
      refine hA 7 _ rfl _ _ _ _ _ ?_
      refine Exists.intro _ (And.intro (p57) ?_)
      rw [m10_s33]
      refine Exists.intro _ (And.intro q57' (And.intro rfl (ab_inv_of htf (by first | decide | omega) (by omega) (by omega) ?_)))
      intro z τ hpost
      obtain ⟨rfl, hS⟩ := hpost
      obtain ⟨t9, hI9⟩ := hI0.sb hS
      have hB1 : (enF k' card' k' 0 1 0 (fun _ => 0) B0).1 = k' := by
        rcases enF_or k' card' k' 0 1 0 (fun _ => 0) B0 with h | h
        · have h2 := enF_lt (k := k') (card := card') (by omega) (by omega) (k' - 1) 0 1 0 (fun _ => 0) B0 (Nat.le_refl _)
          rw [show k' - 1 + 1 = k' by omega, h] at h2
          have h2 : 1000000 ≤ 0 + 199 + (k' - 1) := h2
          omega
        · exact h
      have hsp : sp_thrift (card' : Nat) (k' : Nat) (what' : Nat) = .inl (tellF (enF k' card' k' 0 1 0 (fun _ => 0) B0) what') := by
        unfold sp_thrift
        rw [if_pos hP1] <;> rfl
      generalize hBB : enF k' card' k' 0 1 0 (fun _ => 0) B0 = BB at hS hB1 hsp
      obtain ⟨hf, ⟨t', h57, ht, h33, h34⟩, -, ⟨g8, h318, hg8⟩, hB4, -, hBm⟩ := id hS
      have h34 := h34 (by omega)
      have k12 : ∀ z : Int, tellF BB what' = z → At 12 [some (rf 57), some (.inl (card' : Nat)), some (.inl (k' : Nat)), some (.inl (what' : Nat))] [.inl z] τ 0 0 := fun z hz => by
        refine hA 12 _ rfl _ _ _ _ _ ?_
        exact md_as hsp hz.symm (hf0.tr (hf.mono (fun a ha => by unfold mA; omega))) hI9
      refine And.intro (by first | assumption | exact b2i_R _ | exact rR (by omega) (by omega) | exact rR (by simp only [Int.toNat_natCast]; omega) (by simp only [Int.toNat_natCast]; omega)) (And.intro (fun q => ?_) (fun q => ?_))
      · refine hA 9 _ rfl _ _ _ _ _ ?_
        refine And.intro (And.intro (by first | assumption | exact b2i_R _ | exact rR (by omega) (by omega) | exact rR (by simp only [Int.toNat_natCast]; omega) (by simp only [Int.toNat_natCast]; omega)) (by first | assumption | exact b2i_R _ | exact rR (by omega) (by omega) | exact rR (by simp only [Int.toNat_natCast]; omega) (by simp only [Int.toNat_natCast]; omega))) (And.intro (fun q => ?_) (fun q => ?_))
        · refine hA 11 _ rfl _ _ _ _ _ ?_
          refine k12 _ ?_
          unfold tellF
          rw [if_pos (Or.inl (by omega))]
        · have hg := hg8 (what' - 1) (by omega)
          have e1 : ((what' : Nat) - 1 : Int).toNat = what' - 1 := by omega
          refine hA 10 _ rfl _ _ _ _ _ ?_
          refine Exists.intro _ (And.intro (h57) ?_)
          refine Exists.intro _ (Exists.intro _ (And.intro (h318) (And.intro (by omega) ?_)))
          refine k12 _ ?_
          unfold tellF
          rw [if_neg (by omega), if_neg (by omega), e1]
          exact hg.symm
      · refine hA 8 _ rfl _ _ _ _ _ ?_
        refine Exists.intro _ (And.intro (h57) ?_)
        refine k12 _ ?_
        unfold tellF
        rw [if_neg (by omega), if_pos (by omega)]
        exact h34.symm
    · exact absurd rfl q
  have gF1 : ¬ (((2 ≤ card ∧ card ≤ 200) ∧ 1 ≤ k ∧ k ≤ 4) ∧ 0 ≤ what ∧ what ≤ 4) → At 5 [some (rf 57), some (.inl card), some (.inl k), some (.inl what)] [.inl 1, rf 57] σ0 0 0 := fun hP1 => by
    refine hA 5 _ rfl _ _ _ _ _ ?_
    refine Exists.intro _ (And.intro (by first | assumption | exact st_s | exact st_e (by decide) (by assumption) | exact st_e (by omega) (by assumption) | exact st_e (by decide) st_s | exact st_e (by omega) st_s | exact st_e (by decide) (st_e (by decide) (by assumption)) | exact st_e (by omega) (st_e (by omega) (by assumption))) (And.intro rfl (ab_inv_ev (m_bad1 p57 p0 p58 1 1 (by decide) (by decide) (by decide)) (by first | decide | omega) (by first | exact Nat.le_refl _ | omega) (by first | exact Nat.le_refl _ | omega) ?_)))
    refine And.intro (by first | assumption | exact b2i_R _ | exact rR (by omega) (by omega) | exact rR (by simp only [Int.toNat_natCast]; omega) (by simp only [Int.toNat_natCast]; omega)) (And.intro (fun q => ?_) (fun q => ?_))
    · exact absurd q (by decide)
    · refine hA 6 _ rfl _ _ _ _ _ ?_
      exact md_no (by unfold sp_thrift; rw [if_neg hP1] <;> rfl) hf0 hI0 rfl
  have gO1 : ¬ (((2 ≤ card ∧ card ≤ 200) ∧ 1 ≤ k ∧ k ≤ 4) ∧ 0 ≤ what ∧ what ≤ 4) → At 3 [some (rf 57), some (.inl card), some (.inl k), some (.inl what)] [rf 57] σ0 0 0 := fun h => by
    refine hA 3 _ rfl _ _ _ _ _ ?_
    exact gF1 h
  have gZ1 : (((2 ≤ card ∧ card ≤ 200) ∧ 1 ≤ k ∧ k ≤ 4) ∧ 0 ≤ what ∧ what ≤ 4) → At 4 [some (rf 57), some (.inl card), some (.inl k), some (.inl what)] [rf 57] σ0 0 0 := fun h => by
    refine hA 4 _ rfl _ _ _ _ _ ?_
    exact gK1 h
  refine hA 0 _ rfl _ _ _ _ _ ?_
  refine Exists.intro _ (And.intro (q57) ?_)
  rw [m10_s0, ht0, hs0]
  refine And.intro rfl (ab_inv_ev (m_in card 2 200 hcard (rR (by omega) (by omega)) (rR (by omega) (by omega))) (by first | decide | omega) (by first | exact Nat.le_refl _ | omega) (by first | exact Nat.le_refl _ | omega) ?_)
  refine And.intro (by first | assumption | exact b2i_R _ | exact rR (by omega) (by omega) | exact rR (by simp only [Int.toNat_natCast]; omega) (by simp only [Int.toNat_natCast]; omega)) (And.intro (fun q => ?_) (fun q => ?_))
  · exact gO1 (by have q1 := of_decide_eq_false (b2i_0 q); omega)
  · have q00 := of_decide_eq_true (b2i_1 q)
    refine hA 1 _ rfl _ _ _ _ _ ?_
    refine And.intro rfl (ab_inv_ev (m_in k 1 4 hk (rR (by omega) (by omega)) (rR (by omega) (by omega))) (by first | decide | omega) (by first | exact Nat.le_refl _ | omega) (by first | exact Nat.le_refl _ | omega) ?_)
    refine And.intro (by first | assumption | exact b2i_R _ | exact rR (by omega) (by omega) | exact rR (by simp only [Int.toNat_natCast]; omega) (by simp only [Int.toNat_natCast]; omega)) (And.intro (fun q => ?_) (fun q => ?_))
    · exact gO1 (by have q1 := of_decide_eq_false (b2i_0 q); omega)
    · have q01 := of_decide_eq_true (b2i_1 q)
      refine hA 2 _ rfl _ _ _ _ _ ?_
      refine And.intro rfl (ab_inv_ev (m_in what 0 4 hwhat (rR (by omega) (by omega)) (rR (by omega) (by omega))) (by first | decide | omega) (by first | exact Nat.le_refl _ | omega) (by first | exact Nat.le_refl _ | omega) ?_)
      refine And.intro (by first | assumption | exact b2i_R _ | exact rR (by omega) (by omega) | exact rR (by simp only [Int.toNat_natCast]; omega) (by simp only [Int.toNat_natCast]; omega)) (And.intro (fun q => ?_) (fun q => ?_))
      · have q02 := of_decide_eq_true (b2i_1 q)
        exact gZ1 (by omega)
      · exact gO1 (by have q1 := of_decide_eq_false (b2i_0 q); omega)
set_option maxRecDepth 100000 in
set_option maxHeartbeats 1000000 in
theorem g_swift (hI : MI σ cc rows K va R f n pl c t r th) (card bud what : Int) (hcard : ab_R card) (hbud : ab_R bud) (hwhat : ab_R what) : ab_call 12 0 0 yX10_swift [rf 57, .inl card, .inl bud, .inl what] σ (mdP σ (cc, rows, K, va, R, f, n, pl, c) r (fun i => (i : Int)) (stq (cc, rows, K, va, R, f, n, pl, c) (sp_swift card bud what))) := by
  have q57 := hI.h57
  have hr := hI.hr
  have hcc := hI.hc
  have hgl := gu_le hr
  have hI0 := hI.uth 0
  have hf0 : fr mA σ (ab_st σ 57 (m10 (ab_up t 0 0))) := fr_st (by unfold mA; omega)
  generalize ht0 : ab_up t 0 0 = t0 at hI0 hf0
  generalize hs0 : ab_st σ 57 (m10 t0) = σ0 at hI0 hf0
  have p57 := hI0.h57
  have p58 := hI0.h58
  have p0 := hI0.t0
  have p2 := hI0.t2
  have p12 := hI0.t12
  have p13 := hI0.t13
  refine eX10_swift rfl (fun At hA => ?_)
  have gK1 : (((2 ≤ card ∧ card ≤ 200) ∧ 1 ≤ bud ∧ bud ≤ 24) ∧ 0 ≤ what ∧ what ≤ 4) → At 5 [some (rf 57), some (.inl card), some (.inl bud), some (.inl what), none] [.inl 0, rf 57] σ0 0 0 := fun hP1 => by
    refine hA 5 _ rfl _ _ _ _ _ ?_
    refine Exists.intro _ (And.intro (by first | assumption | exact st_s | exact st_e (by decide) (by assumption) | exact st_e (by omega) (by assumption) | exact st_e (by decide) st_s | exact st_e (by omega) st_s | exact st_e (by decide) (st_e (by decide) (by assumption)) | exact st_e (by omega) (st_e (by omega) (by assumption))) (And.intro rfl (ab_inv_ev (m_bad0 p57 p0 1 1) (by first | decide | omega) (by first | exact Nat.le_refl _ | omega) (by first | exact Nat.le_refl _ | omega) ?_)))
    refine And.intro (by first | assumption | exact b2i_R _ | exact rR (by omega) (by omega) | exact rR (by simp only [Int.toNat_natCast]; omega) (by simp only [Int.toNat_natCast]; omega)) (And.intro (fun q => ?_) (fun q => ?_))
    · obtain ⟨card', rfl⟩ : ∃ m : Nat, card = (m : Int) := ⟨card.toNat, by omega⟩
      obtain ⟨bud', rfl⟩ : ∃ m : Nat, bud = (m : Int) := ⟨bud.toNat, by omega⟩
      obtain ⟨what', rfl⟩ : ∃ m : Nat, what = (m : Int) := ⟨what.toNat, by omega⟩
      have hS0 : SB σ0 (ab_st σ0 57 (m10 (ab_up t0 33 0))) t0 0 (fun _ => 0) B0 := by
        obtain ⟨g7, h7⟩ := hI0.sc.tb (a := 317) (by omega) (by omega)
        obtain ⟨g8, h8⟩ := hI0.sc.tb (a := 318) (by omega) (by omega)
        exact ⟨fr_st (by omega), ⟨_, st_s, fun j h1 h2 => ab_up_n h1, ab_up_s, fun h => absurd (show 0 < 0 from h) (by decide)⟩, ⟨g7, st_e (by omega) h7, fun j hj => by omega⟩, ⟨g8, st_e (by omega) h8, fun j hj => absurd (show j < 0 from hj) (by omega)⟩, by decide, fun _ => rfl, Nat.le_refl _⟩
      have hsp : sp_swift (card' : Nat) (bud' : Nat) (what' : Nat) = .inl (tellF (swB card' bud' 4) what') := by
        unfold sp_swift
        rw [if_pos hP1] <;> rfl
      have fin : ∀ (τ : ab_H) (y : Option ab_V), SB σ0 τ t0 0 (fun _ => 0) (swB card' bud' 4) → At 10 [some (rf 57), some (.inl (card' : Nat)), some (.inl (bud' : Nat)), some (.inl (what' : Nat)), y] [] τ 0 0 := fun τ y hS => by
        obtain ⟨t9, hI9⟩ := hI0.sb hS
        generalize hBB : swB card' bud' 4 = BB at hS hsp
        obtain ⟨hf, ⟨t', h57, ht, h33, h34⟩, -, ⟨g8, h318, hg8⟩, hB4, -, hBm⟩ := id hS
        have hff := hf0.tr (hf.mono (B := mA) (fun a ha => by unfold mA; omega))
        have k17 : ∀ z : Int, tellF BB what' = z → At 17 [some (rf 57), some (.inl (card' : Nat)), some (.inl (bud' : Nat)), some (.inl (what' : Nat)), y] [.inl z] τ 0 0 := fun z hz => by
          refine hA 17 _ rfl _ _ _ _ _ ?_
          exact md_as hsp hz.symm hff hI9
        refine hA 10 _ rfl _ _ _ _ _ ?_
        refine Exists.intro _ (And.intro (h57) ?_)
        refine And.intro (show ab_R (t' 33) from rR (by omega) (by omega)) (And.intro (fun q => ?_) (fun q => ?_))
        · have q : t' 33 ≠ 0 := q
          have h34 := h34 (by omega)
          refine hA 12 _ rfl _ _ _ _ _ ?_
          refine And.intro (by first | assumption | exact b2i_R _ | exact rR (by omega) (by omega) | exact rR (by simp only [Int.toNat_natCast]; omega) (by simp only [Int.toNat_natCast]; omega)) (And.intro (fun q => ?_) (fun q => ?_))
          · refine hA 14 _ rfl _ _ _ _ _ ?_
            refine Exists.intro _ (And.intro (h57) ?_)
            refine And.intro (And.intro (rR (by omega) (by omega)) (show ab_R (t' 33) from rR (by omega) (by omega))) (And.intro (fun q => ?_) (fun q => ?_))
            · have q : t' 33 < ((what' : Nat) : Int) := q
              refine hA 16 _ rfl _ _ _ _ _ ?_
              refine k17 _ ?_
              unfold tellF
              rw [if_pos (Or.inl (by omega))]
            · have q : ((what' : Nat) : Int) ≤ t' 33 := q
              have hg := hg8 (what' - 1) (by omega)
              have e1 : ((what' : Nat) - 1 : Int).toNat = what' - 1 := by omega
              refine hA 15 _ rfl _ _ _ _ _ ?_
              refine Exists.intro _ (And.intro (h57) ?_)
              refine Exists.intro _ (Exists.intro _ (And.intro (h318) (And.intro (by omega) ?_)))
              refine k17 _ ?_
              unfold tellF
              rw [if_neg (by omega), if_neg (by omega), e1]
              exact hg.symm
          · refine hA 13 _ rfl _ _ _ _ _ ?_
            refine Exists.intro _ (And.intro (h57) ?_)
            refine k17 _ ?_
            unfold tellF
            rw [if_neg (by omega), if_pos (by omega)]
            exact h34.symm
        · have q : t' 33 = 0 := q
          have hB0 : BB.1 = 0 := by omega
          refine hA 11 _ rfl _ _ _ _ _ ?_
          exact md_as hsp (by unfold tellF; rw [if_pos (Or.inr hB0)]) hff hI9
      have loop : ∀ (m i : Nat) (τ : ab_H), i + m = 4 → SB σ0 τ t0 0 (fun _ => 0) (swB card' bud' i) → At 8 [some (rf 57), some (.inl (card' : Nat)), some (.inl (bud' : Nat)), some (.inl (what' : Nat)), some (.inl ((i + 1 : Nat) : Int))] [] τ 0 0 := by
        intro m
        induction m with
        | zero =>
          intro i τ hi hS
          have hi : i = 4 := by omega
          subst hi
          have hfi := fin τ (some (.inl ((4 + 1 : Nat) : Int))) hS
          refine hA 8 _ rfl _ _ _ _ _ ?_
          refine And.intro (And.intro (by first | assumption | exact b2i_R _ | exact rR (by omega) (by omega) | exact rR (by simp only [Int.toNat_natCast]; omega) (by simp only [Int.toNat_natCast]; omega)) (by first | assumption | exact b2i_R _ | exact rR (by omega) (by omega) | exact rR (by simp only [Int.toNat_natCast]; omega) (by simp only [Int.toNat_natCast]; omega))) (And.intro (fun q => ?_) (fun q => ?_))
          · exact hfi
          · omega
        | succ m ih =>
          intro i τ hi hS
          obtain ⟨-, ⟨t', h57, -⟩, -⟩ := id hS
          have htf := m_triesSwift (σ := σ0) (t := t0) (card := card') (so := i + 1) (by omega) (by omega) (i + 1) 0 (by omega) τ bud' (fun _ => 0) (swB card' bud' i) (by omega) (fun j hj => by omega) hS
          refine hA 8 _ rfl _ _ _ _ _ ?_
          refine And.intro (And.intro (by first | assumption | exact b2i_R _ | exact rR (by omega) (by omega) | exact rR (by simp only [Int.toNat_natCast]; omega) (by simp only [Int.toNat_natCast]; omega)) (by first | assumption | exact b2i_R _ | exact rR (by omega) (by omega) | exact rR (by simp only [Int.toNat_natCast]; omega) (by simp only [Int.toNat_natCast]; omega))) (And.intro (fun q => ?_) (fun q => ?_))
          · omega
          · refine hA 9 _ rfl _ _ _ _ _ ?_
            refine Exists.intro _ (And.intro (by first | assumption | exact st_s | exact st_e (by decide) (by assumption) | exact st_e (by omega) (by assumption) | exact st_e (by decide) st_s | exact st_e (by omega) st_s | exact st_e (by decide) (st_e (by decide) (by assumption)) | exact st_e (by omega) (st_e (by omega) (by assumption))) (And.intro rfl (ab_inv_of htf (by first | decide | omega) (by omega) (by omega) ?_)))
            intro z υ hpost
            obtain ⟨rfl, hS2⟩ := hpost
            have ihi := ih (i + 1) υ (by omega) hS2
            
            exact ihi
      have l0 := loop 4 0 _ rfl hS0
      refine hA 7 _ rfl _ _ _ _ _ ?_
      refine Exists.intro _ (And.intro (p57) ?_)
      rw [m10_s33]
      exact l0
    · exact absurd rfl q
  have gF1 : ¬ (((2 ≤ card ∧ card ≤ 200) ∧ 1 ≤ bud ∧ bud ≤ 24) ∧ 0 ≤ what ∧ what ≤ 4) → At 5 [some (rf 57), some (.inl card), some (.inl bud), some (.inl what), none] [.inl 1, rf 57] σ0 0 0 := fun hP1 => by
    refine hA 5 _ rfl _ _ _ _ _ ?_
    refine Exists.intro _ (And.intro (by first | assumption | exact st_s | exact st_e (by decide) (by assumption) | exact st_e (by omega) (by assumption) | exact st_e (by decide) st_s | exact st_e (by omega) st_s | exact st_e (by decide) (st_e (by decide) (by assumption)) | exact st_e (by omega) (st_e (by omega) (by assumption))) (And.intro rfl (ab_inv_ev (m_bad1 p57 p0 p58 1 1 (by decide) (by decide) (by decide)) (by first | decide | omega) (by first | exact Nat.le_refl _ | omega) (by first | exact Nat.le_refl _ | omega) ?_)))
    refine And.intro (by first | assumption | exact b2i_R _ | exact rR (by omega) (by omega) | exact rR (by simp only [Int.toNat_natCast]; omega) (by simp only [Int.toNat_natCast]; omega)) (And.intro (fun q => ?_) (fun q => ?_))
    · exact absurd q (by decide)
    · refine hA 6 _ rfl _ _ _ _ _ ?_
      exact md_no (by unfold sp_swift; rw [if_neg hP1] <;> rfl) hf0 hI0 rfl
  have gO1 : ¬ (((2 ≤ card ∧ card ≤ 200) ∧ 1 ≤ bud ∧ bud ≤ 24) ∧ 0 ≤ what ∧ what ≤ 4) → At 3 [some (rf 57), some (.inl card), some (.inl bud), some (.inl what), none] [rf 57] σ0 0 0 := fun h => by
    refine hA 3 _ rfl _ _ _ _ _ ?_
    exact gF1 h
  have gZ1 : (((2 ≤ card ∧ card ≤ 200) ∧ 1 ≤ bud ∧ bud ≤ 24) ∧ 0 ≤ what ∧ what ≤ 4) → At 4 [some (rf 57), some (.inl card), some (.inl bud), some (.inl what), none] [rf 57] σ0 0 0 := fun h => by
    refine hA 4 _ rfl _ _ _ _ _ ?_
    exact gK1 h
  refine hA 0 _ rfl _ _ _ _ _ ?_
  refine Exists.intro _ (And.intro (q57) ?_)
  rw [m10_s0, ht0, hs0]
  refine And.intro rfl (ab_inv_ev (m_in card 2 200 hcard (rR (by omega) (by omega)) (rR (by omega) (by omega))) (by first | decide | omega) (by first | exact Nat.le_refl _ | omega) (by first | exact Nat.le_refl _ | omega) ?_)
  refine And.intro (by first | assumption | exact b2i_R _ | exact rR (by omega) (by omega) | exact rR (by simp only [Int.toNat_natCast]; omega) (by simp only [Int.toNat_natCast]; omega)) (And.intro (fun q => ?_) (fun q => ?_))
  · exact gO1 (by have q1 := of_decide_eq_false (b2i_0 q); omega)
  · have q00 := of_decide_eq_true (b2i_1 q)
    refine hA 1 _ rfl _ _ _ _ _ ?_
    refine And.intro rfl (ab_inv_ev (m_in bud 1 24 hbud (rR (by omega) (by omega)) (rR (by omega) (by omega))) (by first | decide | omega) (by first | exact Nat.le_refl _ | omega) (by first | exact Nat.le_refl _ | omega) ?_)
    refine And.intro (by first | assumption | exact b2i_R _ | exact rR (by omega) (by omega) | exact rR (by simp only [Int.toNat_natCast]; omega) (by simp only [Int.toNat_natCast]; omega)) (And.intro (fun q => ?_) (fun q => ?_))
    · exact gO1 (by have q1 := of_decide_eq_false (b2i_0 q); omega)
    · have q01 := of_decide_eq_true (b2i_1 q)
      refine hA 2 _ rfl _ _ _ _ _ ?_
      refine And.intro rfl (ab_inv_ev (m_in what 0 4 hwhat (rR (by omega) (by omega)) (rR (by omega) (by omega))) (by first | decide | omega) (by first | exact Nat.le_refl _ | omega) (by first | exact Nat.le_refl _ | omega) ?_)
      refine And.intro (by first | assumption | exact b2i_R _ | exact rR (by omega) (by omega) | exact rR (by simp only [Int.toNat_natCast]; omega) (by simp only [Int.toNat_natCast]; omega)) (And.intro (fun q => ?_) (fun q => ?_))
      · have q02 := of_decide_eq_true (b2i_1 q)
        exact gZ1 (by omega)
      · exact gO1 (by have q1 := of_decide_eq_false (b2i_0 q); omega)
end Mask5
