theorem bit_e (g : Nat → Nat) (hg : ∀ i, g i < 32768) (r : Nat) : ab_and (ab_shr ((g (r / 15) : Nat) : Int) ((r % 15 : Nat) : Int)) 1 = ((bit g r).toNat : Int) := by
  have := hg (r / 15)
  rw [nb_shr (by omega) (by omega)]
  have h2 : g (r / 15) / 2 ^ (r % 15) ≤ g (r / 15) := Nat.div_le_self _ _
  rw [show ab_and ((g (r / 15) / 2 ^ (r % 15) : Nat) : Int) 1 = _ from nb_and (b := 1) (by omega) (by omega)]
  unfold bit
  rw [bc_q, Nat.and_one_is_mod]
set_option maxRecDepth 100000 in
set_option maxHeartbeats 1000000 in
theorem c_contains {σ : ab_H} {h : Nat} {g : Nat → Nat} (hB : IsB σ h g) (r : Nat) (hr : r < 1500) : ab_ev 1 yX2_contains [rf h, .inl r] σ (some (.inl (b2i (bit g r)))) σ := by
  obtain ⟨h1, h2, hg⟩ := id hB
  have e := bit_e g hg r
  refine eX2_contains rfl (fun At hA => ?_)
  have k5 : ∀ z : Int, z = b2i (bit g r) → At 5 [some (rf h), some (.inl r)] [.inl z] σ 0 0 := fun z hz => by
    refine hA 5 _ rfl _ _ _ _ _ ?_
    exact And.intro (by rw [hz]; exact b2i_01 _) ⟨by rw [hz], rfl⟩
  refine hA 0 _ rfl _ _ _ _ _ ?_
  refine And.intro (by first | assumption | exact b2i_R _ | exact rR (by omega) (by omega)) (And.intro (fun q => ?_) (fun q => ?_))
  · omega
  · refine hA 1 _ rfl _ _ _ _ _ ?_
    refine And.intro (And.intro (rR (by omega) (by omega)) (rR (by omega) (by omega))) (And.intro (fun q => by omega) (fun q => ?_))
    refine hA 2 _ rfl _ _ _ _ _ ?_
    refine Exists.intro _ (And.intro h1 ?_)
    refine And.intro ⟨by omega, rR (by omega) (by omega), by omega, rR (by omega) (by omega)⟩ ?_
    refine Exists.intro _ (Exists.intro _ (And.intro h2 (And.intro (by omega) ?_)))
    refine And.intro ⟨by omega, rR (by omega) (by omega), by omega, rR (by omega) (by omega)⟩ ?_
    refine And.intro (And.intro (e ▸ rR (by have := Bool.toNat_le (bit g r); omega) (by have := Bool.toNat_le (bit g r); omega)) (rR (by omega) (by omega))) (And.intro (fun q => ?_) (fun q => ?_))
    · have q' : ((bit g r).toNat : Int) ≠ 1 := fun c => q (e.trans c)
      refine hA 4 _ rfl _ _ _ _ _ ?_
      exact k5 _ (by cases hb : bit g r <;> rw [hb] at q' <;> simp at q' ⊢; rfl)
    · have q' : ((bit g r).toNat : Int) = 1 := e.symm.trans q
      refine hA 3 _ rfl _ _ _ _ _ ?_
      exact k5 _ (by cases hb : bit g r <;> rw [hb] at q' <;> simp at q' ⊢; rfl)
/-- row r put in, or out -/
def pt (g : Nat → Nat) (r : Nat) (b : Bool) : Nat → Nat := ab_up g (r / 15) (if b then g (r / 15) ||| 2 ^ (r % 15) else wo (g (r / 15)) (2 ^ (r % 15)))
theorem pt_lt {g : Nat → Nat} (hg : ∀ i, g i < 32768) (r : Nat) (b : Bool) : ∀ i, pt g r b i < 32768 := by
  intro i
  have h2 : 2 ^ (r % 15) ≤ 2 ^ 14 := Nat.pow_le_pow_right (by omega) (by omega)
  unfold pt ab_up
  split
  · split
    · exact Nat.or_lt_two_pow (n := 15) (hg _) (by omega)
    · exact Nat.lt_of_le_of_lt (wo_le _ _) (hg _)
  · exact hg i
theorem pt_bit (g : Nat → Nat) (r : Nat) (b : Bool) (s : Nat) : bit (pt g r b) s = if s = r then b else bit g s := by
  unfold bit pt ab_up
  by_cases e : s / 15 = r / 15
  · rw [if_pos e]
    by_cases e2 : s = r
    · subst e2
      rw [if_pos rfl]
      cases b
      · rw [if_neg (by simp), wo_bit, Nat.testBit_two_pow_self]; simp
      · rw [if_pos rfl, Nat.testBit_or, Nat.testBit_two_pow_self]; simp
    · rw [if_neg e2]
      have e3 : r % 15 ≠ s % 15 := by omega
      cases b
      · rw [if_neg (by simp), wo_bit, Nat.testBit_two_pow_of_ne e3, e]; simp
      · rw [if_pos rfl, Nat.testBit_or, Nat.testBit_two_pow_of_ne e3, e]; simp
  · rw [if_neg e, if_neg (fun q => e (by rw [q]))]
set_option maxRecDepth 100000 in
set_option maxHeartbeats 1000000 in
theorem c_put {σ : ab_H} {h : Nat} {g : Nat → Nat} (hB : IsB σ h g) (r : Nat) (hr : r < 1500) (b : Bool) : ab_ev 1 yX2_put [rf h, .inl r, .inl (b2i b)] σ none (ab_st σ (h + 1) (bmc (pt g r b))) := by
  obtain ⟨h1, h2, hg⟩ := id hB
  have hgr := hg (r / 15)
  have h2p : 2 ^ (r % 15) ≤ 2 ^ 14 := Nat.pow_le_pow_right (by omega) (by omega)
  have es : ab_shl 1 ((r % 15 : Nat) : Int) = ((2 ^ (r % 15) : Nat) : Int) := by
    have := nb_shl (a := 1) (k := r % 15) (by omega) (by omega)
    rw [Nat.one_mul] at this
    exact this
  have eu : ∀ z : Nat, z = (if b then g (r / 15) ||| 2 ^ (r % 15) else wo (g (r / 15)) (2 ^ (r % 15))) → ab_st σ (h + 1) (.inr (.inl (0, 100, ab_up (fun i => ((g i : Nat) : Int)) (r / 15) (z : Int)))) = ab_st σ (h + 1) (bmc (pt g r b)) := fun z hz => by
    congr 5
    funext j
    unfold pt ab_up
    rw [hz]
    split <;> rfl
  refine eX2_put rfl (fun At hA => ?_)
  have k5 : ∀ z : Nat, z = (if b then g (r / 15) ||| 2 ^ (r % 15) else wo (g (r / 15)) (2 ^ (r % 15))) → ∀ w : Int, At 5 [some (rf h), some (.inl r), some (.inl (b2i b)), some (.inl w), some (.inl ((r / 15 : Nat) : Int))] [.inl z, .inl ((r / 15 : Nat) : Int), rf (h + 1)] σ 0 0 := fun z hz w => by
    refine hA 5 _ rfl _ _ _ _ _ ?_
    refine Exists.intro _ (Exists.intro _ (And.intro h2 (And.intro (by omega) ?_)))
    refine hA 6 _ rfl _ _ _ _ _ ?_
    exact ⟨rfl, eu z hz⟩
  refine hA 0 _ rfl _ _ _ _ _ ?_
  refine And.intro (by first | assumption | exact b2i_R _ | exact rR (by omega) (by omega)) (And.intro (fun q => ?_) (fun q => ?_))
  · omega
  · refine hA 1 _ rfl _ _ _ _ _ ?_
    refine And.intro (And.intro (rR (by omega) (by omega)) (rR (by omega) (by omega))) (And.intro (fun q => by omega) (fun q => ?_))
    refine hA 2 _ rfl _ _ _ _ _ ?_
    refine And.intro ⟨by omega, rR (by omega) (by omega), by omega, rR (by omega) (by omega)⟩ ?_
    refine And.intro ⟨by omega, rR (by omega) (by omega), by omega, rR (by omega) (by omega)⟩ ?_
    refine Exists.intro _ (And.intro h1 ?_)
    refine And.intro (b2i_R b) (And.intro (fun q => ?_) (fun q => ?_))
    · have hb := b2i_0 q
      refine hA 4 _ rfl _ _ _ _ _ ?_
      refine Exists.intro _ (And.intro h1 ?_)
      refine Exists.intro _ (Exists.intro _ (And.intro h2 (And.intro (by omega) ?_)))
      have e2 : ab_and ((g (r / 15) : Nat) : Int) (ab_xor (ab_shl 1 ((r % 15 : Nat) : Int)) (-1)) = ((wo (g (r / 15)) (2 ^ (r % 15)) : Nat) : Int) := by
        rw [es, nb_not (by omega) (by omega)]
      have := k5 (wo (g (r / 15)) (2 ^ (r % 15))) (by rw [hb]; rfl) (ab_shl 1 ((r % 15 : Nat) : Int))
      rw [← e2] at this
      exact this
    · have hb := b2i_1 q
      refine hA 3 _ rfl _ _ _ _ _ ?_
      refine Exists.intro _ (And.intro h1 ?_)
      refine Exists.intro _ (Exists.intro _ (And.intro h2 (And.intro (by omega) ?_)))
      have e2 : ab_or ((g (r / 15) : Nat) : Int) (ab_shl 1 ((r % 15 : Nat) : Int)) = ((g (r / 15) ||| 2 ^ (r % 15) : Nat) : Int) := by
        rw [es, nb_or (by omega) (by omega)]
      have := k5 (g (r / 15) ||| 2 ^ (r % 15)) (by rw [hb]; rfl) (ab_shl 1 ((r % 15 : Nat) : Int))
      rw [← e2] at this
      exact this
set_option maxRecDepth 100000 in
set_option maxHeartbeats 1000000 in
theorem c_copyFrom {σ : ab_H} {h o : Nat} {g f : Nat → Nat} (hB : IsB σ h g) (hO : IsB σ o f) : ab_ev 2 yX2_copyFrom [rf h, rf o] σ none (ab_st σ (h + 1) (bmc f)) := by
  refine hq_ev (σ' := ab_st σ (h + 1) (.inr (.inl (0, 100, ab_cp (fun i => ((f i : Nat) : Int)) (fun i => ((g i : Nat) : Int)) 0 0 100)))) ?_ (hq_st (fun j hj => ?_))
  · refine eX2_copyFrom rfl (fun At hA => ?_)
    refine hA 0 _ rfl _ _ _ _ _ ?_
    refine Exists.intro _ (And.intro hO.1 ?_)
    refine Exists.intro _ (And.intro hB.1 ?_)
    refine Exists.intro _ (Exists.intro _ (Exists.intro _ (Exists.intro _ (And.intro hO.2.1 (And.intro hB.2.1 (And.intro (by omega) (And.intro rfl ?_)))))))
    exact ⟨rfl, rfl⟩
  · unfold ab_cp
    rw [if_pos ⟨Nat.zero_le _, by show j < 0 + 100; omega⟩]
    show _ = ((f j : Nat) : Int)
    congr 2
    show 0 + (j - 0) = j
    omega
/-- the new ones below i -/
def mix (i : Nat) (f g : Nat → Nat) : Nat → Nat := fun j => if j < i then f j else g j
theorem mix_0 (f g : Nat → Nat) : mix 0 f g = g := by funext j; unfold mix; rw [if_neg (by omega)]
theorem mix_ge {i j : Nat} {f g : Nat → Nat} (h : i ≤ j) : mix i f g j = g j := if_neg (by omega)
theorem mix_s (i : Nat) (f g : Nat → Nat) (z : Int) (hz : z = f i) : ab_up (fun j => ((mix i f g j : Nat) : Int)) i z = fun j => ((mix (i + 1) f g j : Nat) : Int) := by
  funext j
  unfold ab_up mix
  by_cases h : j = i
  · subst h; rw [if_pos rfl, if_pos (by omega), hz]
  · rw [if_neg h]
    show ((if j < i then f j else g j : Nat) : Int) = _
    by_cases h2 : j < i
    · rw [if_pos h2, if_pos (by omega)]
    · rw [if_neg h2, if_neg (by omega)]
theorem mix_q {σ : ab_H} {a : Nat} {f g : Nat → Nat} : hq_h (ab_st σ a (bmc (mix 100 f g))) (ab_st σ a (bmc f)) := hq_st (fun j hj => by unfold mix; rw [if_pos hj])
theorem IsB.st {σ : ab_H} {h : Nat} {g f : Nat → Nat} (hB : IsB σ h g) (hf : ∀ i, f i < 32768) : IsB (ab_st σ (h + 1) (bmc f)) h f := ⟨st_e (by omega) hB.1, st_s, hf⟩
theorem IsB.ne {σ : ab_H} {h a : Nat} {g : Nat → Nat} {x : ab_C} (hB : IsB σ h g) (h1 : h ≠ a) (h2 : h + 1 ≠ a) : IsB (ab_st σ a x) h g := ⟨st_e h1 hB.1, st_e h2 hB.2.1, hB.2.2⟩
set_option maxRecDepth 100000 in
set_option maxHeartbeats 1000000 in
theorem c_fillTo {σ : ab_H} {h : Nat} {g : Nat → Nat} (hB : IsB σ h g) (rows : Nat) (hr : rows ≤ 1500) : ab_ev 2 yX2_fillTo [rf h, .inl rows] σ none (ab_st σ (h + 1) (bmc (fun i => rg i rows))) := by
  refine hq_ev (σ' := ab_st σ (h + 1) (bmc (mix 100 (fun i => rg i rows) g))) ?_ mix_q
  obtain ⟨h1, h2, hg⟩ := id hB
  refine eX2_fillTo rfl (fun At hA => ?_)
  have loop : ∀ n i : Nat, i + n = 100 → At 1 [some (rf h), some (.inl rows), some (.inl i)] [] (ab_st σ (h + 1) (bmc (mix i (fun i => rg i rows) g))) 0 0 := by
    intro n
    induction n with
    | zero =>
      intro i hi
      refine hA 1 _ rfl _ _ _ _ _ ?_
      refine And.intro (And.intro (by first | assumption | exact b2i_R _ | exact rR (by omega) (by omega)) (by first | assumption | exact b2i_R _ | exact rR (by omega) (by omega))) (And.intro (fun q => ?_) (fun q => ?_))
      · refine hA 3 _ rfl _ _ _ _ _ ?_
        exact ⟨rfl, by rw [show i = 100 by omega]⟩
      · omega
    | succ n ih =>
      intro i hi
      refine hA 1 _ rfl _ _ _ _ _ ?_
      refine And.intro (And.intro (by first | assumption | exact b2i_R _ | exact rR (by omega) (by omega)) (by first | assumption | exact b2i_R _ | exact rR (by omega) (by omega))) (And.intro (fun q => ?_) (fun q => ?_))
      · omega
      · refine hA 2 _ rfl _ _ _ _ _ ?_
        refine Exists.intro _ (And.intro (st_e (by omega) h1) ?_)
        refine And.intro rfl (ab_inv_ev (c_rowsOfGroup _ i rows (by omega) hr) (by decide) (Nat.le_refl _) (Nat.le_refl _) ?_)
        refine Exists.intro _ (Exists.intro _ (And.intro st_s (And.intro (by omega) ?_)))
        have := ih (i + 1) (by omega)
        rw [show ab_st σ (h + 1) (bmc (mix (i + 1) (fun i => rg i rows) g)) = ab_st (ab_st σ (h + 1) (bmc (mix i (fun i => rg i rows) g))) (h + 1) (.inr (.inl (0, 100, ab_up (fun j => ((mix i (fun i => rg i rows) g j : Nat) : Int)) i ((rg i rows : Nat) : Int)))) by rw [st_st, mix_s _ _ _ _ rfl]] at this
        exact this
  refine hA 0 _ rfl _ _ _ _ _ ?_
  have := loop 100 0 (by omega)
  rw [mix_0, st_id h2] at this
  exact this
set_option maxRecDepth 100000 in
set_option maxHeartbeats 1000000 in
theorem c_turnOver {σ : ab_H} {h : Nat} {g : Nat → Nat} (hB : IsB σ h g) (rows : Nat) (hr : rows ≤ 1500) : ab_ev 2 yX2_turnOver [rf h, .inl rows] σ none (ab_st σ (h + 1) (bmc (fun i => wo (rg i rows) (g i)))) := by
  refine hq_ev (σ' := ab_st σ (h + 1) (bmc (mix 100 (fun i => wo (rg i rows) (g i)) g))) ?_ mix_q
  obtain ⟨h1, h2, hg⟩ := id hB
  refine eX2_turnOver rfl (fun At hA => ?_)
  have loop : ∀ n i : Nat, i + n = 100 → At 1 [some (rf h), some (.inl rows), some (.inl i)] [] (ab_st σ (h + 1) (bmc (mix i (fun i => wo (rg i rows) (g i)) g))) 0 0 := by
    intro n
    induction n with
    | zero =>
      intro i hi
      refine hA 1 _ rfl _ _ _ _ _ ?_
      refine And.intro (And.intro (by first | assumption | exact b2i_R _ | exact rR (by omega) (by omega)) (by first | assumption | exact b2i_R _ | exact rR (by omega) (by omega))) (And.intro (fun q => ?_) (fun q => ?_))
      · refine hA 3 _ rfl _ _ _ _ _ ?_
        exact ⟨rfl, by rw [show i = 100 by omega]⟩
      · omega
    | succ n ih =>
      intro i hi
      refine hA 1 _ rfl _ _ _ _ _ ?_
      refine And.intro (And.intro (by first | assumption | exact b2i_R _ | exact rR (by omega) (by omega)) (by first | assumption | exact b2i_R _ | exact rR (by omega) (by omega))) (And.intro (fun q => ?_) (fun q => ?_))
      · omega
      · refine hA 2 _ rfl _ _ _ _ _ ?_
        refine Exists.intro _ (And.intro (st_e (by omega) h1) ?_)
        refine Exists.intro _ (And.intro (st_e (by omega) h1) ?_)
        refine Exists.intro _ (Exists.intro _ (And.intro st_s (And.intro (by omega) ?_)))
        refine And.intro rfl (ab_inv_ev (c_rowsOfGroup _ i rows (by omega) hr) (by decide) (Nat.le_refl _) (Nat.le_refl _) ?_)
        refine Exists.intro _ (Exists.intro _ (And.intro st_s (And.intro (by omega) ?_)))
        have := ih (i + 1) (by omega)
        have e1 : ab_and (ab_xor ((mix i (fun i => wo (rg i rows) (g i)) g i : Nat) : Int) (-1)) ((rg i rows : Nat) : Int) = ((wo (rg i rows) (g i) : Nat) : Int) := by
          have := hg i
          have := rg_lt i rows
          rw [mix_ge (Nat.le_refl i), nb_not' (by omega) (by omega)]
        rw [show ab_st σ (h + 1) (bmc (mix (i + 1) (fun i => wo (rg i rows) (g i)) g)) = ab_st (ab_st σ (h + 1) (bmc (mix i (fun i => wo (rg i rows) (g i)) g))) (h + 1) (.inr (.inl (0, 100, ab_up (fun j => ((mix i (fun i => wo (rg i rows) (g i)) g j : Nat) : Int)) i (ab_and (ab_xor ((mix i (fun i => wo (rg i rows) (g i)) g i : Nat) : Int) (-1)) ((rg i rows : Nat) : Int))))) by rw [st_st, mix_s i (fun i => wo (rg i rows) (g i)) g _ e1]] at this
        exact this
  refine hA 0 _ rfl _ _ _ _ _ ?_
  have := loop 100 0 (by omega)
  rw [mix_0, st_id h2] at this
  exact this
/-- logic of two masks -/
def jo (k : Nat) (a b : Nat) : Nat := match k with
  | 0 => a &&& b
  | 1 => a ||| b
  | 2 => a ^^^ b
  | _ => wo a b
theorem jo_lt {k a b : Nat} (ha : a < 32768) (hb : b < 32768) : jo k a b < 32768 := by
  unfold jo
  split
  · exact Nat.lt_of_le_of_lt Nat.and_le_left ha
  · exact Nat.or_lt_two_pow (n := 15) ha hb
  · exact Nat.xor_lt_two_pow (n := 15) ha hb
  · exact Nat.lt_of_le_of_lt (wo_le _ _) ha
/-- reading a bitmap that may be the one that is being written -/
theorem mix_rd {σ : ab_H} {h a : Nat} {g f u : Nat → Nat} {i : Nat} (hB : IsB σ h g) (hA : IsB σ a f) : (ab_st σ (h + 1) (bmc (mix i u g))).2 a = some (.inl (2, [rf (a + 1)])) ∧ ∃ v : Nat → Int, (ab_st σ (h + 1) (bmc (mix i u g))).2 (a + 1) = some (.inr (.inl (0, 100, v))) ∧ v i = ((f i : Nat) : Int) := by
  constructor
  · refine st_e (fun q => ?_) hA.1
    have hh := hB.2.1
    rw [← q] at hh
    cases hA.1.symm.trans hh
  · by_cases e : a = h
    · subst e
      refine ⟨_, st_s, ?_⟩
      have e2 := hA.2.1.symm.trans hB.2.1
      injection e2 with e2
      have e3 : (fun i => ((f i : Nat) : Int)) = fun i => ((g i : Nat) : Int) := by
        injection e2 with e2
        injection e2 with e2
        injection e2 with e4 e2
        injection e2
      have e4 := congrFun e3 i
      show ((mix i u g i : Nat) : Int) = _
      rw [mix_ge (Nat.le_refl i)]
      exact e4.symm
    · exact ⟨_, st_e (by omega) hA.2.1, rfl⟩
set_option maxRecDepth 100000 in
set_option maxHeartbeats 1000000 in
theorem c_becomeLogic {σ : ab_H} {h ha hb : Nat} {g a b : Nat → Nat} (hB : IsB σ h g) (hE : IsB σ ha a) (hC : IsB σ hb b) (k : Nat) (hk : k < 4) : ab_ev 1 yX2_becomeLogic [rf h, .inl k, rf ha, rf hb] σ none (ab_st σ (h + 1) (bmc (fun i => jo k (a i) (b i)))) := by
  refine hq_ev (σ' := ab_st σ (h + 1) (bmc (mix 100 (fun i => jo k (a i) (b i)) g))) ?_ mix_q
  obtain ⟨h1, h2, hg⟩ := id hB
  refine eX2_becomeLogic rfl (fun At hA => ?_)
  have loop : ∀ n i : Nat, i + n = 100 → ∀ v5 v6 : Option ab_V, At 1 [some (rf h), some (.inl k), some (rf ha), some (rf hb), some (.inl i), v5, v6] [] (ab_st σ (h + 1) (bmc (mix i (fun i => jo k (a i) (b i)) g))) 0 0 := by
    intro n
    induction n with
    | zero =>
      intro i hi v5 v6
      refine hA 1 _ rfl _ _ _ _ _ ?_
      refine And.intro (And.intro (by first | assumption | exact b2i_R _ | exact rR (by omega) (by omega)) (by first | assumption | exact b2i_R _ | exact rR (by omega) (by omega))) (And.intro (fun q => ?_) (fun q => ?_))
      · refine hA 8 _ rfl _ _ _ _ _ ?_
        exact ⟨rfl, by rw [show i = 100 by omega]⟩
      · omega
    | succ n ih =>
      intro i hi v5 v6
      obtain ⟨r1, va, r2, r3⟩ := mix_rd (i := i) (u := fun i => jo k (a i) (b i)) hB hE
      obtain ⟨s1, vb, s2, s3⟩ := mix_rd (i := i) (u := fun i => jo k (a i) (b i)) hB hC
      have hai := hE.2.2 i
      have hbi := hC.2.2 i
      refine hA 1 _ rfl _ _ _ _ _ ?_
      refine And.intro (And.intro (by first | assumption | exact b2i_R _ | exact rR (by omega) (by omega)) (by first | assumption | exact b2i_R _ | exact rR (by omega) (by omega))) (And.intro (fun q => ?_) (fun q => ?_))
      · omega
      · refine hA 2 _ rfl _ _ _ _ _ ?_
        refine Exists.intro _ (And.intro r1 ?_)
        refine Exists.intro _ (Exists.intro _ (And.intro r2 (And.intro (by omega) ?_)))
        refine Exists.intro _ (And.intro s1 ?_)
        refine Exists.intro _ (Exists.intro _ (And.intro s2 (And.intro (by omega) ?_)))
        have r3 : va ((i : Int).toNat) = ((a i : Nat) : Int) := r3
        have s3 : vb ((i : Int).toNat) = ((b i : Nat) : Int) := s3
        rw [r3, s3]
        have fin : ∀ z : Int, z = ((jo k (a i) (b i) : Nat) : Int) → At 7 [some (rf h), some (.inl k), some (rf ha), some (rf hb), some (.inl i), some (.inl (a i)), some (.inl (b i))] [] (ab_st (ab_st σ (h + 1) (bmc (mix i (fun i => jo k (a i) (b i)) g))) (h + 1) (.inr (.inl (0, 100, ab_up (fun j => ((mix i (fun i => jo k (a i) (b i)) g j : Nat) : Int)) i z)))) 0 0 := fun z hz => by
          refine hA 7 _ rfl _ _ _ _ _ ?_
          have := ih (i + 1) (by omega) (some (.inl (a i))) (some (.inl (b i)))
          rw [show ab_st σ (h + 1) (bmc (mix (i + 1) (fun i => jo k (a i) (b i)) g)) = ab_st (ab_st σ (h + 1) (bmc (mix i (fun i => jo k (a i) (b i)) g))) (h + 1) (.inr (.inl (0, 100, ab_up (fun j => ((mix i (fun i => jo k (a i) (b i)) g j : Nat) : Int)) i z))) by rw [st_st, mix_s i (fun i => jo k (a i) (b i)) g z hz]] at this
          exact this
        refine And.intro (rR (by omega) (by omega)) (And.intro (fun q => ?_) (fun q0 => And.intro (fun q => ?_) (fun q1 => And.intro (fun q => ?_) (fun q2 => ?_))))
        · refine hA 3 _ rfl _ _ _ _ _ ?_
          refine Exists.intro _ (And.intro (st_e (by omega) h1) ?_)
          refine Exists.intro _ (Exists.intro _ (And.intro st_s (And.intro (by omega) ?_)))
          have hk0 : k = 0 := by omega
          subst hk0
          exact fin _ (nb_and (by omega) (by omega))
        · refine hA 4 _ rfl _ _ _ _ _ ?_
          refine Exists.intro _ (And.intro (st_e (by omega) h1) ?_)
          refine Exists.intro _ (Exists.intro _ (And.intro st_s (And.intro (by omega) ?_)))
          have hk0 : k = 1 := by omega
          subst hk0
          exact fin _ (nb_or (by omega) (by omega))
        · refine hA 5 _ rfl _ _ _ _ _ ?_
          refine Exists.intro _ (And.intro (st_e (by omega) h1) ?_)
          refine Exists.intro _ (Exists.intro _ (And.intro st_s (And.intro (by omega) ?_)))
          have hk0 : k = 2 := by omega
          subst hk0
          exact fin _ (nb_xor (by omega) (by omega))
        · refine hA 6 _ rfl _ _ _ _ _ ?_
          refine Exists.intro _ (And.intro (st_e (by omega) h1) ?_)
          refine Exists.intro _ (Exists.intro _ (And.intro st_s (And.intro (by omega) ?_)))
          have hk0 : k = 3 := by omega
          subst hk0
          exact fin _ (nb_not (by omega) (by omega))
  refine hA 0 _ rfl _ _ _ _ _ ?_
  have := loop 100 0 (by omega) none none
  rw [mix_0, st_id h2] at this
  exact this
