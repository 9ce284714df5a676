-- ===== which bases are best =====
/-- how many components (0: none yet), the score, the bases -/
abbrev B3 : Type := Nat × Nat × (Nat → Nat)
def fb (s : Nat → B3 → B3) : Nat → Nat → B3 → B3
  | 0, _, B => B
  | n + 1, b, B => fb s n (b + 1) (s b B)
def upb (k card prod sc : Nat) (t : Nat → Nat) (B : B3) : B3 := if card ≤ prod ∧ sc < B.2.1 then (k, sc, t) else B
/-- all bases with r more components, in order: fewest bitmaps -/
def enF (k card : Nat) : Nat → Nat → Nat → Nat → (Nat → Nat) → B3 → B3
  | 0, _, prod, sum, t, B => upb k card prod sum t B
  | r + 1, i, prod, sum, t, B => fb (fun b B => enF k card r (i + 1) (prod * b) (sum + b - 1) (ab_up t i b) B) 199 2 B
/-- numbers below the card's last one with a digit -/
def nwd (N w b x : Nat) : Nat := N / (w * b) * w + min w (N % (w * b) - x * w)
def rdo (card i w b : Nat) : Nat := (card - 1 - nwd (card - 1) w b (b - 1)) + (if 0 < i then card - 1 - nwd (card - 1) w b 0 else 0)
/-- all bases with r more components that so many bitmaps allow, in order: fewest readings -/
def enS (k card : Nat) : Nat → Nat → Nat → Nat → Nat → (Nat → Nat) → B3 → B3
  | 0, _, prod, _, sc, t, B => upb k card prod sc t B
  | r + 1, i, prod, left, sc, t, B => fb (fun b B => enS k card r (i + 1) (prod * b) (left - (b - 1)) (sc + rdo card i prod b) (ab_up t i b) B) left 2 B
theorem fb_id {s : Nat → B3 → B3} {B : B3} : ∀ n b, (∀ j, b ≤ j → j < b + n → s j B = B) → fb s n b B = B := by
  intro n
  induction n with
  | zero => intro b _; rfl
  | succ n ih =>
    intro b h
    show fb s n (b + 1) (s b B) = B
    rw [h b (Nat.le_refl _) (by omega)]
    exact ih (b + 1) (fun j h1 h2 => h j (by omega) (by omega))
theorem upb_id {k card prod sc : Nat} {t : Nat → Nat} {B : B3} (h : B.2.1 ≤ sc) : upb k card prod sc t B = B := if_neg (by omega)
theorem enF_id {k card : Nat} : ∀ (r i prod sum : Nat) (t : Nat → Nat) (B : B3), B.2.1 ≤ sum + r → enF k card r i prod sum t B = B := by
  intro r
  induction r with
  | zero => intro i prod sum t B h; exact upb_id h
  | succ r ih =>
    intro i prod sum t B h
    exact fb_id 199 2 (fun j h1 h2 => ih _ _ _ _ B (by omega))
theorem enS_id {k card : Nat} : ∀ (r i prod left sc : Nat) (t : Nat → Nat) (B : B3), B.2.1 ≤ sc ∨ left < r → enS k card r i prod left sc t B = B := by
  intro r
  induction r with
  | zero =>
    intro i prod left sc t B h
    rcases h with h | h
    · exact upb_id h
    · omega
  | succ r ih =>
    intro i prod left sc t B h
    refine fb_id left 2 (fun j h1 h2 => ih _ _ _ _ _ B ?_)
    rcases h with h | h
    · exact Or.inl (by omega)
    · exact Or.inr (by omega)
theorem nwd_le (N w b x : Nat) (hw : 1 ≤ w) (hb : 1 ≤ b) : nwd N w b x ≤ N := by
  unfold nwd
  have h1 := Nat.div_add_mod N (w * b)
  have h2 : N / (w * b) * w ≤ w * b * (N / (w * b)) := by
    rw [Nat.mul_comm (N / (w * b)) w]
    have : w * 1 ≤ w * b := Nat.mul_le_mul_left w hb
    exact Nat.mul_le_mul_right _ (by omega)
  have h3 : min w (N % (w * b) - x * w) ≤ N % (w * b) := by omega
  omega
abbrev sec (card k bud bp sc : Int) : ab_C := .inl (1, [rf 51, rf 52, .inl card, .inl k, .inl bud, .inl bp, .inl sc])
def seA (a : Nat) : Prop := a = 50 ∨ a = 51 ∨ a = 52
/-- the cells of the search -/
def SE (τ : ab_H) (card k bud i : Nat) (t : Nat → Nat) (B : B3) : Prop := τ.2 50 = some (sec card k bud B.1 B.2.1) ∧ (∃ tt : Nat → Int, τ.2 51 = some (.inr (.inl (0, 4, tt))) ∧ ∀ j, j < i → tt j = t j) ∧ (∃ gg : Nat → Int, τ.2 52 = some (.inr (.inl (0, 4, gg))) ∧ ∀ j, j < B.1 → gg j = B.2.2 j) ∧ B.1 ≤ 4 ∧ B.2.1 ≤ 2147483647
section Search
variable {σ : ab_H} {card k bud : Nat}
set_option maxRecDepth 100000 in
set_option maxHeartbeats 1000000 in
theorem c_compareBest (t : Nat → Nat) (B : B3) (hS : SE σ card k bud k t B) (hk : k ≤ 4) (hc : card ≤ 200) (prod sc : Nat) (hp : prod < 2147483648) (hsc : sc < 2147483648) : ab_call 2 0 0 yX1_compareBest [rf 50, .inl prod, .inl sc] σ (fun r σ' => r = .inl none ∧ fr seA σ σ' ∧ SE σ' card k bud k t (upb k card prod sc t B)) := by
  obtain ⟨h50, ⟨tt, h51, ht⟩, ⟨gg, h52, hg⟩, hb4, hbs⟩ := id hS
  refine eX1_compareBest rfl (fun At hA => ?_)
  have k3 : upb k card prod sc t B = B → At 3 [some (rf 50), some (.inl prod), some (.inl sc)] [] σ 0 0 := fun h => by
    refine hA 3 _ rfl _ _ _ _ _ ?_
    rw [h]
    exact ⟨rfl, fr_rf _ _, hS⟩
  refine hA 0 _ rfl _ _ _ _ _ ?_
  refine Exists.intro _ (And.intro (by first | assumption | exact st_s | exact st_e (by decide) (by assumption) | exact st_e (by omega) (by assumption) | exact st_e (by decide) st_s | exact st_e (by omega) st_s | exact st_e (by decide) (st_e (by decide) (by assumption)) | exact st_e (by omega) (st_e (by omega) (by assumption))) ?_)
  refine And.intro (And.intro (by first | assumption | exact b2i_R _ | exact rR (by omega) (by omega) | exact rR (by simp only [Int.toNat_natCast]; omega) (by simp only [Int.toNat_natCast]; omega)) (by first | assumption | exact b2i_R _ | exact rR (by omega) (by omega) | exact rR (by simp only [Int.toNat_natCast]; omega) (by simp only [Int.toNat_natCast]; omega))) (And.intro (fun q => ?_) (fun q => ?_))
  · exact k3 (if_neg (by omega))
  · refine hA 1 _ rfl _ _ _ _ _ ?_
    refine Exists.intro _ (And.intro (by first | assumption | exact st_s | exact st_e (by decide) (by assumption) | exact st_e (by omega) (by assumption) | exact st_e (by decide) st_s | exact st_e (by omega) st_s | exact st_e (by decide) (st_e (by decide) (by assumption)) | exact st_e (by omega) (st_e (by omega) (by assumption))) ?_)
    refine And.intro (And.intro (by first | assumption | exact b2i_R _ | exact rR (by omega) (by omega) | exact rR (by simp only [Int.toNat_natCast]; omega) (by simp only [Int.toNat_natCast]; omega)) (by first | assumption | exact b2i_R _ | exact rR (by omega) (by omega) | exact rR (by simp only [Int.toNat_natCast]; omega) (by simp only [Int.toNat_natCast]; omega))) (And.intro (fun q => ?_) (fun q => ?_))
    · exact k3 (if_neg (by omega))
    · have e : upb k card prod sc t B = (k, sc, t) := if_pos (by omega)
      refine hA 2 _ rfl _ _ _ _ _ ?_
      refine Exists.intro _ (And.intro (by first | assumption | exact st_s | exact st_e (by decide) (by assumption) | exact st_e (by omega) (by assumption) | exact st_e (by decide) st_s | exact st_e (by omega) st_s | exact st_e (by decide) (st_e (by decide) (by assumption)) | exact st_e (by omega) (st_e (by omega) (by assumption))) ?_)
      refine Exists.intro _ (And.intro (by first | assumption | exact st_s | exact st_e (by decide) (by assumption) | exact st_e (by omega) (by assumption) | exact st_e (by decide) st_s | exact st_e (by omega) st_s | exact st_e (by decide) (st_e (by decide) (by assumption)) | exact st_e (by omega) (st_e (by omega) (by assumption))) ?_)
      refine Exists.intro _ (And.intro (by first | assumption | exact st_s | exact st_e (by decide) (by assumption) | exact st_e (by omega) (by assumption) | exact st_e (by decide) st_s | exact st_e (by omega) st_s | exact st_e (by decide) (st_e (by decide) (by assumption)) | exact st_e (by omega) (st_e (by omega) (by assumption))) ?_)
      refine Exists.intro _ (And.intro (by first | assumption | exact st_s | exact st_e (by decide) (by assumption) | exact st_e (by omega) (by assumption) | exact st_e (by decide) st_s | exact st_e (by omega) st_s | exact st_e (by decide) (st_e (by decide) (by assumption)) | exact st_e (by omega) (st_e (by omega) (by assumption))) ?_)
      refine Exists.intro _ (And.intro (by first | assumption | exact st_s | exact st_e (by decide) (by assumption) | exact st_e (by omega) (by assumption) | exact st_e (by decide) st_s | exact st_e (by omega) st_s | exact st_e (by decide) (st_e (by decide) (by assumption)) | exact st_e (by omega) (st_e (by omega) (by assumption))) ?_)
      refine Exists.intro _ (And.intro (by first | assumption | exact st_s | exact st_e (by decide) (by assumption) | exact st_e (by omega) (by assumption) | exact st_e (by decide) st_s | exact st_e (by omega) st_s | exact st_e (by decide) (st_e (by decide) (by assumption)) | exact st_e (by omega) (st_e (by omega) (by assumption))) ?_)
      refine Exists.intro _ (Exists.intro _ (Exists.intro _ (Exists.intro _ (And.intro (by first | assumption | exact st_s | exact st_e (by decide) (by assumption) | exact st_e (by omega) (by assumption) | exact st_e (by decide) st_s | exact st_e (by omega) st_s | exact st_e (by decide) (st_e (by decide) (by assumption)) | exact st_e (by omega) (st_e (by omega) (by assumption))) (And.intro (by first | assumption | exact st_s | exact st_e (by decide) (by assumption) | exact st_e (by omega) (by assumption) | exact st_e (by decide) st_s | exact st_e (by omega) st_s | exact st_e (by decide) (st_e (by decide) (by assumption)) | exact st_e (by omega) (st_e (by omega) (by assumption))) (And.intro (by omega) (And.intro rfl ?_)))))))
      refine hA 3 _ rfl _ _ _ _ _ ?_
      rw [e]
      refine ⟨rfl, (((fr_rf _ _).st (Or.inl rfl)).st (Or.inl rfl)).st (Or.inr (Or.inr rfl)), ?_, ⟨tt, st_e (by decide) (st_e (by decide) (st_e (by decide) h51)), ht⟩, ⟨_, st_s, fun j hj => ?_⟩, hk, by show sc ≤ _; omega⟩
      · exact st_e (by decide) st_s
      · have hj : j < k := hj
        unfold ab_cp
        rw [if_pos (by omega)]
        have : (Int.toNat 0 + (j - Int.toNat 0)) = j := by
          show 0 + (j - 0) = j
          omega
        rw [this]
        exact ht j hj
set_option maxRecDepth 100000 in
set_option maxHeartbeats 1000000 in
theorem c_numbersWith (h50 : ∃ a b c d : Int, σ.2 50 = some (sec card a b c d)) (hc : 2 ≤ card ∧ card ≤ 200) (x w b : Nat) (hx : x < b) (hw : 1 ≤ w) (hb : 2 ≤ b) (hwb : w * b < 2147483648) : ab_ev 2 yX1_numbersWith [rf 50, .inl x, .inl w, .inl b] σ (some (.inl (nwd (card - 1) w b x))) σ := by
  obtain ⟨a1, a2, a3, a4, h50⟩ := h50
  have e1 : (card : Int) - 1 = ((card - 1 : Nat) : Int) := by omega
  have e2 : (w : Int) * (b : Int) = ((w * b : Nat) : Int) := by rw [Int.natCast_mul]
  have hwb1 : 1 ≤ w * b := Nat.mul_pos hw (by omega)
  have hxw : x * w ≤ w * b := by rw [Nat.mul_comm x w]; exact Nat.mul_le_mul_left w (by omega)
  have e3 : (x : Int) * (w : Int) = ((x * w : Nat) : Int) := by rw [Int.natCast_mul]
  have hmod : (card - 1) % (w * b) < w * b := Nat.mod_lt _ hwb1
  have hwle : w ≤ w * b := Nat.le_mul_of_pos_right w (by omega)
  have hdiv : (card - 1) / (w * b) ≤ card - 1 := Nat.div_le_self _ _
  have hnw := nwd_le (card - 1) w b x hw (by omega)
  refine eX1_numbersWith rfl (fun At hA => ?_)
  have em : ((card : Int) - 1) % ((w : Int) * (b : Int)) = (((card - 1) % (w * b) : Nat) : Int) := by rw [e1, e2, ← Int.natCast_emod]
  have ed : ((card : Int) - 1) / ((w : Int) * (b : Int)) = (((card - 1) / (w * b) : Nat) : Int) := by rw [e1, e2, ← Int.natCast_ediv]
  have d1 : 0 ≤ (card : Int) - 1 ∧ ab_R ((card : Int) - 1) ∧ 0 < (w : Int) * (b : Int) ∧ ab_R ((w : Int) * (b : Int)) := by
    rw [e1, e2]
    exact ⟨by omega, rR (by omega) (by omega), by omega, rR (by omega) (by omega)⟩
  generalize hmm : (card - 1) % (w * b) = mm at hmod em
  generalize hdd : (card - 1) / (w * b) = dd at ed hdiv
  have d2 : ab_R (w : Int) ∧ ab_R (((card : Int) - 1) % ((w : Int) * (b : Int)) - (x : Int) * (w : Int)) ∧ 1 ≤ 2 := by
    rw [em, e3]
    exact ⟨rR (by omega) (by omega), rR (by omega) (by omega), by decide⟩
  have e5 : max (0 : Int) (min ((w : Nat) : Int) (((card : Int) - 1) % ((w : Int) * (b : Int)) - (x : Int) * (w : Int))) = ((min w (mm - x * w) : Nat) : Int) := by
    rw [em, e3]
    omega
  have d3 : ab_R (0 : Int) ∧ ab_R (min (w : Int) (((card : Int) - 1) % ((w : Int) * (b : Int)) - (x : Int) * (w : Int))) ∧ 1 ≤ 2 := by
    rw [em, e3]
    exact ⟨rR (by omega) (by omega), rR (by omega) (by omega), by decide⟩
  refine hA 0 _ rfl _ _ _ _ _ ?_
  refine Exists.intro _ (And.intro (h50) ?_)
  refine And.intro d1 (And.intro d1 (And.intro d2 (And.intro rfl (And.intro d3 (And.intro rfl ⟨?_, rfl⟩)))))
  show (Sum.inl (some (Sum.inl (((card : Int) - 1) / ((w : Int) * (b : Int)) * (w : Int) + max (0 : Int) (min ((w : Nat) : Int) (((card : Int) - 1) % ((w : Int) * (b : Int)) - (x : Int) * (w : Int)))))) : ab_O) = _
  rw [e5, ed]
  unfold nwd
  rw [hmm, hdd, Int.natCast_add, Int.natCast_mul]
set_option maxRecDepth 100000 in
set_option maxHeartbeats 1000000 in
theorem c_readingsOf (h50 : ∃ a b c d : Int, σ.2 50 = some (sec card a b c d)) (hc : 2 ≤ card ∧ card ≤ 200) (i w b : Nat) (hi : i < 4) (hw : 1 ≤ w) (hb : 2 ≤ b) (hwb : w * b < 2147483648) : ab_ev 3 yX1_readingsOf [rf 50, .inl i, .inl w, .inl b] σ (some (.inl (rdo card i w b))) σ := by
  obtain ⟨a1, a2, a3, a4, h50'⟩ := id h50
  have e1 : (card : Int) - 1 = ((card - 1 : Nat) : Int) := by omega
  have e2 : (b : Int) - 1 = ((b - 1 : Nat) : Int) := by omega
  have n1 := nwd_le (card - 1) w b (b - 1) hw (by omega)
  have n2 := nwd_le (card - 1) w b 0 hw (by omega)
  have c1 := c_numbersWith h50 hc (b - 1) w b (by omega) hw hb hwb
  have c2 := c_numbersWith h50 hc 0 w b (by omega) hw hb hwb
  rw [← e2] at c1
  refine eX1_readingsOf rfl (fun At hA => ?_)
  have k2 : ∀ (z : Int), z = rdo card i w b → At 2 [some (rf 50), some (.inl i), some (.inl w), some (.inl b), some (.inl ((card : Int) - 1)), some (.inl z)] [] σ 0 0 := fun z hz => by
    subst hz
    refine hA 2 _ rfl _ _ _ _ _ ?_
    exact ⟨rfl, rfl⟩
  refine hA 0 _ rfl _ _ _ _ _ ?_
  refine Exists.intro _ (And.intro (by first | assumption | exact st_s | exact st_e (by decide) (by assumption) | exact st_e (by omega) (by assumption) | exact st_e (by decide) st_s | exact st_e (by omega) st_s | exact st_e (by decide) (st_e (by decide) (by assumption)) | exact st_e (by omega) (st_e (by omega) (by assumption))) ?_)
  refine Exists.intro _ (And.intro (by first | assumption | exact st_s | exact st_e (by decide) (by assumption) | exact st_e (by omega) (by assumption) | exact st_e (by decide) st_s | exact st_e (by omega) st_s | exact st_e (by decide) (st_e (by decide) (by assumption)) | exact st_e (by omega) (st_e (by omega) (by assumption))) (And.intro rfl (ab_inv_ev c1 (by first | decide | omega) (by first | exact Nat.le_refl _ | omega) (by first | exact Nat.le_refl _ | omega) ?_)))
  refine And.intro (by first | assumption | exact b2i_R _ | exact rR (by omega) (by omega) | exact rR (by simp only [Int.toNat_natCast]; omega) (by simp only [Int.toNat_natCast]; omega)) (And.intro (fun q => ?_) (fun q => ?_))
  · refine k2 _ ?_
    unfold rdo
    rw [if_neg (by omega)]
    omega
  · refine hA 1 _ rfl _ _ _ _ _ ?_
    refine Exists.intro _ (And.intro (by first | assumption | exact st_s | exact st_e (by decide) (by assumption) | exact st_e (by omega) (by assumption) | exact st_e (by decide) st_s | exact st_e (by omega) st_s | exact st_e (by decide) (st_e (by decide) (by assumption)) | exact st_e (by omega) (st_e (by omega) (by assumption))) (And.intro rfl (ab_inv_ev c2 (by first | decide | omega) (by first | exact Nat.le_refl _ | omega) (by first | exact Nat.le_refl _ | omega) ?_)))
    refine k2 _ ?_
    unfold rdo
    rw [if_pos (by omega)]
    omega
/-- what the trying of one more component owes, with r to come behind it -/
abbrev GF (card k bud d r : Nat) : Prop := ∀ (i : Nat), i + r = k → ∀ (σ : ab_H) (prod sum : Nat) (t : Nat → Nat) (B : B3), prod ≤ 200 ^ i → sum ≤ 200 * i → SE σ card k bud i t B → ab_call d 0 0 yX1_goOnFewer [rf 50, .inl i, .inl prod, .inl sum] σ (fun r' σ' => r' = .inl none ∧ fr seA σ σ' ∧ SE σ' card k bud i t (enF k card r i prod sum t B))
set_option maxRecDepth 100000 in
set_option maxHeartbeats 1000000 in
theorem c_tryFewer1 (hc : card ≤ 200) (hk : k ≤ 4) (d r : Nat) (hg : GF card k bud d r) (i : Nat) (hi : i + (r + 1) = k) (σ : ab_H) (prod sum : Nat) (t : Nat → Nat) (B : B3) (hp : prod ≤ 200 ^ i) (hs : sum ≤ 200 * i) (hS : SE σ card k bud i t B) : ab_call (d + 1) 0 0 yX1_tryFewer [rf 50, .inl i, .inl prod, .inl sum] σ (fun r' σ' => r' = .inl none ∧ fr seA σ σ' ∧ SE σ' card k bud i t (enF k card (r + 1) i prod sum t B)) := by
  have hi4 : i < 4 := by omega
  have hp2 : 200 ^ i ≤ 200 ^ 3 := Nat.pow_le_pow_right (by omega) (by omega)
  have hp3 : (200 : Nat) ^ 3 = 8000000 := by decide
  have h50 := hS.1
  have hsc := hS.2.2.2.2
  generalize hF : enF k card (r + 1) i prod sum t B = F
  refine eX1_tryFewer rfl (fun At hA => ?_)
  have loop : ∀ (n b : Nat) (τ : ab_H) (B1 : B3), b + n = 201 → 2 ≤ b → fr seA σ τ → SE τ card k bud i t B1 → fb (fun b B => enF k card r (i + 1) (prod * b) (sum + b - 1) (ab_up t i b) B) n b B1 = F → At 1 [some (rf 50), some (.inl i), some (.inl prod), some (.inl sum), some (.inl ((k : Int) - i - 1)), some (.inl b)] [] τ 0 0 := by
    intro n
    induction n with
    | zero =>
      intro b τ B1 hb h2 hf hS1 hF1
      have q50 := hS1.1
      refine hA 1 _ rfl _ _ _ _ _ ?_
      refine And.intro (And.intro (by first | assumption | exact b2i_R _ | exact rR (by omega) (by omega) | exact rR (by simp only [Int.toNat_natCast]; omega) (by simp only [Int.toNat_natCast]; omega)) (by first | assumption | exact b2i_R _ | exact rR (by omega) (by omega) | exact rR (by simp only [Int.toNat_natCast]; omega) (by simp only [Int.toNat_natCast]; omega))) (And.intro (fun q => ?_) (fun q => ?_))
      · refine hA 4 _ rfl _ _ _ _ _ ?_
        exact ⟨rfl, hf, by rw [← hF1]; exact hS1⟩
      · omega
    | succ n ihn =>
      intro b τ B1 hb h2 hf hS1 hF1
      obtain ⟨q50, ⟨tt, q51, hq⟩, q52, q4, q5⟩ := id hS1
      refine hA 1 _ rfl _ _ _ _ _ ?_
      refine And.intro (And.intro (by first | assumption | exact b2i_R _ | exact rR (by omega) (by omega) | exact rR (by simp only [Int.toNat_natCast]; omega) (by simp only [Int.toNat_natCast]; omega)) (by first | assumption | exact b2i_R _ | exact rR (by omega) (by omega) | exact rR (by simp only [Int.toNat_natCast]; omega) (by simp only [Int.toNat_natCast]; omega))) (And.intro (fun q => ?_) (fun q => ?_))
      · omega
      · refine hA 2 _ rfl _ _ _ _ _ ?_
        refine Exists.intro _ (And.intro (by first | assumption | exact st_s | exact st_e (by decide) (by assumption) | exact st_e (by omega) (by assumption) | exact st_e (by decide) st_s | exact st_e (by omega) st_s | exact st_e (by decide) (st_e (by decide) (by assumption)) | exact st_e (by omega) (st_e (by omega) (by assumption))) ?_)
        refine And.intro (And.intro (by first | assumption | exact b2i_R _ | exact rR (by omega) (by omega) | exact rR (by simp only [Int.toNat_natCast]; omega) (by simp only [Int.toNat_natCast]; omega)) (by first | assumption | exact b2i_R _ | exact rR (by omega) (by omega) | exact rR (by simp only [Int.toNat_natCast]; omega) (by simp only [Int.toNat_natCast]; omega))) (And.intro (fun q => ?_) (fun q => ?_))
        · have : fb (fun b B => enF k card r (i + 1) (prod * b) (sum + b - 1) (ab_up t i b) B) (n + 1) b B1 = B1 := fb_id (n + 1) b (fun j h3 h4 => enF_id _ _ _ _ _ _ (by omega))
          rw [this] at hF1
          refine hA 4 _ rfl _ _ _ _ _ ?_
          exact ⟨rfl, hf, by rw [← hF1]; exact hS1⟩
        · have e1 : (i : Int) + 1 = ((i + 1 : Nat) : Int) := by omega
          have e2 : (prod : Int) * (b : Int) = ((prod * b : Nat) : Int) := by rw [Int.natCast_mul]
          have e3 : (sum : Int) + (b : Int) - 1 = ((sum + b - 1 : Nat) : Int) := by omega
          have hpb : prod * b ≤ 200 ^ (i + 1) := by rw [Nat.pow_succ]; exact Nat.mul_le_mul hp (by omega)
          have hS2 : SE (ab_st τ 51 (.inr (.inl (0, 4, ab_up tt i b)))) card k bud (i + 1) (ab_up t i b) B1 := ⟨st_e (by decide) q50, ⟨_, st_s, fun j hj => by
            by_cases e : j = i
            · rw [e, ab_up_s, ab_up_s]
            · rw [ab_up_n e, ab_up_n e]; exact hq j (by omega)⟩, by
            obtain ⟨gg, g1, g2⟩ := q52
            exact ⟨gg, st_e (by decide) g1, g2⟩, q4, q5⟩
          have hcall := hg (i + 1) (by omega) _ (prod * b) (sum + b - 1) (ab_up t i b) B1 hpb (by omega) hS2
          rw [← e1, ← e2, ← e3] at hcall
          refine hA 3 _ rfl _ _ _ _ _ ?_
          refine Exists.intro _ (And.intro (by first | assumption | exact st_s | exact st_e (by decide) (by assumption) | exact st_e (by omega) (by assumption) | exact st_e (by decide) st_s | exact st_e (by omega) st_s | exact st_e (by decide) (st_e (by decide) (by assumption)) | exact st_e (by omega) (st_e (by omega) (by assumption))) ?_)
          refine Exists.intro _ (Exists.intro _ (And.intro (by first | assumption | exact st_s | exact st_e (by decide) (by assumption) | exact st_e (by omega) (by assumption) | exact st_e (by decide) st_s | exact st_e (by omega) st_s | exact st_e (by decide) (st_e (by decide) (by assumption)) | exact st_e (by omega) (st_e (by omega) (by assumption))) (And.intro (by first | omega | (simp only [Int.toNat_natCast]; omega)) ?_)))
          refine Exists.intro _ (And.intro (by first | assumption | exact st_s | exact st_e (by decide) (by assumption) | exact st_e (by omega) (by assumption) | exact st_e (by decide) st_s | exact st_e (by omega) st_s | exact st_e (by decide) (st_e (by decide) (by assumption)) | exact st_e (by omega) (st_e (by omega) (by assumption))) (And.intro rfl (ab_inv_of hcall (by first | decide | omega) (by omega) (by omega) ?_)))
          intro r' υ hpost
          obtain ⟨rfl, g1, g2⟩ := hpost
          have e4 : ((b : Nat) : Int) + 1 = ((b + 1 : Nat) : Int) := by omega
          refine ihn (b + 1) υ _ (by omega) (by omega) ((hf.st (Or.inr (Or.inl rfl))).tr g1) ?_ hF1
          obtain ⟨u50, ⟨tt2, u51, hu⟩, u52, u4, u5⟩ := g2
          exact ⟨u50, ⟨tt2, u51, fun j hj => by rw [hu j (by omega), ab_up_n (by omega)]⟩, u52, u4, u5⟩
  refine hA 0 _ rfl _ _ _ _ _ ?_
  refine Exists.intro _ (And.intro (by first | assumption | exact st_s | exact st_e (by decide) (by assumption) | exact st_e (by omega) (by assumption) | exact st_e (by decide) st_s | exact st_e (by omega) st_s | exact st_e (by decide) (st_e (by decide) (by assumption)) | exact st_e (by omega) (st_e (by omega) (by assumption))) ?_)
  exact loop 199 2 σ B rfl (Nat.le_refl _) (fr_rf _ _) hS hF
set_option maxRecDepth 100000 in
set_option maxHeartbeats 1000000 in
theorem c_goOnFewer (hc : card ≤ 200) (hk : k ≤ 4) : ∀ r : Nat, GF card k bud (3 + 2 * r) r := by
  intro r
  induction r with
  | zero =>
    intro i hi σ prod sum t B hp hs hS
    have hi : i = k := by omega
    subst hi
    have hp2 : 200 ^ i ≤ 200 ^ 4 := Nat.pow_le_pow_right (by omega) hk
    have hp3 : (200 : Nat) ^ 4 = 1600000000 := by decide
    have h50 := hS.1
    refine eX1_goOnFewer rfl (fun At hA => ?_)
    have k3 : ∀ τ : ab_H, fr seA σ τ → SE τ card i bud i t (enF i card 0 i prod sum t B) → At 3 [some (rf 50), some (.inl i), some (.inl prod), some (.inl sum)] [] τ 0 0 := fun τ h1 h2 => by
      refine hA 3 _ rfl _ _ _ _ _ ?_
      exact ⟨rfl, h1, h2⟩
    refine hA 0 _ rfl _ _ _ _ _ ?_
    refine Exists.intro _ (And.intro (by first | assumption | exact st_s | exact st_e (by decide) (by assumption) | exact st_e (by omega) (by assumption) | exact st_e (by decide) st_s | exact st_e (by omega) st_s | exact st_e (by decide) (st_e (by decide) (by assumption)) | exact st_e (by omega) (st_e (by omega) (by assumption))) ?_)
    refine And.intro (And.intro (by first | assumption | exact b2i_R _ | exact rR (by omega) (by omega) | exact rR (by simp only [Int.toNat_natCast]; omega) (by simp only [Int.toNat_natCast]; omega)) (by first | assumption | exact b2i_R _ | exact rR (by omega) (by omega) | exact rR (by simp only [Int.toNat_natCast]; omega) (by simp only [Int.toNat_natCast]; omega))) (And.intro (fun q => ?_) (fun q => ?_))
    · refine hA 2 _ rfl _ _ _ _ _ ?_
      refine Exists.intro _ (And.intro (by first | assumption | exact st_s | exact st_e (by decide) (by assumption) | exact st_e (by omega) (by assumption) | exact st_e (by decide) st_s | exact st_e (by omega) st_s | exact st_e (by decide) (st_e (by decide) (by assumption)) | exact st_e (by omega) (st_e (by omega) (by assumption))) (And.intro rfl (ab_inv_of (c_compareBest t B hS hk hc prod sum (by omega) (by omega)) (by first | decide | omega) (by omega) (by omega) ?_)))
      intro r' τ hpost
      obtain ⟨rfl, h1, h2⟩ := hpost
      exact k3 τ h1 h2
    · omega
  | succ r ih =>
    intro i hi σ prod sum t B hp hs hS
    have h50 := hS.1
    have hcall := c_tryFewer1 hc hk (3 + 2 * r) r ih i hi σ prod sum t B hp hs hS
    refine eX1_goOnFewer rfl (fun At hA => ?_)
    have k3 : ∀ τ : ab_H, fr seA σ τ → SE τ card k bud i t (enF k card (r + 1) i prod sum t B) → At 3 [some (rf 50), some (.inl i), some (.inl prod), some (.inl sum)] [] τ 0 0 := fun τ h1 h2 => by
      refine hA 3 _ rfl _ _ _ _ _ ?_
      exact ⟨rfl, h1, h2⟩
    refine hA 0 _ rfl _ _ _ _ _ ?_
    refine Exists.intro _ (And.intro (by first | assumption | exact st_s | exact st_e (by decide) (by assumption) | exact st_e (by omega) (by assumption) | exact st_e (by decide) st_s | exact st_e (by omega) st_s | exact st_e (by decide) (st_e (by decide) (by assumption)) | exact st_e (by omega) (st_e (by omega) (by assumption))) ?_)
    refine And.intro (And.intro (by first | assumption | exact b2i_R _ | exact rR (by omega) (by omega) | exact rR (by simp only [Int.toNat_natCast]; omega) (by simp only [Int.toNat_natCast]; omega)) (by first | assumption | exact b2i_R _ | exact rR (by omega) (by omega) | exact rR (by simp only [Int.toNat_natCast]; omega) (by simp only [Int.toNat_natCast]; omega))) (And.intro (fun q => ?_) (fun q => ?_))
    · omega
    · refine hA 1 _ rfl _ _ _ _ _ ?_
      refine Exists.intro _ (And.intro (by first | assumption | exact st_s | exact st_e (by decide) (by assumption) | exact st_e (by omega) (by assumption) | exact st_e (by decide) st_s | exact st_e (by omega) st_s | exact st_e (by decide) (st_e (by decide) (by assumption)) | exact st_e (by omega) (st_e (by omega) (by assumption))) (And.intro rfl (ab_inv_of hcall (by first | decide | omega) (by omega) (by omega) ?_)))
      intro r' τ hpost
      obtain ⟨rfl, h1, h2⟩ := hpost
      exact k3 τ h1 h2
theorem c_tryFewer (hc : card ≤ 200) (hk : k ≤ 4) (r i : Nat) (hi : i + (r + 1) = k) (σ : ab_H) (prod sum : Nat) (t : Nat → Nat) (B : B3) (hp : prod ≤ 200 ^ i) (hs : sum ≤ 200 * i) (hS : SE σ card k bud i t B) : ab_call (3 + 2 * r + 1) 0 0 yX1_tryFewer [rf 50, .inl i, .inl prod, .inl sum] σ (fun r' σ' => r' = .inl none ∧ fr seA σ σ' ∧ SE σ' card k bud i t (enF k card (r + 1) i prod sum t B)) := c_tryFewer1 hc hk (3 + 2 * r) r (c_goOnFewer hc hk r) i hi σ prod sum t B hp hs hS
theorem rdo_le {c i w b : Nat} : rdo c i w b ≤ 2 * (c - 1) := by unfold rdo; split <;> omega
/-- what the trying of one more component owes, with r to come behind it -/
abbrev GS (card k bud d r : Nat) : Prop := ∀ (i : Nat), i + r = k → ∀ (σ : ab_H) (prod sum sc : Nat) (t : Nat → Nat) (B : B3), 1 ≤ prod → prod ≤ 25 ^ i → sum ≤ bud → sc ≤ 400 * i → SE σ card k bud i t B → ab_call d 0 0 yX1_goOnSwifter [rf 50, .inl i, .inl prod, .inl sum, .inl sc] σ (fun r' σ' => r' = .inl none ∧ fr seA σ σ' ∧ SE σ' card k bud i t (enS k card r i prod (bud - sum) sc t B))
set_option maxRecDepth 100000 in
set_option maxHeartbeats 1000000 in
theorem c_trySwifter1 (hc : 2 ≤ card ∧ card ≤ 200) (hk : k ≤ 4) (hbud : bud ≤ 24) (d r : Nat) (hd : 3 ≤ d) (hg : GS card k bud d r) (i : Nat) (hi : i + (r + 1) = k) (σ : ab_H) (prod sum sc : Nat) (t : Nat → Nat) (B : B3) (hp1 : 1 ≤ prod) (hp : prod ≤ 25 ^ i) (hs : sum ≤ bud) (hsc : sc ≤ 400 * i) (hS : SE σ card k bud i t B) : ab_call (d + 1) 0 0 yX1_trySwifter [rf 50, .inl i, .inl prod, .inl sum, .inl sc] σ (fun r' σ' => r' = .inl none ∧ fr seA σ σ' ∧ SE σ' card k bud i t (enS k card (r + 1) i prod (bud - sum) sc t B)) := by
  have hi4 : i < 4 := by omega
  have hp2 : 25 ^ i ≤ 25 ^ 3 := Nat.pow_le_pow_right (by omega) (by omega)
  have hp3 : (25 : Nat) ^ 3 = 15625 := by decide
  have h50 := hS.1
  generalize hF : enS k card (r + 1) i prod (bud - sum) sc t B = F
  refine eX1_trySwifter rfl (fun At hA => ?_)
  have loop : ∀ (n b : Nat) (τ : ab_H) (B1 : B3) (y8 : Option ab_V), b + n = bud - sum + 2 → 2 ≤ b → fr seA σ τ → SE τ card k bud i t B1 → fb (fun b B => enS k card r (i + 1) (prod * b) (bud - sum - (b - 1)) (sc + rdo card i prod b) (ab_up t i b) B) n b B1 = F → At 1 [some (rf 50), some (.inl i), some (.inl prod), some (.inl sum), some (.inl sc), some (.inl ((k : Int) - i - 1)), some (.inl ((bud : Int) - sum - ((k : Int) - i - 1) + 1)), some (.inl b), y8] [] τ 0 0 := by
    intro n
    induction n with
    | zero =>
      intro b τ B1 y8 hb h2 hf hS1 hF1
      have q50 := hS1.1
      refine hA 1 _ rfl _ _ _ _ _ ?_
      refine And.intro (And.intro (by first | assumption | exact b2i_R _ | exact rR (by omega) (by omega) | exact rR (by simp only [Int.toNat_natCast]; omega) (by simp only [Int.toNat_natCast]; omega)) (by first | assumption | exact b2i_R _ | exact rR (by omega) (by omega) | exact rR (by simp only [Int.toNat_natCast]; omega) (by simp only [Int.toNat_natCast]; omega))) (And.intro (fun q => ?_) (fun q => ?_))
      · refine hA 5 _ rfl _ _ _ _ _ ?_
        exact ⟨rfl, hf, by rw [← hF1]; exact hS1⟩
      · omega
    | succ n ihn =>
      intro b τ B1 y8 hb h2 hf hS1 hF1
      obtain ⟨q50, ⟨tt, q51, hq⟩, q52, q4, q5⟩ := id hS1
      refine hA 1 _ rfl _ _ _ _ _ ?_
      refine And.intro (And.intro (by first | assumption | exact b2i_R _ | exact rR (by omega) (by omega) | exact rR (by simp only [Int.toNat_natCast]; omega) (by simp only [Int.toNat_natCast]; omega)) (by first | assumption | exact b2i_R _ | exact rR (by omega) (by omega) | exact rR (by simp only [Int.toNat_natCast]; omega) (by simp only [Int.toNat_natCast]; omega))) (And.intro (fun q => ?_) (fun q => ?_))
      · have : fb (fun b B => enS k card r (i + 1) (prod * b) (bud - sum - (b - 1)) (sc + rdo card i prod b) (ab_up t i b) B) (n + 1) b B1 = B1 := fb_id (n + 1) b (fun j h3 h4 => enS_id _ _ _ _ _ _ _ (Or.inr (by omega)))
        rw [this] at hF1
        refine hA 5 _ rfl _ _ _ _ _ ?_
        exact ⟨rfl, hf, by rw [← hF1]; exact hS1⟩
      · have e1 : (i : Int) + 1 = ((i + 1 : Nat) : Int) := by omega
        have e2 : (prod : Int) * (b : Int) = ((prod * b : Nat) : Int) := by rw [Int.natCast_mul]
        have e3 : (sum : Int) + (b : Int) - 1 = ((sum + b - 1 : Nat) : Int) := by omega
        have e4 : (sc : Int) + ((rdo card i prod b : Nat) : Int) = ((sc + rdo card i prod b : Nat) : Int) := by omega
        have hb25 : b ≤ 25 := by omega
        have hpb : prod * b ≤ 25 ^ (i + 1) := by rw [Nat.pow_succ]; exact Nat.mul_le_mul hp hb25
        have hpw : prod * b ≤ 15625 * 25 := Nat.mul_le_mul (by omega) hb25
        have hrd := rdo_le (c := card) (i := i) (w := prod) (b := b)
        have k6 : ∀ (υ : ab_H) (B2 : B3) (y : Option ab_V), fr seA σ υ → SE υ card k bud i t B2 → enS k card r (i + 1) (prod * b) (bud - sum - (b - 1)) (sc + rdo card i prod b) (ab_up t i b) B1 = B2 → At 4 [some (rf 50), some (.inl i), some (.inl prod), some (.inl sum), some (.inl sc), some (.inl ((k : Int) - i - 1)), some (.inl ((bud : Int) - sum - ((k : Int) - i - 1) + 1)), some (.inl b), y] [] υ 0 0 := fun υ B2 y g1 g2 g3 => by
          have hF1 : fb (fun b B => enS k card r (i + 1) (prod * b) (bud - sum - (b - 1)) (sc + rdo card i prod b) (ab_up t i b) B) n (b + 1) (enS k card r (i + 1) (prod * b) (bud - sum - (b - 1)) (sc + rdo card i prod b) (ab_up t i b) B1) = F := hF1
          rw [g3] at hF1
          refine hA 4 _ rfl _ _ _ _ _ ?_
          exact ihn (b + 1) υ B2 y (by omega) (by omega) g1 g2 hF1
        have hcr := c_readingsOf (σ := τ) ⟨_, _, _, _, q50⟩ hc i prod b hi4 hp1 h2 (by omega)
        refine hA 2 _ rfl _ _ _ _ _ ?_
        refine Exists.intro _ (And.intro (by first | assumption | exact st_s | exact st_e (by decide) (by assumption) | exact st_e (by omega) (by assumption) | exact st_e (by decide) st_s | exact st_e (by omega) st_s | exact st_e (by decide) (st_e (by decide) (by assumption)) | exact st_e (by omega) (st_e (by omega) (by assumption))) (And.intro rfl (ab_inv_ev hcr (by first | decide | omega) (by first | exact Nat.le_refl _ | omega) (by first | exact Nat.le_refl _ | omega) ?_)))
        refine Exists.intro _ (And.intro (by first | assumption | exact st_s | exact st_e (by decide) (by assumption) | exact st_e (by omega) (by assumption) | exact st_e (by decide) st_s | exact st_e (by omega) st_s | exact st_e (by decide) (st_e (by decide) (by assumption)) | exact st_e (by omega) (st_e (by omega) (by assumption))) ?_)
        refine And.intro (And.intro (by first | assumption | exact b2i_R _ | exact rR (by omega) (by omega) | exact rR (by simp only [Int.toNat_natCast]; omega) (by simp only [Int.toNat_natCast]; omega)) (by first | assumption | exact b2i_R _ | exact rR (by omega) (by omega) | exact rR (by simp only [Int.toNat_natCast]; omega) (by simp only [Int.toNat_natCast]; omega))) (And.intro (fun q => ?_) (fun q => ?_))
        · exact k6 τ B1 _ hf hS1 (enS_id _ _ _ _ _ _ _ (Or.inl (by omega)))
        · have hS2 : SE (ab_st τ 51 (.inr (.inl (0, 4, ab_up tt i b)))) card k bud (i + 1) (ab_up t i b) B1 := ⟨st_e (by decide) q50, ⟨_, st_s, fun j hj => by
            by_cases e : j = i
            · rw [e, ab_up_s, ab_up_s]
            · rw [ab_up_n e, ab_up_n e]; exact hq j (by omega)⟩, by
            obtain ⟨gg, g1, g2⟩ := q52
            exact ⟨gg, st_e (by decide) g1, g2⟩, q4, q5⟩
          have hcall := hg (i + 1) (by omega) _ (prod * b) (sum + b - 1) (sc + rdo card i prod b) (ab_up t i b) B1 (Nat.mul_pos hp1 (by omega)) hpb (by omega) (by omega) hS2
          rw [← e1, ← e2, ← e3, ← e4] at hcall
          refine hA 3 _ rfl _ _ _ _ _ ?_
          refine Exists.intro _ (And.intro (by first | assumption | exact st_s | exact st_e (by decide) (by assumption) | exact st_e (by omega) (by assumption) | exact st_e (by decide) st_s | exact st_e (by omega) st_s | exact st_e (by decide) (st_e (by decide) (by assumption)) | exact st_e (by omega) (st_e (by omega) (by assumption))) ?_)
          refine Exists.intro _ (Exists.intro _ (And.intro (by first | assumption | exact st_s | exact st_e (by decide) (by assumption) | exact st_e (by omega) (by assumption) | exact st_e (by decide) st_s | exact st_e (by omega) st_s | exact st_e (by decide) (st_e (by decide) (by assumption)) | exact st_e (by omega) (st_e (by omega) (by assumption))) (And.intro (by first | omega | (simp only [Int.toNat_natCast]; omega)) ?_)))
          refine Exists.intro _ (And.intro (by first | assumption | exact st_s | exact st_e (by decide) (by assumption) | exact st_e (by omega) (by assumption) | exact st_e (by decide) st_s | exact st_e (by omega) st_s | exact st_e (by decide) (st_e (by decide) (by assumption)) | exact st_e (by omega) (st_e (by omega) (by assumption))) (And.intro rfl (ab_inv_of hcall (by first | decide | omega) (by omega) (by omega) ?_)))
          intro r' υ hpost
          obtain ⟨rfl, g1, g2⟩ := hpost
          refine k6 υ _ _ ((hf.st (Or.inr (Or.inl rfl))).tr g1) ?_ rfl
          obtain ⟨u50, ⟨tt2, u51, hu⟩, u52, u4, u5⟩ := g2
          rw [show bud - (sum + b - 1) = bud - sum - (b - 1) by omega] at u50 u52 u4 u5
          exact ⟨u50, ⟨tt2, u51, fun j hj => by rw [hu j (by omega), ab_up_n (by omega)]⟩, u52, u4, u5⟩
  refine hA 0 _ rfl _ _ _ _ _ ?_
  refine Exists.intro _ (And.intro (by first | assumption | exact st_s | exact st_e (by decide) (by assumption) | exact st_e (by omega) (by assumption) | exact st_e (by decide) st_s | exact st_e (by omega) st_s | exact st_e (by decide) (st_e (by decide) (by assumption)) | exact st_e (by omega) (st_e (by omega) (by assumption))) ?_)
  refine Exists.intro _ (And.intro (by first | assumption | exact st_s | exact st_e (by decide) (by assumption) | exact st_e (by omega) (by assumption) | exact st_e (by decide) st_s | exact st_e (by omega) st_s | exact st_e (by decide) (st_e (by decide) (by assumption)) | exact st_e (by omega) (st_e (by omega) (by assumption))) ?_)
  exact loop (bud - sum) 2 σ B _ (by omega) (Nat.le_refl _) (fr_rf _ _) hS hF
set_option maxRecDepth 100000 in
set_option maxHeartbeats 1000000 in
theorem c_goOnSwifter (hc : 2 ≤ card ∧ card ≤ 200) (hk : k ≤ 4) (hbud : bud ≤ 24) : ∀ r : Nat, GS card k bud (3 + 2 * r) r := by
  intro r
  induction r with
  | zero =>
    intro i hi σ prod sum sc t B hp1 hp hs hsc hS
    have hi : i = k := by omega
    subst hi
    have hp2 : 25 ^ i ≤ 25 ^ 4 := Nat.pow_le_pow_right (by omega) hk
    have hp3 : (25 : Nat) ^ 4 = 390625 := by decide
    have h50 := hS.1
    refine eX1_goOnSwifter rfl (fun At hA => ?_)
    have k3 : ∀ τ : ab_H, fr seA σ τ → SE τ card i bud i t (enS i card 0 i prod (bud - sum) sc t B) → At 3 [some (rf 50), some (.inl i), some (.inl prod), some (.inl sum), some (.inl sc)] [] τ 0 0 := fun τ h1 h2 => by
      refine hA 3 _ rfl _ _ _ _ _ ?_
      exact ⟨rfl, h1, h2⟩
    refine hA 0 _ rfl _ _ _ _ _ ?_
    refine Exists.intro _ (And.intro (by first | assumption | exact st_s | exact st_e (by decide) (by assumption) | exact st_e (by omega) (by assumption) | exact st_e (by decide) st_s | exact st_e (by omega) st_s | exact st_e (by decide) (st_e (by decide) (by assumption)) | exact st_e (by omega) (st_e (by omega) (by assumption))) ?_)
    refine And.intro (And.intro (by first | assumption | exact b2i_R _ | exact rR (by omega) (by omega) | exact rR (by simp only [Int.toNat_natCast]; omega) (by simp only [Int.toNat_natCast]; omega)) (by first | assumption | exact b2i_R _ | exact rR (by omega) (by omega) | exact rR (by simp only [Int.toNat_natCast]; omega) (by simp only [Int.toNat_natCast]; omega))) (And.intro (fun q => ?_) (fun q => ?_))
    · refine hA 2 _ rfl _ _ _ _ _ ?_
      refine Exists.intro _ (And.intro (by first | assumption | exact st_s | exact st_e (by decide) (by assumption) | exact st_e (by omega) (by assumption) | exact st_e (by decide) st_s | exact st_e (by omega) st_s | exact st_e (by decide) (st_e (by decide) (by assumption)) | exact st_e (by omega) (st_e (by omega) (by assumption))) (And.intro rfl (ab_inv_of (c_compareBest t B hS hk hc.2 prod sc (by omega) (by omega)) (by first | decide | omega) (by omega) (by omega) ?_)))
      intro r' τ hpost
      obtain ⟨rfl, h1, h2⟩ := hpost
      exact k3 τ h1 h2
    · omega
  | succ r ih =>
    intro i hi σ prod sum sc t B hp1 hp hs hsc hS
    have h50 := hS.1
    have hcall := c_trySwifter1 hc hk hbud (3 + 2 * r) r (by omega) ih i hi σ prod sum sc t B hp1 hp hs hsc hS
    refine eX1_goOnSwifter rfl (fun At hA => ?_)
    have k3 : ∀ τ : ab_H, fr seA σ τ → SE τ card k bud i t (enS k card (r + 1) i prod (bud - sum) sc t B) → At 3 [some (rf 50), some (.inl i), some (.inl prod), some (.inl sum), some (.inl sc)] [] τ 0 0 := fun τ h1 h2 => by
      refine hA 3 _ rfl _ _ _ _ _ ?_
      exact ⟨rfl, h1, h2⟩
    refine hA 0 _ rfl _ _ _ _ _ ?_
    refine Exists.intro _ (And.intro (by first | assumption | exact st_s | exact st_e (by decide) (by assumption) | exact st_e (by omega) (by assumption) | exact st_e (by decide) st_s | exact st_e (by omega) st_s | exact st_e (by decide) (st_e (by decide) (by assumption)) | exact st_e (by omega) (st_e (by omega) (by assumption))) ?_)
    refine And.intro (And.intro (by first | assumption | exact b2i_R _ | exact rR (by omega) (by omega) | exact rR (by simp only [Int.toNat_natCast]; omega) (by simp only [Int.toNat_natCast]; omega)) (by first | assumption | exact b2i_R _ | exact rR (by omega) (by omega) | exact rR (by simp only [Int.toNat_natCast]; omega) (by simp only [Int.toNat_natCast]; omega))) (And.intro (fun q => ?_) (fun q => ?_))
    · omega
    · refine hA 1 _ rfl _ _ _ _ _ ?_
      refine Exists.intro _ (And.intro (by first | assumption | exact st_s | exact st_e (by decide) (by assumption) | exact st_e (by omega) (by assumption) | exact st_e (by decide) st_s | exact st_e (by omega) st_s | exact st_e (by decide) (st_e (by decide) (by assumption)) | exact st_e (by omega) (st_e (by omega) (by assumption))) (And.intro rfl (ab_inv_of hcall (by first | decide | omega) (by omega) (by omega) ?_)))
      intro r' τ hpost
      obtain ⟨rfl, h1, h2⟩ := hpost
      exact k3 τ h1 h2
theorem c_trySwifter (hc : 2 ≤ card ∧ card ≤ 200) (hk : k ≤ 4) (hbud : bud ≤ 24) (r i : Nat) (hi : i + (r + 1) = k) (σ : ab_H) (prod sum sc : Nat) (t : Nat → Nat) (B : B3) (hp1 : 1 ≤ prod) (hp : prod ≤ 25 ^ i) (hs : sum ≤ bud) (hsc : sc ≤ 400 * i) (hS : SE σ card k bud i t B) : ab_call (3 + 2 * r + 1) 0 0 yX1_trySwifter [rf 50, .inl i, .inl prod, .inl sum, .inl sc] σ (fun r' σ' => r' = .inl none ∧ fr seA σ σ' ∧ SE σ' card k bud i t (enS k card (r + 1) i prod (bud - sum) sc t B)) := c_trySwifter1 hc hk hbud (3 + 2 * r) r (by omega) (c_goOnSwifter hc hk hbud r) i hi σ prod sum sc t B hp1 hp hs hsc hS
end Search
