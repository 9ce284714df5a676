-- ===== answers: bitmaps and what they cost =====
abbrev V1 : Type := Nat → Nat
abbrev C3 : Type := Nat × Nat × Nat
abbrev Z4 : Type := V1 × C3
def jn (k : Nat) (v w : V1) : V1 := fun i => jo k (v i) (w i)
def tn (rows : Nat) (v : V1) : V1 := fun i => wo (rg i rows) (v i)
def stp (u : Nat) (v w : V1) : Nat := cnt (fun i => sw v i || sw w i) u
def all1 (rows : Nat) : V1 := fun i => rg i rows
/-- a bitmap is read -/
def zbm (m : V1) (c : C3) : Z4 := (m, c.1 + 1, c.2.1, c.2.2)
/-- a bitmap is read and joined to it -/
def zjn (u k : Nat) (m : V1) (z : Z4) : Z4 := (jn k z.1 m, z.2.1 + 1, z.2.2.1 + 1, z.2.2.2 + stp u z.1 m)
def ztn (rows : Nat) (z : Z4) : Z4 := (tn rows z.1, z.2.1, z.2.2.1 + 1, z.2.2.2 + cnt (sw z.1) (gu rows))
/-- steps 1 to n -/
def zf (s : Nat → Z4 → Z4) (z : Z4) : Nat → Z4
  | 0 => z
  | n + 1 => s (n + 1) (zf s z n)
section LeafZ
variable (rows : Nat) (b : Nat → Nat) (B : Nat → Nat → V1)
def leRs (n p : Nat) (z : Z4) : Z4 :=
  let z1 := if dig b p n + 1 == b p then z else zjn (gu rows) 0 (B p (dig b p n)) z
  if dig b p n = 0 then z1 else zjn (gu rows) 1 (B p (dig b p n - 1)) z1
def leR0 (n : Nat) (c : C3) : Z4 := if dig b 0 n + 1 == b 0 then (all1 rows, c) else zbm (B 0 (dig b 0 n)) c
def leR (parts n : Nat) (c : C3) : Z4 := zf (leRs rows b B n) (leR0 rows b B n c) (parts - 1)
def leEs (n p : Nat) (z : Z4) : Z4 := zf (fun j => zjn (gu rows) 1 (B p (j - 1))) (zjn (gu rows) 0 (B p (dig b p n)) z) (dig b p n)
def leE0 (n : Nat) (c : C3) : Z4 := zf (fun j => zjn (gu rows) 1 (B 0 j)) (zbm (B 0 0) c) (dig b 0 n)
def leE (parts n : Nat) (c : C3) : Z4 := zf (leEs rows b B n) (leE0 rows b B n c) (parts - 1)
def digZ (ρ : Bool) (p x : Nat) (c : C3) : Z4 :=
  if (!ρ || x == 0) = true then zbm (B p x) c
  else if x + 1 == b p then ztn rows (zbm (B p (x - 1)) c)
  else zjn (gu rows) 2 (B p (x - 1)) (zbm (B p x) c)
def eqZs (ρ : Bool) (n p : Nat) (z : Z4) : Z4 :=
  let d := digZ rows b B ρ p (dig b p n) z.2
  (jn 0 z.1 d.1, d.2.1, d.2.2.1 + 1, d.2.2.2 + stp (gu rows) z.1 d.1)
def eqZ (ρ : Bool) (parts n : Nat) (c : C3) : Z4 := zf (eqZs rows b B ρ n) (digZ rows b B ρ 0 (dig b 0 n) c) (parts - 1)
end LeafZ
abbrev spc (c : C3) : ab_C := .inr (.inl (0, 3, fun j => if j = 0 then ((c.1 : Nat) : Int) else if j = 1 then ((c.2.1 : Nat) : Int) else ((c.2.2 : Nat) : Int)))
abbrev anc : ab_C := .inl (0, [rf 3, rf 34, rf 35, rf 37])
theorem spc_0 (R O S : Nat) : (.inr (.inl (0, 3, ab_up (fun j => if j = 0 then ((R : Nat) : Int) else if j = 1 then ((O : Nat) : Int) else ((S : Nat) : Int)) 0 ((R : Int) + 1))) : ab_C) = spc (R + 1, O, S) := by
  show (Sum.inr (Sum.inl (0, 3, _)) : ab_C) = Sum.inr (Sum.inl (0, 3, _))
  congr 4
  funext j
  unfold ab_up
  dsimp only
  by_cases h : j = 0
  · rw [if_pos h, if_pos h]; rfl
  · rw [if_neg h, if_neg h, if_neg h]
theorem spc_1 (R O S : Nat) : (.inr (.inl (0, 3, ab_up (fun j => if j = 0 then ((R : Nat) : Int) else if j = 1 then ((O : Nat) : Int) else ((S : Nat) : Int)) 1 ((O : Int) + 1))) : ab_C) = spc (R, O + 1, S) := by
  show (Sum.inr (Sum.inl (0, 3, _)) : ab_C) = Sum.inr (Sum.inl (0, 3, _))
  congr 4
  funext j
  unfold ab_up
  dsimp only
  by_cases h : j = 1
  · subst h; rfl
  · rw [if_neg h]
    by_cases h0 : j = 0
    · rw [if_pos h0, if_pos h0]
    · rw [if_neg h0, if_neg h0, if_neg h, if_neg h]
theorem spc_q {σ : ab_H} (R O S k : Nat) : hq_h (ab_st σ 37 (.inr (.inl (0, 3, ab_up (fun j => if j = 0 then ((R : Nat) : Int) else if j = 1 then ((O : Nat) : Int) else ((S : Nat) : Int)) 2 ((S : Int) + (k : Int)))))) (ab_st σ 37 (spc (R, O, S + k))) := hq_st (fun j hj => by
  unfold ab_up
  dsimp only
  by_cases h : j = 2
  · subst h
    rw [if_pos rfl]
    show _ = ((S + k : Nat) : Int)
    omega
  · rw [if_neg h]
    by_cases h0 : j = 0
    · rw [if_pos h0, if_pos h0]
    · rw [if_neg h0, if_neg h0, if_pos (show j = 1 by omega), if_pos (show j = 1 by omega)])
section Leaf
variable {σ : ab_H} {cc rows : Nat} {c : C3}
set_option maxRecDepth 100000 in
set_option maxHeartbeats 1000000 in
theorem c_read (h33 : σ.2 33 = some anc) (h37 : σ.2 37 = some (spc c)) (x : Nat) : ab_ev 1 yX0_read [rf 33, rf x] σ (some (rf x)) (ab_st σ 37 (spc (c.1 + 1, c.2.1, c.2.2))) := by
  refine eX0_read rfl (fun At hA => ?_)
  refine hA 0 _ rfl _ _ _ _ _ ?_
  refine Exists.intro _ (And.intro (by first | assumption | exact st_s | exact st_e (by decide) (by assumption) | exact st_e (by omega) (by assumption) | exact st_e (by decide) st_s | exact st_e (by omega) st_s | exact st_e (by decide) (st_e (by decide) (by assumption)) | exact st_e (by omega) (st_e (by omega) (by assumption))) ?_)
  refine Exists.intro _ (Exists.intro _ (And.intro (by first | assumption | exact st_s | exact st_e (by decide) (by assumption) | exact st_e (by omega) (by assumption) | exact st_e (by decide) st_s | exact st_e (by omega) st_s | exact st_e (by decide) (st_e (by decide) (by assumption)) | exact st_e (by omega) (st_e (by omega) (by assumption))) (And.intro (by first | omega | (simp only [Int.toNat_natCast]; omega)) ?_)))
  refine Exists.intro _ (Exists.intro _ (And.intro (by first | assumption | exact st_s | exact st_e (by decide) (by assumption) | exact st_e (by omega) (by assumption) | exact st_e (by decide) st_s | exact st_e (by omega) st_s | exact st_e (by decide) (st_e (by decide) (by assumption)) | exact st_e (by omega) (st_e (by omega) (by assumption))) (And.intro (by first | omega | (simp only [Int.toNat_natCast]; omega)) ?_)))
  refine ⟨rfl, ?_⟩
  rw [← spc_0]
  rfl
/-- the cell of what it costs, with more steps -/
def spk (c : C3) (k : Nat) : ab_C := .inr (.inl (0, 3, ab_up (fun j => if j = 0 then ((c.1 : Nat) : Int) else if j = 1 then ((c.2.1 : Nat) : Int) else ((c.2.2 : Nat) : Int)) 2 ((c.2.2 : Int) + (k : Int))))
theorem hq_st2 {τ υ : ab_H} {a : Nat} {x : ab_C} (h : hq_h τ υ) : hq_h (ab_st τ a x) (ab_st υ a x) := by
  refine ⟨h.1, fun b y hy => ?_⟩
  by_cases e : b = a
  · subst e
    rw [st_s] at hy
    cases hy
    exact ⟨_, st_s, Or.inl rfl⟩
  · rw [st_n e] at hy
    obtain ⟨z, hz, hc⟩ := h.2 b y hy
    exact ⟨z, (st_n e).trans hz, hc⟩
set_option maxRecDepth 100000 in
set_option maxHeartbeats 1000000 in
theorem c_join (h33 : σ.2 33 = some anc) (h3 : σ.2 3 = some (tbc cc rows)) (hr : rows ≤ 1500) (h37 : σ.2 37 = some (spc c)) (k : Nat) (hk : k < 4) {h o : Nat} {v w : V1} (hB : IsB σ h v) (hO : IsB σ o w) (hn : h ≠ 37 ∧ h + 1 ≠ 37 ∧ o ≠ 37 ∧ o + 1 ≠ 37) : ab_ev 3 yX0_join [rf 33, .inl k, rf h, rf o] σ none (ab_st (ab_st σ 37 (spc (c.1, c.2.1 + 1, c.2.2 + stp (gu rows) v w))) (h + 1) (bmc (jn k v w))) := by
  refine hq_ev (σ' := ab_st (ab_st σ 37 (spk (c.1, c.2.1 + 1, c.2.2) (stp (gu rows) v w))) (h + 1) (bmc (jn k v w))) ?_ (hq_st2 (spc_q _ _ _ _))
  have hB1 := hB.1
  have hO1 := hO.1
  have hgu := gu_le hr
  refine eX0_join rfl (fun At hA => ?_)
  refine hA 0 _ rfl _ _ _ _ _ ?_
  refine Exists.intro _ (And.intro (h33) ?_)
  refine Exists.intro _ (Exists.intro _ (And.intro (h37) (And.intro (by omega) ?_)))
  refine Exists.intro _ (Exists.intro _ (And.intro (h37) (And.intro (by omega) ?_)))
  have e1 := spc_1 c.1 c.2.1 c.2.2
  have q33 : ∀ x, (ab_st σ 37 x).2 33 = some anc := fun x => st_e (by decide) h33
  have q3 : ∀ x, (ab_st σ 37 x).2 3 = some (tbc cc rows) := fun x => st_e (by decide) h3
  have qB : ∀ x, IsB (ab_st σ 37 x) h v := fun x => hB.ne hn.1 hn.2.1
  have qO : ∀ x, IsB (ab_st σ 37 x) o w := fun x => hO.ne hn.2.2.1 hn.2.2.2
  refine Exists.intro _ (And.intro (q33 _) ?_)
  refine Exists.intro _ (Exists.intro _ (And.intro (st_s.trans (congrArg some e1)) (And.intro (by omega) ?_)))
  refine Exists.intro _ (And.intro (q33 _) ?_)
  refine Exists.intro _ (And.intro (q3 _) (And.intro rfl (ab_inv_ev (c_groupsUsed (q3 _) hr) (by first | decide | omega) (Nat.le_refl _) (Nat.le_refl _) ?_)))
  refine Exists.intro _ (And.intro (qB _).1 (And.intro rfl (ab_inv_ev (c_stepsWith (qB _) (qO _) (gu rows) hgu) (by first | decide | omega) (Nat.le_refl _) (Nat.le_refl _) ?_)))
  refine Exists.intro _ (Exists.intro _ (And.intro (st_s.trans (congrArg some e1)) (And.intro (by omega) ?_)))
  rw [st_st]
  refine Exists.intro _ (And.intro (qB _).1 (And.intro rfl (ab_inv_ev (c_becomeLogic (qB _) (qB _) (qO _) k hk) (by first | decide | omega) (Nat.le_refl _) (Nat.le_refl _) ?_)))
  exact ⟨rfl, rfl⟩
set_option maxRecDepth 100000 in
set_option maxHeartbeats 1000000 in
theorem c_turnAround (h33 : σ.2 33 = some anc) (h3 : σ.2 3 = some (tbc cc rows)) (hr : rows ≤ 1500) (h37 : σ.2 37 = some (spc c)) {h : Nat} {v : V1} (hB : IsB σ h v) (hn : h ≠ 37 ∧ h + 1 ≠ 37) : ab_ev 3 yX0_turnAround [rf 33, rf h] σ none (ab_st (ab_st σ 37 (spc (c.1, c.2.1 + 1, c.2.2 + cnt (sw v) (gu rows)))) (h + 1) (bmc (tn rows v))) := by
  refine hq_ev (σ' := ab_st (ab_st σ 37 (spk (c.1, c.2.1 + 1, c.2.2) (cnt (sw v) (gu rows)))) (h + 1) (bmc (tn rows v))) ?_ (hq_st2 (spc_q _ _ _ _))
  have hB1 := hB.1
  have hgu := gu_le hr
  refine eX0_turnAround rfl (fun At hA => ?_)
  refine hA 0 _ rfl _ _ _ _ _ ?_
  refine Exists.intro _ (And.intro (h33) ?_)
  refine Exists.intro _ (Exists.intro _ (And.intro (h37) (And.intro (by omega) ?_)))
  refine Exists.intro _ (Exists.intro _ (And.intro (h37) (And.intro (by omega) ?_)))
  have e1 := spc_1 c.1 c.2.1 c.2.2
  have q33 : ∀ x, (ab_st σ 37 x).2 33 = some anc := fun x => st_e (by decide) h33
  have q3 : ∀ x, (ab_st σ 37 x).2 3 = some (tbc cc rows) := fun x => st_e (by decide) h3
  have qB : ∀ x, IsB (ab_st σ 37 x) h v := fun x => hB.ne hn.1 hn.2
  refine Exists.intro _ (And.intro (q33 _) ?_)
  refine Exists.intro _ (Exists.intro _ (And.intro (st_s.trans (congrArg some e1)) (And.intro (by omega) ?_)))
  refine Exists.intro _ (And.intro (q33 _) ?_)
  refine Exists.intro _ (And.intro (q3 _) (And.intro rfl (ab_inv_ev (c_groupsUsed (q3 _) hr) (by first | decide | omega) (Nat.le_refl _) (Nat.le_refl _) ?_)))
  refine Exists.intro _ (And.intro (qB _).1 (And.intro rfl (ab_inv_ev (c_wordCount (qB _) (gu rows) hgu) (by first | decide | omega) (Nat.le_refl _) (Nat.le_refl _) ?_)))
  refine Exists.intro _ (Exists.intro _ (And.intro (st_s.trans (congrArg some e1)) (And.intro (by omega) ?_)))
  rw [st_st]
  refine Exists.intro _ (And.intro (q33 _) ?_)
  refine Exists.intro _ (And.intro (q3 _) ?_)
  refine Exists.intro _ (And.intro (qB _).1 (And.intro rfl (ab_inv_ev (c_turnOver (qB _) rows hr) (by first | decide | omega) (Nat.le_refl _) (Nat.le_refl _) ?_)))
  exact ⟨rfl, rfl⟩
end Leaf
