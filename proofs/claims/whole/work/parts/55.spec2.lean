-- ===== the calls that write what nobody sees =====
def kfF (t : Nat → Nat) : Nat → Nat → Int → Int
  | 0, _, _ => -1
  | m + 1, v, left => if left < t v then (v : Nat) else kfF t m (v + 1) (left - t v)
def mdF (t : Nat → Nat) : Nat → Int × Nat
  | 0 => (-1, 0)
  | v + 1 => if (mdF t v).2 < t v then ((v : Nat), t v) else mdF t v
def hvF (t : Nat → Nat) : Nat → Int × Int
  | 0 => (-1, -1)
  | p + 1 => if (hvF t p).2 < t p then ((p + 1 : Nat), (t p : Nat)) else hvF t p
def mxF (t : Nat → Nat) : Nat → Nat
  | 0 => 0
  | v + 1 => max (mxF t v) (t v)
/-- readings of le for a number -/
def rdK (K : Nat → CT) (c v : Nat) : Nat := if (K c).2.1 ≤ v + 1 then 0 else sm (rdg (K c).1 (K c).2.2.2 v) (K c).2.2.1
section Spec2
variable (cc rows : Nat) (K : Nat → CT) (va : Nat → Nat → Nat) (R : Nat → V1)
def tlK (k res : Int) : Nat → Nat := tly (R res.toNat) (va k.toNat) rows
def sp_sum (k res : Int) : Int ⊕ Nat := if (0 ≤ k ∧ k < cc) ∧ 0 ≤ res ∧ res ≤ 6 then .inl (sm (fun v => v * tlK rows va R k res v) 200 : Nat) else .inr 0
def sp_kth (k res x : Int) : Int ⊕ Nat := if (0 ≤ k ∧ k < cc) ∧ 0 ≤ res ∧ res ≤ 6 then .inl (if x < 0 then -1 else kfF (tlK rows va R k res) 200 0 x) else .inr 0
def sp_mode (k res what : Int) : Int ⊕ Nat := if (0 ≤ k ∧ k < cc) ∧ 0 ≤ res ∧ res ≤ 6 then (if 0 ≤ what ∧ what ≤ 1 then .inl (if what = 0 then (mdF (tlK rows va R k res) 200).1 else ((mdF (tlK rows va R k res) 200).2 : Nat)) else .inr 1) else .inr 0
def sp_unlike (k res : Int) : Int ⊕ Nat := if (0 ≤ k ∧ k < cc) ∧ 0 ≤ res ∧ res ≤ 6 then .inl (cnt (fun v => decide (0 < tlK rows va R k res v)) 200 : Nat) else .inr 0
def sp_span (k res lo hi : Int) : Int ⊕ Nat := if (0 ≤ k ∧ k < cc) ∧ 0 ≤ res ∧ res ≤ 6 then (if 0 ≤ lo ∧ lo ≤ 999 ∧ 0 ≤ hi ∧ hi ≤ 999 then .inl (sm (fun v => if lo ≤ v ∧ v ≤ hi then tlK rows va R k res v else 0) 200 : Nat) else .inr 1) else .inr 0
def sp_heaviest (k what : Int) : Int ⊕ Nat := if 0 ≤ k ∧ k < cc then (if 0 ≤ what ∧ what ≤ 1 then .inl (if what = 0 then (hvF (wordsP (K k.toNat).1 (K k.toNat).2.2.2 (cbK K k.toNat (va k.toNat) rows) (gu rows)) (K k.toNat).2.2.1).1 else (hvF (wordsP (K k.toNat).1 (K k.toNat).2.2.2 (cbK K k.toNat (va k.toNat) rows) (gu rows)) (K k.toNat).2.2.1).2) else .inr 1) else .inr 0
def sp_readings (k what : Int) : Int ⊕ Nat := if 0 ≤ k ∧ k < cc then (if 0 ≤ what ∧ what ≤ 1 then .inl (if what = 0 then (sm (rdK K k.toNat) (K k.toNat).2.1 : Nat) else (mxF (rdK K k.toNat) (K k.toNat).2.1 : Nat)) else .inr 1) else .inr 0
def sp_thrift (card k what : Int) : Int ⊕ Nat := if ((2 ≤ card ∧ card ≤ 200) ∧ 1 ≤ k ∧ k ≤ 4) ∧ 0 ≤ what ∧ what ≤ 4 then .inl (tellF (enF k.toNat card.toNat k.toNat 0 1 0 (fun _ => 0) B0) what.toNat) else .inr 1
def sp_swift (card bud what : Int) : Int ⊕ Nat := if ((2 ≤ card ∧ card ≤ 200) ∧ 1 ≤ bud ∧ bud ≤ 24) ∧ 0 ≤ what ∧ what ≤ 4 then .inl (tellF (swB card.toNat bud.toNat 4) what.toNat) else .inr 1
/-- what a comparison costs -/
def costN (N : List N3) : C3 := (rnN rows K va R N [] (0, 0, 0)).2
def valN (N : List N3) : V1 := (rnN rows K va R N [] (0, 0, 0)).1.headD (fun _ => 0)
/-- with live at the end -/
def finC (N : List N3) : C3 := ((costN rows K va R N).1 + 1, (costN rows K va R N).2.1 + 1, (costN rows K va R N).2.2 + stp (gu rows) (valN rows K va R N) (R 6))
def finV (N : List N3) : V1 := jn 0 (valN rows K va R N) (R 6)
def sp_foretold (i k x what : Int) : Int ⊕ Nat := if 0 ≤ k ∧ k < cc then (if (0 ≤ i ∧ i ≤ 5 ∧ 0 ≤ x ∧ x ≤ 999) ∧ 0 ≤ what ∧ what ≤ 2 then .inl (if what = 0 then ((finC rows K va R (cmpN K i.toNat k.toNat x.toNat)).1 : Nat) else if what = 1 then ((finC rows K va R (cmpN K i.toNat k.toNat x.toNat)).2.1 : Nat) else ((finC rows K va R (cmpN K i.toNat k.toNat x.toNat)).2.2 : Nat)) else .inr 1) else .inr 0
end Spec2
theorem lay_fin {rows : Nat} {K : Nat → CT} {va : Nat → Nat → Nat} {R : Nat → V1} {N : List N3} {v : V1} {d : C3} (h : layN rows K va R N v d) : rnN rows K va R N [] (0, 0, 0) = ([valN rows K va R N], costN rows K va R N) := by
  have := h [] (0, 0, 0)
  unfold valN costN
  rw [this]
  rfl
section Scratch
variable {σ : ab_H} {cc rows : Nat} {K : Nat → CT} {va : Nat → Nat → Nat} {ad : Nat → Nat} {R : Nat → V1} {f : Nat → Int} {n : Nat} {pl : Int} {c : C3} {r : Nat → Nat}
/-- one part of the state is told anew -/
theorem CI.oth {σ' : ab_H} (h : CI σ cc rows K va ad R f n pl c r) (hf : fr (fun a => 50 ≤ a ∧ a ≤ 56) σ σ') (ho : OTH σ' c) : CI σ' cc rows K va ad R f n pl c r := by
  have hs := h.s
  have hg := hf.gr
  obtain ⟨h0, h1, h2, h3, h4, h5, h6⟩ := h
  exact ⟨(hf.2 0 (by omega)).trans h0, h1.gr hg hs (by omega), h2.gr hg hs (fun a _ => by omega), h3.gr hg hs (fun a _ _ => by omega), h4.gr hg hs (fun a _ _ => by omega), h5.gr hg hs (fun a _ _ => by omega), ho⟩
theorem CI.scr {σ' : ab_H} (h : CI σ cc rows K va ad R f n pl c r) (hf : fr (fun a => 6 ≤ a ∧ a ≤ 11) σ σ') (ho : SCR σ') : CI σ' cc rows K va ad R f n pl c r := by
  have hs := h.s
  have hg := hf.gr
  obtain ⟨h0, h1, h2, h3, h4, h5, h6⟩ := h
  exact ⟨(hf.2 0 (by omega)).trans h0, h1.gr hg hs (by omega), h2.gr hg hs (fun a _ => by omega), ho, h4.gr hg hs (fun a _ _ => by omega), h5.gr hg hs (fun a _ _ => by omega), h6.gr hg (fun a _ _ => by omega)⟩
theorem CI.qa {σ' : ab_H} (h : CI σ cc rows K va ad R f n pl c r) (hf : fr (fun a => 26 ≤ a ∧ a ≤ 49) σ σ') (ht : TXT σ') (ho : ANS σ') : CI σ' cc rows K va ad R f n pl c r := by
  have hs := h.s
  have hg := hf.gr
  obtain ⟨h0, h1, h2, h3, h4, h5, h6⟩ := h
  exact ⟨(hf.2 0 (by omega)).trans h0, h1.gr hg hs (by omega), h2.gr hg hs (fun a _ => by omega), h3.gr hg hs (fun a _ _ => by omega), ht, ho, h6.gr hg (fun a _ _ => by omega)⟩
theorem CI.sp (h : CI σ cc rows K va ad R f n pl c r) {g : V1} (hg : ∀ i, g i < 32768) : CI (ab_st σ 54 (bmc g)) cc rows K va ad R f n pl c r := by
  have ho := h.2.2.2.2.2.2
  obtain ⟨k1, ⟨s, k2⟩, ⟨g5, k3⟩, ⟨g6, k4, k4b⟩, k5⟩ := ho
  have hf : fr (fun a => a = 54) σ (ab_st σ 54 (bmc g)) := fr_st rfl
  exact h.oth (hf.mono (fun a ha => by omega)) ⟨k1.gr hf.gr k5 (fun a _ _ => by omega), ⟨g, k2.st hg⟩, ⟨g5, st_e (by decide) k3⟩, ⟨g6, st_e (by decide) k4, k4b⟩, k5⟩
theorem CI.t8 (h : CI σ cc rows K va ad R f n pl c r) {t : Nat → Nat} : CI (ab_st σ 8 (ints 200 t)) cc rows K va ad R f n pl c r := by
  have ho := h.2.2.2.1
  obtain ⟨⟨e, k1⟩, ⟨t0, k2⟩, ⟨ar, k3, k3b⟩, ⟨m, k4, k4b⟩, mb, k5⟩ := ho
  exact h.scr ((fr_st (A := fun a => a = 8) rfl).mono (fun a ha => by omega)) ⟨⟨e, k1.ne (by decide) (by decide)⟩, ⟨t, st_s⟩, ⟨ar, st_e (by decide) k3, k3b⟩, ⟨m, st_e (by decide) k4, k4b⟩, mb, st_e (by decide) k5⟩
theorem CI.sea (h : CI σ cc rows K va ad R f n pl c r) {σ' : ab_H} (hf : fr seA σ σ') (hS : SE0 σ') : CI σ' cc rows K va ad R f n pl c r := by
  have ho := h.2.2.2.2.2.2
  obtain ⟨k1, ⟨s, k2⟩, ⟨g5, k3⟩, ⟨g6, k4, k4b⟩, k5⟩ := ho
  have na : ∀ a, 53 ≤ a → ¬ seA a := fun a ha => by unfold seA; omega
  exact h.oth (hf.mono (fun a ha => by unfold seA at ha; omega)) ⟨hS, ⟨s, k2.fr hf (na _ (by omega)) (na _ (by omega))⟩, ⟨g5, (hf.2 _ (na _ (by omega))).trans k3⟩, ⟨g6, (hf.2 _ (na _ (by omega))).trans k4, k4b⟩, Nat.le_trans k5 (Nat.le_of_eq hf.1.symm)⟩
end Scratch
