-- ===== the model's state =====
/-- what is kept in cells whose contents nobody asks for between calls -/
def shp (a : Nat) (x : ab_C) : Prop := if a < 280 then ∃ g : Nat → Int, x = iar 4 g else if a < 315 then ∃ g : Nat → Nat, x = bmc g else if a = 315 then ∃ g : Nat → Nat, x = ints 200 g else if a = 316 then ∃ g : Nat → Int, x = iar 1500 g else ∃ g : Nat → Int, x = iar 4 g
theorem shp_act {a : Nat} {g : Nat → Int} (h : a < 280) : shp a (iar 4 g) := by unfold shp; rw [if_pos h]; exact ⟨g, rfl⟩
theorem shp_bm {a : Nat} {g : Nat → Nat} (h : 280 < a) (h2 : a < 315) : shp a (bmc g) := by unfold shp; rw [if_neg (by omega), if_pos h2]; exact ⟨g, rfl⟩
theorem shp_of {g : Nat → Nat} : shp 315 (ints 200 g) := by unfold shp; rw [if_neg (by decide), if_neg (by decide), if_pos rfl]; exact ⟨g, rfl⟩
theorem shp_as {g : Nat → Int} : shp 316 (iar 1500 g) := by unfold shp; rw [if_neg (by decide), if_neg (by decide), if_neg (by decide), if_pos rfl]; exact ⟨g, rfl⟩
theorem shp_tb {a : Nat} {g : Nat → Int} (h : 316 < a) : shp a (iar 4 g) := by unfold shp; rw [if_neg (by omega), if_neg (by omega), if_neg (by omega), if_neg (by omega)]; exact ⟨g, rfl⟩
def SC (σ : ab_H) : Prop := ∀ a, 80 ≤ a → a ≤ 318 → a ≠ 280 → ∃ x, σ.2 a = some x ∧ shp a x
theorem SC.st {σ : ab_H} (h : SC σ) {a : Nat} {x : ab_C} (hx : shp a x) : SC (ab_st σ a x) := fun b h1 h2 h3 => by
  by_cases e : b = a
  · subst e; exact ⟨x, st_s, hx⟩
  · obtain ⟨y, k1, k2⟩ := h b h1 h2 h3
    exact ⟨y, st_e e k1, k2⟩
theorem SC.ne {σ : ab_H} (h : SC σ) {a : Nat} {x : ab_C} (hx : a < 80 ∨ a = 280 ∨ 318 < a) : SC (ab_st σ a x) := fun b h1 h2 h3 => by
  obtain ⟨y, k1, k2⟩ := h b h1 h2 h3
  exact ⟨y, st_e (by omega) k1, k2⟩
theorem SC.act {σ : ab_H} (h : SC σ) {a : Nat} (h1 : 80 ≤ a) (h2 : a < 280) : ∃ g : Nat → Int, σ.2 a = some (iar 4 g) := by
  obtain ⟨x, k1, k2⟩ := h a h1 (by omega) (by omega)
  unfold shp at k2
  rw [if_pos h2] at k2
  obtain ⟨g, rfl⟩ := k2
  exact ⟨g, k1⟩
theorem SC.bm {σ : ab_H} (h : SC σ) {a : Nat} (h1 : 280 < a) (h2 : a < 315) : ∃ g : Nat → Nat, σ.2 a = some (bmc g) := by
  obtain ⟨x, k1, k2⟩ := h a (by omega) (by omega) (by omega)
  unfold shp at k2
  rw [if_neg (by omega), if_pos h2] at k2
  obtain ⟨g, rfl⟩ := k2
  exact ⟨g, k1⟩
theorem SC.of {σ : ab_H} (h : SC σ) : ∃ g : Nat → Nat, σ.2 315 = some (ints 200 g) := by
  obtain ⟨x, k1, k2⟩ := h 315 (by omega) (by omega) (by omega)
  unfold shp at k2
  rw [if_neg (by decide), if_neg (by decide), if_pos rfl] at k2
  obtain ⟨g, rfl⟩ := k2
  exact ⟨g, k1⟩
theorem SC.as {σ : ab_H} (h : SC σ) : ∃ g : Nat → Int, σ.2 316 = some (iar 1500 g) := by
  obtain ⟨x, k1, k2⟩ := h 316 (by omega) (by omega) (by omega)
  unfold shp at k2
  rw [if_neg (by decide), if_neg (by decide), if_neg (by decide), if_pos rfl] at k2
  obtain ⟨g, rfl⟩ := k2
  exact ⟨g, k1⟩
theorem SC.tb {σ : ab_H} (h : SC σ) {a : Nat} (h1 : 316 < a) (h2 : a ≤ 318) : ∃ g : Nat → Int, σ.2 a = some (iar 4 g) := by
  obtain ⟨x, k1, k2⟩ := h a (by omega) (by omega) (by omega)
  unfold shp at k2
  rw [if_neg (by omega), if_neg (by omega), if_neg (by omega), if_neg (by omega)] at k2
  obtain ⟨g, rfl⟩ := k2
  exact ⟨g, k1⟩
/-- the cells that tell the model's state -/
def MC (σ : ab_H) (t : Nat → Int) (r : Nat → Nat) (f : Nat → Int) (co w : Nat → Nat → Int) (gn : Nat → Int) (R : Nat → V1) : Prop :=
  σ.2 57 = some (m10 t) ∧ σ.2 58 = some (ints 3 r) ∧ σ.2 59 = some (bya f) ∧ (σ.2 60 = some (rfs 61 4) ∧ ∀ c, c < 4 → σ.2 (61 + c) = some (iar 7 (co c))) ∧ (∃ g : Nat → Int, σ.2 65 = some (iar 7 g)) ∧ (σ.2 66 = some (rfs 67 4) ∧ ∀ c, c < 4 → σ.2 (67 + c) = some (iar 1500 (w c))) ∧ σ.2 71 = some (.inr (.inl (1, 1500, gn))) ∧ (σ.2 72 = some (rfs 73 6) ∧ ∀ k, k < 6 → σ.2 (73 + k) = some (bmc (R k))) ∧ σ.2 79 = some (rfs 80 200) ∧ σ.2 280 = some (rfs 281 32)
/-- what the numbers and the contents of arrays have to do with the state -/
def FX (cc rows : Nat) (K : Nat → CT) (va : Nat → Nat → Nat) (R : Nat → V1) (n : Nat) (pl : Int) (c : C3) (t : Nat → Int) (co w : Nat → Nat → Int) (gn : Nat → Int) (th : Int) : Prop :=
  (t 0 = th ∧ t 2 = n ∧ t 5 = pl ∧ t 12 = cc ∧ t 13 = rows ∧ t 24 = c.1 ∧ t 25 = c.2.1 ∧ t 26 = c.2.2) ∧ (∀ k, k < cc → co k 0 = (K k).2.1 ∧ co k 1 = (K k).2.2.1 ∧ co k 2 = b2i (K k).1 ∧ ∀ p, p < (K k).2.2.1 → co k (3 + p) = (K k).2.2.2 p) ∧ (∀ k, k < cc → ∀ x, x < rows → w k x = va k x) ∧ ∀ x, x < rows → gn x = b2i (!bit (R 6) x)
/-- what every state keeps -/
def WS (cc rows : Nat) (K : Nat → CT) (va : Nat → Nat → Nat) (R : Nat → V1) (f : Nat → Int) (n : Nat) : Prop :=
  cc ≤ 4 ∧ rows ≤ 1500 ∧ (∀ k, k < cc → okb (K k).2.1 (K k).2.2.1 (K k).2.2.2 ∧ ∀ x, va k x < 200) ∧ (∀ i, i < 7 → hi0 rows (R i)) ∧ byR f ∧ n ≤ 400
def MI (σ : ab_H) (cc rows : Nat) (K : Nat → CT) (va : Nat → Nat → Nat) (R : Nat → V1) (f : Nat → Int) (n : Nat) (pl : Int) (c : C3) (t : Nat → Int) (r : Nat → Nat) (th : Int) : Prop :=
  WS cc rows K va R f n ∧ SC σ ∧ ∃ co w gn, MC σ t r f co w gn R ∧ FX cc rows K va R n pl c t co w gn th
def MS (σ : ab_H) (S : St) (r : Nat → Nat) (th : Int) : Prop := match S with
  | (cc, rows, K, va, R, f, n, pl, c) => ∃ t, MI σ cc rows K va R f n pl c t r th
def mA (a : Nat) : Prop := 57 ≤ a ∧ a ≤ 318
/-- how a call of the model ends -/
def mdP (σ : ab_H) (S : St) (r : Nat → Nat) (e : Nat → Int) (o : (Int × St) ⊕ Nat) (z : ab_O) (σ' : ab_H) : Prop := fr mA σ σ' ∧ match o with
  | .inl (x, S') => z = .inl (some (.inl x)) ∧ MS σ' S' r 0
  | .inr i => (∃ x, z = .inl (some (.inl x))) ∧ MS σ' S (ab_up r i (r i + 1)) (e i)
theorem CI.ws {σ : ab_H} {cc rows : Nat} {K : Nat → CT} {va : Nat → Nat → Nat} {ad : Nat → Nat} {R : Nat → V1} {f : Nat → Int} {n : Nat} {pl : Int} {c : C3} {r : Nat → Nat} (h : CI σ cc rows K va ad R f n pl c r) : WS cc rows K va R f n := by
  obtain ⟨-, ⟨-, -, h1, h2⟩, ⟨-, h3, -, h4, h5, h6⟩, -⟩ := h
  exact ⟨h4.1, h3, fun k hk => ⟨(h4.2.2 k hk).1, (h4.2.2 k hk).2.1⟩, fun i hi => ⟨(h5 i hi).2.2, h6 i hi⟩, h1, h2⟩
section Mst
variable {σ : ab_H} {cc rows : Nat} {K : Nat → CT} {va : Nat → Nat → Nat} {R : Nat → V1} {f : Nat → Int} {n : Nat} {pl : Int} {c : C3} {t : Nat → Int} {r : Nat → Nat} {th : Int}
theorem MC.st {co w : Nat → Nat → Int} {gn : Nat → Int} (h : MC σ t r f co w gn R) {a : Nat} {x : ab_C} (h1 : 80 ≤ a) (h2 : a ≠ 280) : MC (ab_st σ a x) t r f co w gn R := by
  obtain ⟨k1, k2, k3, ⟨k4, k5⟩, ⟨g, k6⟩, ⟨k7, k8⟩, k9, ⟨l1, l2⟩, l3, l4⟩ := h
  exact ⟨st_e (by omega) k1, st_e (by omega) k2, st_e (by omega) k3, ⟨st_e (by omega) k4, fun c hc => st_e (by omega) (k5 c hc)⟩, ⟨g, st_e (by omega) k6⟩, ⟨st_e (by omega) k7, fun c hc => st_e (by omega) (k8 c hc)⟩, st_e (by omega) k9, ⟨st_e (by omega) l1, fun c hc => st_e (by omega) (l2 c hc)⟩, st_e (by omega) l3, st_e (by omega) l4⟩
theorem MC.ut {co w : Nat → Nat → Int} {gn : Nat → Int} (h : MC σ t r f co w gn R) (t' : Nat → Int) : MC (ab_st σ 57 (m10 t')) t' r f co w gn R := by
  obtain ⟨k1, k2, k3, ⟨k4, k5⟩, ⟨g, k6⟩, ⟨k7, k8⟩, k9, ⟨l1, l2⟩, l3, l4⟩ := h
  exact ⟨st_s, st_e (by omega) k2, st_e (by omega) k3, ⟨st_e (by omega) k4, fun c hc => st_e (by omega) (k5 c hc)⟩, ⟨g, st_e (by omega) k6⟩, ⟨st_e (by omega) k7, fun c hc => st_e (by omega) (k8 c hc)⟩, st_e (by omega) k9, ⟨st_e (by omega) l1, fun c hc => st_e (by omega) (l2 c hc)⟩, st_e (by omega) l3, st_e (by omega) l4⟩
theorem MC.ur {co w : Nat → Nat → Int} {gn : Nat → Int} (h : MC σ t r f co w gn R) (r' : Nat → Nat) : MC (ab_st σ 58 (ints 3 r')) t r' f co w gn R := by
  obtain ⟨k1, k2, k3, ⟨k4, k5⟩, ⟨g, k6⟩, ⟨k7, k8⟩, k9, ⟨l1, l2⟩, l3, l4⟩ := h
  exact ⟨st_e (by omega) k1, st_s, st_e (by omega) k3, ⟨st_e (by omega) k4, fun c hc => st_e (by omega) (k5 c hc)⟩, ⟨g, st_e (by omega) k6⟩, ⟨st_e (by omega) k7, fun c hc => st_e (by omega) (k8 c hc)⟩, st_e (by omega) k9, ⟨st_e (by omega) l1, fun c hc => st_e (by omega) (l2 c hc)⟩, st_e (by omega) l3, st_e (by omega) l4⟩
theorem MI.h57 (hI : MI σ cc rows K va R f n pl c t r th) : σ.2 57 = some (m10 t) := hI.2.2.elim fun _ h => h.elim fun _ h => h.elim fun _ h => h.1.1
theorem MI.h58 (hI : MI σ cc rows K va R f n pl c t r th) : σ.2 58 = some (ints 3 r) := hI.2.2.elim fun _ h => h.elim fun _ h => h.elim fun _ h => h.1.2.1
theorem MI.h59 (hI : MI σ cc rows K va R f n pl c t r th) : σ.2 59 = some (bya f) := hI.2.2.elim fun _ h => h.elim fun _ h => h.elim fun _ h => h.1.2.2.1
theorem MI.t0 (hI : MI σ cc rows K va R f n pl c t r th) : t 0 = th := hI.2.2.elim fun _ h => h.elim fun _ h => h.elim fun _ h => h.2.1.1
theorem MI.t2 (hI : MI σ cc rows K va R f n pl c t r th) : t 2 = n := hI.2.2.elim fun _ h => h.elim fun _ h => h.elim fun _ h => h.2.1.2.1
theorem MI.t5 (hI : MI σ cc rows K va R f n pl c t r th) : t 5 = pl := hI.2.2.elim fun _ h => h.elim fun _ h => h.elim fun _ h => h.2.1.2.2.1
theorem MI.t12 (hI : MI σ cc rows K va R f n pl c t r th) : t 12 = cc := hI.2.2.elim fun _ h => h.elim fun _ h => h.elim fun _ h => h.2.1.2.2.2.1
theorem MI.t13 (hI : MI σ cc rows K va R f n pl c t r th) : t 13 = rows := hI.2.2.elim fun _ h => h.elim fun _ h => h.elim fun _ h => h.2.1.2.2.2.2.1
theorem MI.tc (hI : MI σ cc rows K va R f n pl c t r th) : t 24 = c.1 ∧ t 25 = c.2.1 ∧ t 26 = c.2.2 := hI.2.2.elim fun _ h => h.elim fun _ h => h.elim fun _ h => h.2.1.2.2.2.2.2
theorem MI.hr (hI : MI σ cc rows K va R f n pl c t r th) : rows ≤ 1500 := hI.1.2.1
theorem MI.hc (hI : MI σ cc rows K va R f n pl c t r th) : cc ≤ 4 := hI.1.1
theorem MI.hR (hI : MI σ cc rows K va R f n pl c t r th) {i : Nat} (hi : i < 7) : hi0 rows (R i) := hI.1.2.2.2.1 i hi
theorem MI.k (hI : MI σ cc rows K va R f n pl c t r th) {k : Nat} (hk : k < cc) : MK σ k (K k) := by
  obtain ⟨⟨w1, w2, w3, -⟩, -, co, w, gn, ⟨-, -, -, ⟨k4, k5⟩, -⟩, -, f2, -⟩ := hI
  have := f2 k hk
  exact ⟨by omega, (w3 k hk).1, k4, co k, k5 k (by omega), this.1, this.2.1, this.2.2.1, this.2.2.2⟩
theorem MI.v (hI : MI σ cc rows K va R f n pl c t r th) {k : Nat} (hk : k < cc) : MV σ k rows (va k) := by
  obtain ⟨⟨w1, w2, w3, -⟩, -, co, w, gn, ⟨-, -, -, -, -, ⟨k4, k5⟩, -⟩, -, -, f3, -⟩ := hI
  exact ⟨k4, w k, k5 k (by omega), f3 k hk, (w3 k hk).2⟩
theorem MI.g (hI : MI σ cc rows K va R f n pl c t r th) : MG σ rows (R 6) := by
  obtain ⟨-, -, co, w, gn, ⟨-, -, -, -, -, -, k9, -⟩, -, -, -, f4⟩ := hI
  exact ⟨gn, k9, f4⟩
theorem MI.h72 (hI : MI σ cc rows K va R f n pl c t r th) : σ.2 72 = some (rfs 73 6) := hI.2.2.elim fun _ h => h.elim fun _ h => h.elim fun _ h => h.1.2.2.2.2.2.2.2.1.1
theorem MI.rs (hI : MI σ cc rows K va R f n pl c t r th) {k : Nat} (hk : k < 6) : σ.2 (73 + k) = some (bmc (R k)) := hI.2.2.elim fun _ h => h.elim fun _ h => h.elim fun _ h => h.1.2.2.2.2.2.2.2.1.2 k hk
theorem MI.h79 (hI : MI σ cc rows K va R f n pl c t r th) : σ.2 79 = some (rfs 80 200) := hI.2.2.elim fun _ h => h.elim fun _ h => h.elim fun _ h => h.1.2.2.2.2.2.2.2.2.1
theorem MI.h280 (hI : MI σ cc rows K va R f n pl c t r th) : σ.2 280 = some (rfs 281 32) := hI.2.2.elim fun _ h => h.elim fun _ h => h.elim fun _ h => h.1.2.2.2.2.2.2.2.2.2
theorem MI.sc (hI : MI σ cc rows K va R f n pl c t r th) : SC σ := hI.2.1
theorem MI.st (hI : MI σ cc rows K va R f n pl c t r th) {a : Nat} {x : ab_C} (h1 : 80 ≤ a) (h2 : a ≠ 280) (hx : shp a x) : MI (ab_st σ a x) cc rows K va R f n pl c t r th := by
  obtain ⟨w, s, co, v, gn, h, fx⟩ := hI
  exact ⟨w, s.st hx, co, v, gn, h.st h1 h2, fx⟩
/-- other numbers of the object are free -/
theorem MI.tt (hI : MI σ cc rows K va R f n pl c t r th) {t' : Nat → Int} {th' : Int} (h0 : t' 0 = th') (h : ∀ j, j = 2 ∨ j = 5 ∨ j = 12 ∨ j = 13 ∨ j = 24 ∨ j = 25 ∨ j = 26 → t' j = t j) : MI (ab_st σ 57 (m10 t')) cc rows K va R f n pl c t' r th' := by
  obtain ⟨w, s, co, v, gn, hm, ⟨f0, f1, f2, f3, f4, f5, f6, f7⟩, fx⟩ := hI
  exact ⟨w, s.ne (by omega), co, v, gn, hm.ut t', ⟨h0, (h 2 (by omega)).trans f1, (h 5 (by omega)).trans f2, (h 12 (by omega)).trans f3, (h 13 (by omega)).trans f4, (h 24 (by omega)).trans f5, (h 25 (by omega)).trans f6, (h 26 (by omega)).trans f7⟩, fx⟩
theorem MI.uth (hI : MI σ cc rows K va R f n pl c t r th) (z : Int) : MI (ab_st σ 57 (m10 (ab_up t 0 z))) cc rows K va R f n pl c (ab_up t 0 z) r z := hI.tt ab_up_s (fun j hj => ab_up_n (by omega))
theorem MI.ur (hI : MI σ cc rows K va R f n pl c t r th) (r' : Nat → Nat) : MI (ab_st σ 58 (ints 3 r')) cc rows K va R f n pl c t r' th := by
  obtain ⟨w, s, co, v, gn, hm, fx⟩ := hI
  exact ⟨w, s.ne (by omega), co, v, gn, hm.ur r', fx⟩
end Mst
-- the object with one number changed
section Up
variable {σ : ab_H} {t : Nat → Int} {z : Int}
abbrev l10 (t : Nat → Int) : List ab_V := [.inl (t 0), rf 58, .inl (t 2), .inl (t 3), .inl (t 4), .inl (t 5), .inl (t 6), .inl (t 7), .inl (t 8), rf 59, rf 60, rf 65, .inl (t 12), .inl (t 13), rf 66, rf 71, rf 72, rf 79, .inl (t 18), rf 280, .inl (t 20), .inl (t 21), .inl (t 22), .inl (t 23), .inl (t 24), .inl (t 25), .inl (t 26), rf 313, rf 314, rf 315, rf 316, rf 317, rf 318, .inl (t 33), .inl (t 34)]
theorem m10_s0 : ab_st σ 57 (.inl (10, (l10 t).set 0 (.inl z))) = ab_st σ 57 (m10 (ab_up t 0 z)) := rfl
theorem m10_s2 : ab_st σ 57 (.inl (10, (l10 t).set 2 (.inl z))) = ab_st σ 57 (m10 (ab_up t 2 z)) := rfl
theorem m10_s3 : ab_st σ 57 (.inl (10, (l10 t).set 3 (.inl z))) = ab_st σ 57 (m10 (ab_up t 3 z)) := rfl
theorem m10_s4 : ab_st σ 57 (.inl (10, (l10 t).set 4 (.inl z))) = ab_st σ 57 (m10 (ab_up t 4 z)) := rfl
theorem m10_s5 : ab_st σ 57 (.inl (10, (l10 t).set 5 (.inl z))) = ab_st σ 57 (m10 (ab_up t 5 z)) := rfl
theorem m10_s6 : ab_st σ 57 (.inl (10, (l10 t).set 6 (.inl z))) = ab_st σ 57 (m10 (ab_up t 6 z)) := rfl
theorem m10_s7 : ab_st σ 57 (.inl (10, (l10 t).set 7 (.inl z))) = ab_st σ 57 (m10 (ab_up t 7 z)) := rfl
theorem m10_s8 : ab_st σ 57 (.inl (10, (l10 t).set 8 (.inl z))) = ab_st σ 57 (m10 (ab_up t 8 z)) := rfl
theorem m10_s12 : ab_st σ 57 (.inl (10, (l10 t).set 12 (.inl z))) = ab_st σ 57 (m10 (ab_up t 12 z)) := rfl
theorem m10_s13 : ab_st σ 57 (.inl (10, (l10 t).set 13 (.inl z))) = ab_st σ 57 (m10 (ab_up t 13 z)) := rfl
theorem m10_s18 : ab_st σ 57 (.inl (10, (l10 t).set 18 (.inl z))) = ab_st σ 57 (m10 (ab_up t 18 z)) := rfl
theorem m10_s20 : ab_st σ 57 (.inl (10, (l10 t).set 20 (.inl z))) = ab_st σ 57 (m10 (ab_up t 20 z)) := rfl
theorem m10_s21 : ab_st σ 57 (.inl (10, (l10 t).set 21 (.inl z))) = ab_st σ 57 (m10 (ab_up t 21 z)) := rfl
theorem m10_s22 : ab_st σ 57 (.inl (10, (l10 t).set 22 (.inl z))) = ab_st σ 57 (m10 (ab_up t 22 z)) := rfl
theorem m10_s23 : ab_st σ 57 (.inl (10, (l10 t).set 23 (.inl z))) = ab_st σ 57 (m10 (ab_up t 23 z)) := rfl
theorem m10_s24 : ab_st σ 57 (.inl (10, (l10 t).set 24 (.inl z))) = ab_st σ 57 (m10 (ab_up t 24 z)) := rfl
theorem m10_s25 : ab_st σ 57 (.inl (10, (l10 t).set 25 (.inl z))) = ab_st σ 57 (m10 (ab_up t 25 z)) := rfl
theorem m10_s26 : ab_st σ 57 (.inl (10, (l10 t).set 26 (.inl z))) = ab_st σ 57 (m10 (ab_up t 26 z)) := rfl
theorem m10_s33 : ab_st σ 57 (.inl (10, (l10 t).set 33 (.inl z))) = ab_st σ 57 (m10 (ab_up t 33 z)) := rfl
theorem m10_s34 : ab_st σ 57 (.inl (10, (l10 t).set 34 (.inl z))) = ab_st σ 57 (m10 (ab_up t 34 z)) := rfl
end Up
section Bad
variable {σ : ab_H} {t : Nat → Int} {r : Nat → Nat}
set_option maxRecDepth 100000 in
set_option maxHeartbeats 1000000 in
theorem m_bad0 (h57 : σ.2 57 = some (m10 t)) (h0 : t 0 = 0) (w i : Int) : ab_ev 1 yX10_bad [rf 57, .inl 0, .inl w, .inl i] σ (some (.inl 0)) σ := by
  refine eX10_bad rfl (fun At hA => ?_)
  refine hA 0 _ rfl _ _ _ _ _ ?_
  refine And.intro (by first | assumption | exact b2i_R _ | exact rR (by omega) (by omega) | exact rR (by simp only [Int.toNat_natCast]; omega) (by simp only [Int.toNat_natCast]; omega)) (And.intro (fun q => ?_) (fun q => ?_))
  · refine hA 3 _ rfl _ _ _ _ _ ?_
    refine Exists.intro _ (And.intro (by first | assumption | exact st_s | exact st_e (by decide) (by assumption) | exact st_e (by omega) (by assumption) | exact st_e (by decide) st_s | exact st_e (by omega) st_s | exact st_e (by decide) (st_e (by decide) (by assumption)) | exact st_e (by omega) (st_e (by omega) (by assumption))) ?_)
    refine And.intro (by first | assumption | exact b2i_R _ | exact rR (by omega) (by omega) | exact rR (by simp only [Int.toNat_natCast]; omega) (by simp only [Int.toNat_natCast]; omega)) (And.intro (fun q => ?_) (fun q => ?_))
    · refine hA 5 _ rfl _ _ _ _ _ ?_
      refine hA 6 _ rfl _ _ _ _ _ ?_
      refine And.intro (by first | exact Or.inl rfl | exact Or.inr rfl | exact b2i_01 _) ?_
      exact ⟨rfl, rfl⟩
    · exact absurd h0 q
  · exact absurd rfl q
def bdS (σ : ab_H) (t : Nat → Int) (r : Nat → Nat) (w : Int) (i : Nat) : ab_H := ab_st (ab_st σ 57 (m10 (ab_up t 0 w))) 58 (ints 3 (ab_up r i (r i + 1)))
set_option maxRecDepth 100000 in
set_option maxHeartbeats 1000000 in
theorem m_bad1 (h57 : σ.2 57 = some (m10 t)) (h0 : t 0 = 0) (h58 : σ.2 58 = some (ints 3 r)) (w i : Nat) (hw : 1 ≤ w) (hi : i < 3) (hw2 : w < 3) : ab_ev 1 yX10_bad [rf 57, .inl 1, .inl w, .inl i] σ (some (.inl 1)) (bdS σ t r w i) := by
  have q57 : (bdS σ t r w i).2 57 = some (m10 (ab_up t 0 w)) := st_e (by decide) st_s
  have q0 : ab_up t 0 ((w : Nat) : Int) 0 = w := ab_up_s
  have qR : ab_R (ab_up t 0 ((w : Nat) : Int) 0) := by rw [q0]; exact rR (by omega) (by omega)
  have eu : ab_st (ab_st σ 57 (m10 (ab_up t 0 w))) 58 (.inr (.inl (0, 3, ab_up (fun j => ((r j : Nat) : Int)) i ((r i : Int) + 1)))) = bdS σ t r w i := by
    show _ = ab_st _ 58 (ints 3 (ab_up r i (r i + 1)))
    rw [← ints_up]
    rfl
  refine eX10_bad rfl (fun At hA => ?_)
  have k3 : At 3 [some (rf 57), some (.inl 1), some (.inl w), some (.inl i)] [] (bdS σ t r w i) 0 0 := by
    refine hA 3 _ rfl _ _ _ _ _ ?_
    refine Exists.intro _ (And.intro (q57) ?_)
    refine And.intro qR (And.intro (fun q => ?_) (fun q => ?_))
    · have q : ab_up t 0 ((w : Nat) : Int) 0 = 0 := q
      omega
    · refine hA 4 _ rfl _ _ _ _ _ ?_
      refine hA 6 _ rfl _ _ _ _ _ ?_
      refine And.intro (by first | exact Or.inl rfl | exact Or.inr rfl | exact b2i_01 _) ?_
      exact ⟨rfl, rfl⟩
  rw [← eu] at k3
  have h58' : (ab_st σ 57 (m10 (ab_up t 0 w))).2 58 = some (ints 3 r) := st_e (by decide) h58
  refine hA 0 _ rfl _ _ _ _ _ ?_
  refine And.intro (by first | assumption | exact b2i_R _ | exact rR (by omega) (by omega) | exact rR (by simp only [Int.toNat_natCast]; omega) (by simp only [Int.toNat_natCast]; omega)) (And.intro (fun q => ?_) (fun q => ?_))
  · exact absurd q (by decide)
  · have hR0 : ab_R (t 0) := by rw [h0]; exact rR (by omega) (by omega)
    refine hA 1 _ rfl _ _ _ _ _ ?_
    refine Exists.intro _ (And.intro (h57) ?_)
    refine And.intro hR0 (And.intro (fun q => ?_) (fun q => ?_))
    · exact absurd h0 q
    · refine hA 2 _ rfl _ _ _ _ _ ?_
      refine Exists.intro _ (And.intro (h57) ?_)
      rw [m10_s0]
      refine Exists.intro _ (And.intro (st_s) ?_)
      refine Exists.intro _ (Exists.intro _ (And.intro (h58') (And.intro (by omega) ?_)))
      refine Exists.intro _ (Exists.intro _ (And.intro (h58') (And.intro (by omega) ?_)))
      exact k3
end Bad
section Bad2
variable {σ σ0 : ab_H} {cc rows : Nat} {K : Nat → CT} {va : Nat → Nat → Nat} {R : Nat → V1} {f : Nat → Int} {n : Nat} {pl : Int} {c : C3} {t : Nat → Int} {r : Nat → Nat} {th : Int} {e : Nat → Int}
/-- a refusal -/
theorem md_no {o : (Int × St) ⊕ Nat} {i : Nat} {x : Int} {w : Int} (ho : o = .inr i) (hf : fr mA σ σ0) (hI : MI σ0 cc rows K va R f n pl c t r 0) (hw : e i = w) : mdP σ (cc, rows, K, va, R, f, n, pl, c) r e o (.inl (some (.inl x))) (bdS σ0 t r w i) := by
  subst ho
  subst hw
  exact ⟨(hf.st (show mA 57 by unfold mA; omega)).st (show mA 58 by unfold mA; omega), ⟨x, rfl⟩, ab_up t 0 (e i), (hI.uth (e i)).ur _⟩
theorem md_ok {o : (Int × St) ⊕ Nat} {x y : Int} {S : St} {cc' rows' : Nat} {K' : Nat → CT} {va' : Nat → Nat → Nat} {R' : Nat → V1} {f' : Nat → Int} {n' : Nat} {pl' : Int} {c' : C3} (ho : o = .inl (x, (cc', rows', K', va', R', f', n', pl', c'))) (hx : y = x) (hf : fr mA σ σ0) (hI : MI σ0 cc' rows' K' va' R' f' n' pl' c' t r 0) : mdP σ S r e o (.inl (some (.inl y))) σ0 := by
  subst ho
  subst hx
  exact ⟨hf, rfl, t, hI⟩
/-- a call that asks -/
theorem md_as {o : Int ⊕ Nat} {x y : Int} (ho : o = .inl x) (hx : y = x) (hf : fr mA σ σ0) (hI : MI σ0 cc rows K va R f n pl c t r 0) : mdP σ (cc, rows, K, va, R, f, n, pl, c) r e (stq (cc, rows, K, va, R, f, n, pl, c) o) (.inl (some (.inl y))) σ0 := md_ok (by rw [ho]; rfl) hx hf hI
end Bad2
