-- ===== the calls that change something: what they do =====
/-- columns, rows, what is told of the columns, values, results and live (6), bytes, how many, the place of the fault, what the latest question cost -/
abbrev St : Type := Nat × Nat × (Nat → CT) × (Nat → Nat → Nat) × (Nat → V1) × (Nat → Int) × Nat × Int × C3
def CS (σ : ab_H) (S : St) (r : Nat → Nat) : Prop := match S with
  | (cc, rows, K, va, R, f, n, pl, c) => ∃ ad, CI σ cc rows K va ad R f n pl c r
/-- how a call ends: an answer and a state, or a refusal -/
def stP (σ : ab_H) (S : St) (r : Nat → Nat) (o : (Int × St) ⊕ Nat) (z : ab_O) (σ' : ab_H) : Prop := gr fcA σ σ' ∧ match o with
  | .inl (x, S') => z = .inl (some (.inl x)) ∧ CS σ' S' r
  | .inr i => z = .inr i ∧ CS σ' S (ab_up r i (r i + 1))
section Sg
variable (cc rows : Nat) (K : Nat → CT) (va : Nat → Nat → Nat) (R : Nat → V1) (f : Nat → Int) (n : Nat) (pl : Int) (c : C3)
def sg_feed (x1 x2 x3 x4 x5 : Int) : (Int × St) ⊕ Nat := if 380 < n then .inl (-1, (cc, rows, K, va, R, f, n, pl, c))
  else .inl ((n + 20 : Nat), (cc, rows, K, va, R, put4 (put4 (put4 (put4 (put4 f n x1) (n + 4) x2) (n + 8) x3) (n + 12) x4) (n + 16) x5, n + 20, pl, c))
def sg_logic (kind a b to : Int) : (Int × St) ⊕ Nat := if (0 ≤ a ∧ a ≤ 5) ∧ (0 ≤ b ∧ b ≤ 5) ∧ 0 ≤ to ∧ to ≤ 5 then (if 0 ≤ kind ∧ kind ≤ 3 then .inl ((cnt (bit (jn kind.toNat (R a.toNat) (R b.toNat))) 1500 : Nat), (cc, rows, K, va, ab_up R to.toNat (jn kind.toNat (R a.toNat) (R b.toNat)), f, n, pl, c)) else .inr 1) else .inr 0
def sg_turn (k : Int) : (Int × St) ⊕ Nat := if 0 ≤ k ∧ k ≤ 5 then .inl ((cnt (bit (tn rows (R k.toNat))) 1500 : Nat), (cc, rows, K, va, ab_up R k.toNat (tn rows (R k.toNat)), f, n, pl, c)) else .inr 0
def sg_delete (row : Int) : (Int × St) ⊕ Nat := if (0 ≤ row ∧ row < rows) ∧ bit (R 6) row.toNat = true then .inl ((cnt (bit (pt (R 6) row.toNat false)) 1500 : Nat), (cc, rows, K, va, ab_up R 6 (pt (R 6) row.toNat false), f, n, pl, c)) else .inr 0
/-- the values given -/
def gvn (x1 x2 x3 x4 : Int) : Nat → Int := fun j => if j = 0 then x1 else if j = 1 then x2 else if j = 2 then x3 else x4
/-- live with rows that come -/
def lvA (R : Nat → V1) (rows m : Nat) : V1 := mk (fun r => decide (rows ≤ r ∧ r < rows + m) || bit (R 6) r)
def stA (m : Nat) (x1 x2 x3 x4 : Int) : St := (cc, rows + m, K, vaN va (gvn x1 x2 x3 x4) rows (rows + m), ab_up R 6 (lvA R rows m), f, n, pl, c)
def sg_add (x1 x2 x3 x4 : Int) : (Int × St) ⊕ Nat := if fitI K (gvn x1 x2 x3 x4) cc = true then (if rows < 1500 then .inl ((rows : Nat), stA cc rows K va R f n pl c 1 x1 x2 x3 x4) else .inr 2) else .inr 1
def sg_many (m x1 x2 x3 x4 : Int) : (Int × St) ⊕ Nat := if (1 ≤ m ∧ m ≤ 400) ∧ fitI K (gvn x1 x2 x3 x4) cc = true then (if rows + m ≤ 1500 then .inl ((rows : Int) + m, stA cc rows K va R f n pl c m.toNat x1 x2 x3 x4) else .inr 2) else .inr 1
def sg_close : (Int × St) ⊕ Nat := .inl ((rows : Int) - cnt (bit (R 6)) rows, (cc, cnt (bit (R 6)) rows, K, fun c => cmp (bit (R 6)) (va c) rows, fun i => if i = 6 then all1 (cnt (bit (R 6)) rows) else RK (R 6) (R i) rows, f, n, pl, c))
def sg_column (x : Int) : (Int × St) ⊕ Nat := if 0 ≤ x ∧ x ≤ 200 ∧ x ≤ n then (if rows = 0 ∧ cc < 4 then (match colP f x.toNat with
  | .inl (u, v) => .inl (u - 10, (cc, rows, K, va, R, f, 0, v, c))
  | .inr k => .inl ((cc : Nat), (cc + 1, rows, ab_up K cc k, ab_up va cc (fun _ => 0), R, f, 0, -1, c))) else .inr 2) else .inr 1
def sg_ask (k x : Int) : (Int × St) ⊕ Nat := if 0 ≤ k ∧ k ≤ 5 then (if 0 ≤ x ∧ x ≤ 200 ∧ x ≤ n then (match qsT f x.toNat K cc with
  | .inl (u, v) => .inl (u - 10, (cc, rows, K, va, R, f, 0, v, c))
  | .inr _ => .inl ((cnt (bit (finV rows K va R (pqT f x.toNat K cc 5 (.inr 0)).2.1)) 1500 : Nat), (cc, rows, K, va, ab_up R k.toNat (finV rows K va R (pqT f x.toNat K cc 5 (.inr 0)).2.1), f, 0, -1, finC rows K va R (pqT f x.toNat K cc 5 (.inr 0)).2.1))) else .inr 1) else .inr 0
def sg_load (k x : Int) : (Int × St) ⊕ Nat := if 0 ≤ k ∧ k ≤ 5 then (if 0 ≤ x ∧ x ≤ n then (match ldP f x.toNat rows (x.toNat / 2 + 1) 0 0 0 (all1 0) with
  | .inl (u, v) => .inl (u - 10, (cc, rows, K, va, R, f, 0, v, c))
  | .inr m => .inl ((cnt (bit m) 1500 : Nat), (cc, rows, K, va, ab_up R k.toNat m, f, 0, -1, c))) else .inr 1) else .inr 0
end Sg
section CIup
variable {σ : ab_H} {cc rows : Nat} {K : Nat → CT} {va : Nat → Nat → Nat} {ad : Nat → Nat} {R : Nat → V1} {f : Nat → Int} {n : Nat} {pl : Int} {c : C3} {r : Nat → Nat}
theorem st_ok {o : (Int × St) ⊕ Nat} {x : Int} {S : St} {cc' rows' : Nat} {K' : Nat → CT} {va' : Nat → Nat → Nat} {ad' : Nat → Nat} {R' : Nat → V1} {f' : Nat → Int} {n' : Nat} {pl' : Int} {c' : C3} {σ' : ab_H} (ho : o = .inl (x, (cc', rows', K', va', R', f', n', pl', c'))) (hg : gr fcA σ σ') (h : CI σ' cc' rows' K' va' ad' R' f' n' pl' c' r) : stP σ S r o (.inl (some (.inl x))) σ' := by
  subst ho
  exact ⟨hg, rfl, ad', h⟩
theorem st_no {o : (Int × St) ⊕ Nat} {i : Nat} {σ' : ab_H} (ho : o = .inr i) (hg : gr fcA σ σ') (h : CI σ' cc rows K va ad R f n pl c r) {q : Nat} (hq : σ'.1 ≤ q) : stP σ (cc, rows, K, va, R, f, n, pl, c) r o (.inr i) (q, (ab_st σ' 0 (c9 (ab_up r i (r i + 1)))).2) := by
  subst ho
  refine ⟨?_, rfl, ad, h.cnt0 hq⟩
  exact hg.tr (gr_q (τ := ab_st σ' 0 (c9 (ab_up r i (r i + 1)))) (fr.gr (A := fcA) (fr_st (by unfold fcA; omega))) hq)
/-- one result, or live, is another one -/
theorem CI.res (h : CI σ cc rows K va ad R f n pl c r) {k : Nat} (hk : k < 7) {g : V1} (hg : ∀ i, g i < 32768) (hb : ∀ x, rows ≤ x → bit g x = false) : CI (ab_st σ (12 + 2 * k + 1) (bmc g)) cc rows K va ad (ab_up R k g) f n pl c r := by
  have hs := h.s
  have hf : fr (fun a => a = 12 + 2 * k + 1) σ (ab_st σ (12 + 2 * k + 1) (bmc g)) := fr_st rfl
  have hgr := hf.gr
  obtain ⟨h0, h1, ⟨t1, t2, t3, t4, t5, t6⟩, h3, h4, h5, h6⟩ := h
  refine ⟨st_e (by omega) h0, h1.gr hgr hs (by omega), ⟨st_e (by omega) t1, t2, st_e (by omega) t3, t4.gr hgr hs (by omega) (fun a ha => by omega), fun i hi => ?_, fun i hi x hx => ?_⟩, h3.gr hgr hs (fun a _ _ => by omega), h4.gr hgr hs (fun a _ _ => by omega), h5.gr hgr hs (fun a _ _ => by omega), h6.gr hgr (fun a _ _ => by omega)⟩
  · by_cases e : i = k
    · subst e; rw [ab_up_s]; exact (t5 i hi).st hg
    · rw [ab_up_n e]; exact (t5 i hi).ne (by omega) (by omega)
  · by_cases e : i = k
    · subst e; rw [ab_up_s]; exact hb x hx
    · rw [ab_up_n e]; exact t6 i hi x hx
theorem CI.tp {σ' : ab_H} (h : CI σ cc rows K va ad R f n pl c r) (hf : fr taA σ σ') {f' : Nat → Int} {n' : Nat} {pl' : Int} (ht : TP σ' f' n' pl') : CI σ' cc rows K va ad R f' n' pl' c r := by
  have hs := h.s
  have hg := hf.gr
  have na : ∀ a, a = 0 ∨ 3 ≤ a → ¬ taA a := fun a ha => by unfold taA; omega
  obtain ⟨h0, h1, h2, h3, h4, h5, h6⟩ := h
  exact ⟨(hf.2 0 (na _ (by omega))).trans h0, ht, h2.gr hg hs (fun a _ => na a (by omega)), h3.gr hg hs (fun a _ _ => na a (by omega)), h4.gr hg hs (fun a _ _ => na a (by omega)), h5.gr hg hs (fun a _ _ => na a (by omega)), h6.gr hg (fun a _ _ => na a (by omega))⟩
theorem jn_hi {k : Nat} {v w : V1} {x : Nat} (h1 : bit v x = false) (h2 : bit w x = false) : bit (jn k v w) x = false := by
  unfold bit at *
  unfold jn jo
  split
  · rw [Nat.testBit_and, h1]; rfl
  · rw [Nat.testBit_or, h1, h2]; rfl
  · rw [Nat.testBit_xor, h1, h2]; rfl
  · rw [wo_bit, h1]; rfl
theorem tn_hi {rows : Nat} {v : V1} {x : Nat} (h : rows ≤ x) : bit (tn rows v) x = false := by
  unfold bit tn
  rw [wo_bit, rg_bit, decide_eq_false (by omega)]
  rfl
set_option maxRecDepth 100000 in
set_option maxHeartbeats 1000000 in
theorem f_feed (hI : CI σ cc rows K va ad R f n pl c r) (x1 x2 x3 x4 x5 : Int) : ab_call 2 0 0 yX9_feed [rf 0, .inl x1, .inl x2, .inl x3, .inl x4, .inl x5] σ (stP σ (cc, rows, K, va, R, f, n, pl, c) r (sg_feed cc rows K va R f n pl c x1 x2 x3 x4 x5)) := by
  obtain ⟨h0, ⟨⟨tlen, tat, tst, tk, h1⟩, h2, hby, hn4⟩, -⟩ := id hI
  have n0 : ¬ taA 0 := by unfold taA; omega
  refine eX9_feed rfl (fun At hA => ?_)
  refine hA 0 _ rfl _ _ _ _ _ ?_
  refine Exists.intro _ (And.intro (by first | assumption | exact st_s | exact st_e (by decide) (by assumption) | exact st_e (by omega) (by assumption) | exact st_e (by decide) st_s | exact st_e (by omega) st_s | exact st_e (by decide) (st_e (by decide) (by assumption)) | exact st_e (by omega) (st_e (by omega) (by assumption))) ?_)
  refine Exists.intro _ (And.intro (by first | assumption | exact st_s | exact st_e (by decide) (by assumption) | exact st_e (by omega) (by assumption) | exact st_e (by decide) st_s | exact st_e (by omega) st_s | exact st_e (by decide) (st_e (by decide) (by assumption)) | exact st_e (by omega) (st_e (by omega) (by assumption))) ?_)
  refine And.intro (And.intro (by first | assumption | exact b2i_R _ | exact rR (by omega) (by omega) | exact rR (by simp only [Int.toNat_natCast]; omega) (by simp only [Int.toNat_natCast]; omega)) (by first | assumption | exact b2i_R _ | exact rR (by omega) (by omega) | exact rR (by simp only [Int.toNat_natCast]; omega) (by simp only [Int.toNat_natCast]; omega))) (And.intro (fun q => ?_) (fun q => ?_))
  · have hq : ¬ 380 < n := by omega
    refine hA 2 _ rfl _ _ _ _ _ ?_
    refine Exists.intro _ (And.intro (by first | assumption | exact st_s | exact st_e (by decide) (by assumption) | exact st_e (by omega) (by assumption) | exact st_e (by decide) st_s | exact st_e (by omega) st_s | exact st_e (by decide) (st_e (by decide) (by assumption)) | exact st_e (by omega) (st_e (by omega) (by assumption))) ?_)
    refine Exists.intro _ (And.intro (by first | assumption | exact st_s | exact st_e (by decide) (by assumption) | exact st_e (by omega) (by assumption) | exact st_e (by decide) st_s | exact st_e (by omega) st_s | exact st_e (by decide) (st_e (by decide) (by assumption)) | exact st_e (by omega) (st_e (by omega) (by assumption))) (And.intro rfl (ab_inv_of (c_put4 h1 h2 (by omega) x1) (by first | decide | omega) (by omega) (by omega) ?_)))
    intro r' τ1 hpost
    obtain ⟨rfl, f1, a1, b1⟩ := hpost
    have z1 := (f1.2 0 n0).trans h0
    refine Exists.intro _ (And.intro (by first | assumption | exact st_s | exact st_e (by decide) (by assumption) | exact st_e (by omega) (by assumption) | exact st_e (by decide) st_s | exact st_e (by omega) st_s | exact st_e (by decide) (st_e (by decide) (by assumption)) | exact st_e (by omega) (st_e (by omega) (by assumption))) ?_)
    refine Exists.intro _ (And.intro (by first | assumption | exact st_s | exact st_e (by decide) (by assumption) | exact st_e (by omega) (by assumption) | exact st_e (by decide) st_s | exact st_e (by omega) st_s | exact st_e (by decide) (st_e (by decide) (by assumption)) | exact st_e (by omega) (st_e (by omega) (by assumption))) (And.intro rfl (ab_inv_of (c_put4 a1 b1 (by omega) x2) (by first | decide | omega) (by omega) (by omega) ?_)))
    intro r' τ2 hpost
    obtain ⟨rfl, f2, a2, b2⟩ := hpost
    have z2 := (f2.2 0 n0).trans z1
    refine Exists.intro _ (And.intro (by first | assumption | exact st_s | exact st_e (by decide) (by assumption) | exact st_e (by omega) (by assumption) | exact st_e (by decide) st_s | exact st_e (by omega) st_s | exact st_e (by decide) (st_e (by decide) (by assumption)) | exact st_e (by omega) (st_e (by omega) (by assumption))) ?_)
    refine Exists.intro _ (And.intro (by first | assumption | exact st_s | exact st_e (by decide) (by assumption) | exact st_e (by omega) (by assumption) | exact st_e (by decide) st_s | exact st_e (by omega) st_s | exact st_e (by decide) (st_e (by decide) (by assumption)) | exact st_e (by omega) (st_e (by omega) (by assumption))) (And.intro rfl (ab_inv_of (c_put4 a2 b2 (by omega) x3) (by first | decide | omega) (by omega) (by omega) ?_)))
    intro r' τ3 hpost
    obtain ⟨rfl, f3, a3, b3⟩ := hpost
    have z3 := (f3.2 0 n0).trans z2
    refine Exists.intro _ (And.intro (by first | assumption | exact st_s | exact st_e (by decide) (by assumption) | exact st_e (by omega) (by assumption) | exact st_e (by decide) st_s | exact st_e (by omega) st_s | exact st_e (by decide) (st_e (by decide) (by assumption)) | exact st_e (by omega) (st_e (by omega) (by assumption))) ?_)
    refine Exists.intro _ (And.intro (by first | assumption | exact st_s | exact st_e (by decide) (by assumption) | exact st_e (by omega) (by assumption) | exact st_e (by decide) st_s | exact st_e (by omega) st_s | exact st_e (by decide) (st_e (by decide) (by assumption)) | exact st_e (by omega) (st_e (by omega) (by assumption))) (And.intro rfl (ab_inv_of (c_put4 a3 b3 (by omega) x4) (by first | decide | omega) (by omega) (by omega) ?_)))
    intro r' τ4 hpost
    obtain ⟨rfl, f4, a4, b4⟩ := hpost
    have z4 := (f4.2 0 n0).trans z3
    refine Exists.intro _ (And.intro (by first | assumption | exact st_s | exact st_e (by decide) (by assumption) | exact st_e (by omega) (by assumption) | exact st_e (by decide) st_s | exact st_e (by omega) st_s | exact st_e (by decide) (st_e (by decide) (by assumption)) | exact st_e (by omega) (st_e (by omega) (by assumption))) ?_)
    refine Exists.intro _ (And.intro (by first | assumption | exact st_s | exact st_e (by decide) (by assumption) | exact st_e (by omega) (by assumption) | exact st_e (by decide) st_s | exact st_e (by omega) st_s | exact st_e (by decide) (st_e (by decide) (by assumption)) | exact st_e (by omega) (st_e (by omega) (by assumption))) (And.intro rfl (ab_inv_of (c_put4 a4 b4 (by omega) x5) (by first | decide | omega) (by omega) (by omega) ?_)))
    intro r' τ5 hpost
    obtain ⟨rfl, f5, a5, b5⟩ := hpost
    have z5 := (f5.2 0 n0).trans z4
    have hf := (((f1.tr f2).tr f3).tr f4).tr f5
    have hb := byR_put (byR_put (byR_put (byR_put (byR_put hby n x1) (n + 4) x2) (n + 4 + 4) x3) (n + 4 + 4 + 4) x4) (n + 4 + 4 + 4 + 4) x5
    refine Exists.intro _ (And.intro (by first | assumption | exact st_s | exact st_e (by decide) (by assumption) | exact st_e (by omega) (by assumption) | exact st_e (by decide) st_s | exact st_e (by omega) st_s | exact st_e (by decide) (st_e (by decide) (by assumption)) | exact st_e (by omega) (st_e (by omega) (by assumption))) ?_)
    refine Exists.intro _ (And.intro (by first | assumption | exact st_s | exact st_e (by decide) (by assumption) | exact st_e (by omega) (by assumption) | exact st_e (by decide) st_s | exact st_e (by omega) st_s | exact st_e (by decide) (st_e (by decide) (by assumption)) | exact st_e (by omega) (st_e (by omega) (by assumption))) ?_)
    refine st_ok ?_ (hf.mono (fun a ha => by unfold taA at ha; unfold fcA; omega)).gr (hI.tp hf ⟨⟨_, _, _, _, a5⟩, b5, hb, by omega⟩)
    unfold sg_feed
    rw [if_neg hq]
  · refine hA 1 _ rfl _ _ _ _ _ ?_
    refine st_ok ?_ (gr_rf _ _) hI
    unfold sg_feed
    rw [if_pos (by omega)]
set_option maxRecDepth 100000 in
set_option maxHeartbeats 1000000 in
theorem f_turn (hI : CI σ cc rows K va ad R f n pl c r) (k : Int) (hk : ab_R k) : ab_call 8 1 6 yX9_turn [rf 0, .inl k] σ (stP σ (cc, rows, K, va, R, f, n, pl, c) r (sg_turn cc rows K va R f n pl c k)) := by
  obtain ⟨h0, -, ⟨h3, hr, h5, hC, hR, hRr⟩, -⟩ := id hI
  refine eX9_turn rfl (fun At hA => ?_)
  refine hA 0 _ rfl _ _ _ _ _ ?_
  refine And.intro rfl (ab_inv_ev (c_isResult k hk) (by first | decide | omega) (by first | exact Nat.le_refl _ | omega) (by first | exact Nat.le_refl _ | omega) ?_)
  refine Exists.intro _ (And.intro (by first | assumption | exact st_s | exact st_e (by decide) (by assumption) | exact st_e (by omega) (by assumption) | exact st_e (by decide) st_s | exact st_e (by omega) st_s | exact st_e (by decide) (st_e (by decide) (by assumption)) | exact st_e (by omega) (st_e (by omega) (by assumption))) (And.intro rfl (ab_inv_of (c_needElement h0 (decide (0 ≤ k ∧ k ≤ 5))) (by first | decide | omega) (by omega) (by omega) ?_)))
  intro r' τ hpost
  rcases hpost with ⟨hb, rfl, rfl⟩ | ⟨hb, rfl, q9, hq9, rfl⟩
  · have hP := of_decide_eq_true hb
    have hB := hR k.toNat (by omega)
    have hB1 := hB.1
    have hI2 := hI.res (k := k.toNat) (by omega) (tn_lt rows (R k.toNat)) (fun x hx => tn_hi hx)
    have hB2 : IsB (ab_st τ (12 + 2 * k.toNat + 1) (bmc (tn rows (R k.toNat)))) (12 + 2 * k.toNat) (tn rows (R k.toNat)) := hB.st (tn_lt rows _)
    have hB21 := hB2.1
    obtain ⟨z0, -, ⟨z3, -, z5, -⟩, -⟩ := id hI2
    refine Exists.intro _ (And.intro (by first | assumption | exact st_s | exact st_e (by decide) (by assumption) | exact st_e (by omega) (by assumption) | exact st_e (by decide) st_s | exact st_e (by omega) st_s | exact st_e (by decide) (st_e (by decide) (by assumption)) | exact st_e (by omega) (st_e (by omega) (by assumption))) ?_)
    refine Exists.intro _ (And.intro (by first | assumption | exact st_s | exact st_e (by decide) (by assumption) | exact st_e (by omega) (by assumption) | exact st_e (by decide) st_s | exact st_e (by omega) st_s | exact st_e (by decide) (st_e (by decide) (by assumption)) | exact st_e (by omega) (st_e (by omega) (by assumption))) ?_)
    refine Exists.intro _ (Exists.intro _ (And.intro (by first | assumption | exact st_s | exact st_e (by decide) (by assumption) | exact st_e (by omega) (by assumption) | exact st_e (by decide) st_s | exact st_e (by omega) st_s | exact st_e (by decide) (st_e (by decide) (by assumption)) | exact st_e (by omega) (st_e (by omega) (by assumption))) (And.intro (by first | omega | (simp only [Int.toNat_natCast]; omega)) ?_)))
    refine Exists.intro _ (And.intro (by first | assumption | exact st_s | exact st_e (by decide) (by assumption) | exact st_e (by omega) (by assumption) | exact st_e (by decide) st_s | exact st_e (by omega) st_s | exact st_e (by decide) (st_e (by decide) (by assumption)) | exact st_e (by omega) (st_e (by omega) (by assumption))) ?_)
    refine Exists.intro _ (And.intro (by first | assumption | exact st_s | exact st_e (by decide) (by assumption) | exact st_e (by omega) (by assumption) | exact st_e (by decide) st_s | exact st_e (by omega) st_s | exact st_e (by decide) (st_e (by decide) (by assumption)) | exact st_e (by omega) (st_e (by omega) (by assumption))) ?_)
    refine Exists.intro _ (And.intro (by first | assumption | exact st_s | exact st_e (by decide) (by assumption) | exact st_e (by omega) (by assumption) | exact st_e (by decide) st_s | exact st_e (by omega) st_s | exact st_e (by decide) (st_e (by decide) (by assumption)) | exact st_e (by omega) (st_e (by omega) (by assumption))) (And.intro rfl (ab_inv_ev (c_turnOver hB rows hr) (by first | decide | omega) (by first | exact Nat.le_refl _ | omega) (by first | exact Nat.le_refl _ | omega) ?_)))
    refine Exists.intro _ (And.intro (by first | assumption | exact st_s | exact st_e (by decide) (by assumption) | exact st_e (by omega) (by assumption) | exact st_e (by decide) st_s | exact st_e (by omega) st_s | exact st_e (by decide) (st_e (by decide) (by assumption)) | exact st_e (by omega) (st_e (by omega) (by assumption))) ?_)
    refine Exists.intro _ (And.intro (by first | assumption | exact st_s | exact st_e (by decide) (by assumption) | exact st_e (by omega) (by assumption) | exact st_e (by decide) st_s | exact st_e (by omega) st_s | exact st_e (by decide) (st_e (by decide) (by assumption)) | exact st_e (by omega) (st_e (by omega) (by assumption))) ?_)
    refine Exists.intro _ (Exists.intro _ (And.intro (by first | assumption | exact st_s | exact st_e (by decide) (by assumption) | exact st_e (by omega) (by assumption) | exact st_e (by decide) st_s | exact st_e (by omega) st_s | exact st_e (by decide) (st_e (by decide) (by assumption)) | exact st_e (by omega) (st_e (by omega) (by assumption))) (And.intro (by first | omega | (simp only [Int.toNat_natCast]; omega)) ?_)))
    refine Exists.intro _ (And.intro (by first | assumption | exact st_s | exact st_e (by decide) (by assumption) | exact st_e (by omega) (by assumption) | exact st_e (by decide) st_s | exact st_e (by omega) st_s | exact st_e (by decide) (st_e (by decide) (by assumption)) | exact st_e (by omega) (st_e (by omega) (by assumption))) (And.intro rfl (ab_inv_ev (c_count hB2) (by first | decide | omega) (by first | exact Nat.le_refl _ | omega) (by first | exact Nat.le_refl _ | omega) ?_)))
    refine st_ok ?_ (fr.gr (A := fcA) (fr_st (by unfold fcA; omega))) hI2
    unfold sg_turn
    rw [if_pos hP]
  · have hP := of_decide_eq_false hb
    exact st_no (by unfold sg_turn; rw [if_neg hP]) (gr_rf _ _) hI hq9
set_option maxRecDepth 100000 in
set_option maxHeartbeats 1000000 in
theorem f_logic (hI : CI σ cc rows K va ad R f n pl c r) (kind a b to : Int) (hkind : ab_R kind) (ha : ab_R a) (hb : ab_R b) (hto : ab_R to) : ab_call 8 2 12 yX9_logic [rf 0, .inl kind, .inl a, .inl b, .inl to] σ (stP σ (cc, rows, K, va, R, f, n, pl, c) r (sg_logic cc rows K va R f n pl c kind a b to)) := by
  obtain ⟨h0, -, ⟨h3, hr, h5, hC, hR, hRr⟩, -⟩ := id hI
  refine eX9_logic rfl (fun At hA => ?_)
  have k5 : ∀ z : Int, z = b2i (decide ((0 ≤ a ∧ a ≤ 5) ∧ (0 ≤ b ∧ b ≤ 5) ∧ 0 ≤ to ∧ to ≤ 5)) → At 5 [some (rf 0), some (.inl kind), some (.inl a), some (.inl b), some (.inl to), none] [.inl z, rf 0] σ 0 0 := fun z hz => by
    subst hz
    refine hA 5 _ rfl _ _ _ _ _ ?_
    refine Exists.intro _ (And.intro (by first | assumption | exact st_s | exact st_e (by decide) (by assumption) | exact st_e (by omega) (by assumption) | exact st_e (by decide) st_s | exact st_e (by omega) st_s | exact st_e (by decide) (st_e (by decide) (by assumption)) | exact st_e (by omega) (st_e (by omega) (by assumption))) (And.intro rfl (ab_inv_of (c_needElement h0 (decide ((0 ≤ a ∧ a ≤ 5) ∧ (0 ≤ b ∧ b ≤ 5) ∧ 0 ≤ to ∧ to ≤ 5))) (by first | decide | omega) (by omega) (by omega) ?_)))
    intro r' τ hpost
    rcases hpost with ⟨hbn, rfl, rfl⟩ | ⟨hbn, rfl, q9, hq9, rfl⟩
    · have hP := of_decide_eq_true hbn
      have k9 : ∀ z : Int, z = b2i (decide (0 ≤ kind ∧ kind ≤ 3)) → At 9 [some (rf 0), some (.inl kind), some (.inl a), some (.inl b), some (.inl to), none] [.inl z, rf 0] τ (0 + 1) (0 + 6) := fun z hz => by
        subst hz
        refine hA 9 _ rfl _ _ _ _ _ ?_
        refine Exists.intro _ (And.intro (by first | assumption | exact st_s | exact st_e (by decide) (by assumption) | exact st_e (by omega) (by assumption) | exact st_e (by decide) st_s | exact st_e (by omega) st_s | exact st_e (by decide) (st_e (by decide) (by assumption)) | exact st_e (by omega) (st_e (by omega) (by assumption))) (And.intro rfl (ab_inv_of (c_needArgument h0 (decide (0 ≤ kind ∧ kind ≤ 3))) (by first | decide | omega) (by omega) (by omega) ?_)))
        intro r' τ2 hpost
        rcases hpost with ⟨hbm, rfl, rfl⟩ | ⟨hbm, rfl, q9, hq9, rfl⟩
        · have hP2 := of_decide_eq_true hbm
          have hBa := hR a.toNat (by omega)
          have hBb := hR b.toNat (by omega)
          have hBt := hR to.toNat (by omega)
          have hBt1 := hBt.1
          have hjl : ∀ i, jn kind.toNat (R a.toNat) (R b.toNat) i < 32768 := fun i => jo_lt (hBa.2.2 i) (hBb.2.2 i)
          have hI2 := hI.res (k := to.toNat) (by omega) hjl (fun x hx => jn_hi (hRr _ (by omega) x hx) (hRr _ (by omega) x hx))
          have hB2 : IsB (ab_st τ2 (12 + 2 * to.toNat + 1) (bmc (jn kind.toNat (R a.toNat) (R b.toNat)))) (12 + 2 * to.toNat) (jn kind.toNat (R a.toNat) (R b.toNat)) := hBt.st hjl
          have hB21 := hB2.1
          have hlg := c_becomeLogic hBt hBa hBb kind.toNat (by omega)
          rw [show ((kind.toNat : Nat) : Int) = kind by omega] at hlg
          refine Exists.intro _ (And.intro (by first | assumption | exact st_s | exact st_e (by decide) (by assumption) | exact st_e (by omega) (by assumption) | exact st_e (by decide) st_s | exact st_e (by omega) st_s | exact st_e (by decide) (st_e (by decide) (by assumption)) | exact st_e (by omega) (st_e (by omega) (by assumption))) ?_)
          refine Exists.intro _ (And.intro (by first | assumption | exact st_s | exact st_e (by decide) (by assumption) | exact st_e (by omega) (by assumption) | exact st_e (by decide) st_s | exact st_e (by omega) st_s | exact st_e (by decide) (st_e (by decide) (by assumption)) | exact st_e (by omega) (st_e (by omega) (by assumption))) ?_)
          refine Exists.intro _ (Exists.intro _ (And.intro (by first | assumption | exact st_s | exact st_e (by decide) (by assumption) | exact st_e (by omega) (by assumption) | exact st_e (by decide) st_s | exact st_e (by omega) st_s | exact st_e (by decide) (st_e (by decide) (by assumption)) | exact st_e (by omega) (st_e (by omega) (by assumption))) (And.intro (by first | omega | (simp only [Int.toNat_natCast]; omega)) ?_)))
          refine Exists.intro _ (And.intro (by first | assumption | exact st_s | exact st_e (by decide) (by assumption) | exact st_e (by omega) (by assumption) | exact st_e (by decide) st_s | exact st_e (by omega) st_s | exact st_e (by decide) (st_e (by decide) (by assumption)) | exact st_e (by omega) (st_e (by omega) (by assumption))) ?_)
          refine Exists.intro _ (And.intro (by first | assumption | exact st_s | exact st_e (by decide) (by assumption) | exact st_e (by omega) (by assumption) | exact st_e (by decide) st_s | exact st_e (by omega) st_s | exact st_e (by decide) (st_e (by decide) (by assumption)) | exact st_e (by omega) (st_e (by omega) (by assumption))) ?_)
          refine Exists.intro _ (Exists.intro _ (And.intro (by first | assumption | exact st_s | exact st_e (by decide) (by assumption) | exact st_e (by omega) (by assumption) | exact st_e (by decide) st_s | exact st_e (by omega) st_s | exact st_e (by decide) (st_e (by decide) (by assumption)) | exact st_e (by omega) (st_e (by omega) (by assumption))) (And.intro (by first | omega | (simp only [Int.toNat_natCast]; omega)) ?_)))
          refine Exists.intro _ (And.intro (by first | assumption | exact st_s | exact st_e (by decide) (by assumption) | exact st_e (by omega) (by assumption) | exact st_e (by decide) st_s | exact st_e (by omega) st_s | exact st_e (by decide) (st_e (by decide) (by assumption)) | exact st_e (by omega) (st_e (by omega) (by assumption))) ?_)
          refine Exists.intro _ (And.intro (by first | assumption | exact st_s | exact st_e (by decide) (by assumption) | exact st_e (by omega) (by assumption) | exact st_e (by decide) st_s | exact st_e (by omega) st_s | exact st_e (by decide) (st_e (by decide) (by assumption)) | exact st_e (by omega) (st_e (by omega) (by assumption))) ?_)
          refine Exists.intro _ (Exists.intro _ (And.intro (by first | assumption | exact st_s | exact st_e (by decide) (by assumption) | exact st_e (by omega) (by assumption) | exact st_e (by decide) st_s | exact st_e (by omega) st_s | exact st_e (by decide) (st_e (by decide) (by assumption)) | exact st_e (by omega) (st_e (by omega) (by assumption))) (And.intro (by first | omega | (simp only [Int.toNat_natCast]; omega)) ?_)))
          refine Exists.intro _ (And.intro (by first | assumption | exact st_s | exact st_e (by decide) (by assumption) | exact st_e (by omega) (by assumption) | exact st_e (by decide) st_s | exact st_e (by omega) st_s | exact st_e (by decide) (st_e (by decide) (by assumption)) | exact st_e (by omega) (st_e (by omega) (by assumption))) (And.intro rfl (ab_inv_ev hlg (by first | decide | omega) (by first | exact Nat.le_refl _ | omega) (by first | exact Nat.le_refl _ | omega) ?_)))
          refine Exists.intro _ (And.intro (by first | assumption | exact st_s | exact st_e (by decide) (by assumption) | exact st_e (by omega) (by assumption) | exact st_e (by decide) st_s | exact st_e (by omega) st_s | exact st_e (by decide) (st_e (by decide) (by assumption)) | exact st_e (by omega) (st_e (by omega) (by assumption))) (And.intro rfl (ab_inv_ev (c_count hB2) (by first | decide | omega) (by first | exact Nat.le_refl _ | omega) (by first | exact Nat.le_refl _ | omega) ?_)))
          refine st_ok ?_ (fr.gr (A := fcA) (fr_st (by unfold fcA; omega))) hI2
          unfold sg_logic
          rw [if_pos hP, if_pos hP2]
        · have hP2 := of_decide_eq_false hbm
          exact st_no (by unfold sg_logic; rw [if_pos hP, if_neg hP2]) (gr_rf _ _) hI hq9
      have k8 : ¬ (0 ≤ kind ∧ kind ≤ 3) → At 8 [some (rf 0), some (.inl kind), some (.inl a), some (.inl b), some (.inl to), none] [rf 0] τ (0 + 1) (0 + 6) := fun h => by
        refine hA 8 _ rfl _ _ _ _ _ ?_
        exact k9 0 (by rw [decide_eq_false h]; rfl)
      refine And.intro (by first | assumption | exact b2i_R _ | exact rR (by omega) (by omega) | exact rR (by simp only [Int.toNat_natCast]; omega) (by simp only [Int.toNat_natCast]; omega)) (And.intro (fun q => ?_) (fun q => ?_))
      · exact k8 (by omega)
      · refine hA 6 _ rfl _ _ _ _ _ ?_
        refine And.intro (And.intro (by first | assumption | exact b2i_R _ | exact rR (by omega) (by omega) | exact rR (by simp only [Int.toNat_natCast]; omega) (by simp only [Int.toNat_natCast]; omega)) (by first | assumption | exact b2i_R _ | exact rR (by omega) (by omega) | exact rR (by simp only [Int.toNat_natCast]; omega) (by simp only [Int.toNat_natCast]; omega))) (And.intro (fun q => ?_) (fun q => ?_))
        · exact k8 (by omega)
        · refine hA 7 _ rfl _ _ _ _ _ ?_
          exact k9 1 (by rw [decide_eq_true (by omega)]; rfl)
    · have hP := of_decide_eq_false hbn
      exact st_no (by unfold sg_logic; rw [if_neg hP]) (gr_rf _ _) hI hq9
  have k4 : ¬ ((0 ≤ a ∧ a ≤ 5) ∧ (0 ≤ b ∧ b ≤ 5) ∧ 0 ≤ to ∧ to ≤ 5) → At 4 [some (rf 0), some (.inl kind), some (.inl a), some (.inl b), some (.inl to), none] [rf 0] σ 0 0 := fun h => by
    refine hA 4 _ rfl _ _ _ _ _ ?_
    exact k5 0 (by rw [decide_eq_false h]; rfl)
  refine hA 0 _ rfl _ _ _ _ _ ?_
  refine And.intro rfl (ab_inv_ev (c_isResult a ha) (by first | decide | omega) (by first | exact Nat.le_refl _ | omega) (by first | exact Nat.le_refl _ | omega) ?_)
  refine And.intro (by first | assumption | exact b2i_R _ | exact rR (by omega) (by omega) | exact rR (by simp only [Int.toNat_natCast]; omega) (by simp only [Int.toNat_natCast]; omega)) (And.intro (fun q => ?_) (fun q => ?_))
  · have q := of_decide_eq_false (b2i_0 q)
    exact k4 (fun h => q h.1)
  · have qa := of_decide_eq_true (b2i_1 q)
    refine hA 1 _ rfl _ _ _ _ _ ?_
    refine And.intro rfl (ab_inv_ev (c_isResult b hb) (by first | decide | omega) (by first | exact Nat.le_refl _ | omega) (by first | exact Nat.le_refl _ | omega) ?_)
    refine And.intro (by first | assumption | exact b2i_R _ | exact rR (by omega) (by omega) | exact rR (by simp only [Int.toNat_natCast]; omega) (by simp only [Int.toNat_natCast]; omega)) (And.intro (fun q => ?_) (fun q => ?_))
    · have q := of_decide_eq_false (b2i_0 q)
      exact k4 (fun h => q h.2.1)
    · have qb := of_decide_eq_true (b2i_1 q)
      refine hA 2 _ rfl _ _ _ _ _ ?_
      refine And.intro rfl (ab_inv_ev (c_isResult to hto) (by first | decide | omega) (by first | exact Nat.le_refl _ | omega) (by first | exact Nat.le_refl _ | omega) ?_)
      refine And.intro (by first | assumption | exact b2i_R _ | exact rR (by omega) (by omega) | exact rR (by simp only [Int.toNat_natCast]; omega) (by simp only [Int.toNat_natCast]; omega)) (And.intro (fun q => ?_) (fun q => ?_))
      · have q := of_decide_eq_false (b2i_0 q)
        exact k4 (fun h => q h.2.2)
      · have qt := of_decide_eq_true (b2i_1 q)
        refine hA 3 _ rfl _ _ _ _ _ ?_
        exact k5 1 (by rw [decide_eq_true ⟨qa, qb, qt⟩]; rfl)
set_option maxRecDepth 100000 in
set_option maxHeartbeats 1000000 in
theorem f_delete (hI : CI σ cc rows K va ad R f n pl c r) (row : Int) (hrow : ab_R row) : ab_call 8 1 6 yX9_delete [rf 0, .inl row] σ (stP σ (cc, rows, K, va, R, f, n, pl, c) r (sg_delete cc rows K va R f n pl c row)) := by
  obtain ⟨h0, -, ⟨h3, hr, h5, hC, hR, hRr⟩, -⟩ := id hI
  have hB := hR 6 (by omega)
  have hB1 := hB.1
  generalize hbb : decide ((0 ≤ row ∧ row < (rows : Int)) ∧ bit (R 6) row.toNat = true) = bb
  refine eX9_delete rfl (fun At hA => ?_)
  have k4 : ∀ z : Int, z = b2i bb → At 4 [some (rf 0), some (.inl row)] [.inl z, rf 0] σ 0 0 := fun z hz => by
    subst hz
    refine hA 4 _ rfl _ _ _ _ _ ?_
    refine Exists.intro _ (And.intro (by first | assumption | exact st_s | exact st_e (by decide) (by assumption) | exact st_e (by omega) (by assumption) | exact st_e (by decide) st_s | exact st_e (by omega) st_s | exact st_e (by decide) (st_e (by decide) (by assumption)) | exact st_e (by omega) (st_e (by omega) (by assumption))) (And.intro rfl (ab_inv_of (c_needElement h0 bb) (by first | decide | omega) (by omega) (by omega) ?_)))
    intro r' τ hpost
    rcases hpost with ⟨hbn, rfl, rfl⟩ | ⟨hbn, rfl, q9, hq9, rfl⟩
    · rw [hbn] at hbb
      have hP := of_decide_eq_true hbb
      have hcp := c_put hB row.toNat (by omega) false
      rw [show ((row.toNat : Nat) : Int) = row by omega] at hcp
      have hpl := pt_lt hB.2.2 row.toNat false
      have hI2 := hI.res (k := 6) (by omega) hpl (fun x hx => by rw [pt_bit]; split; rfl; exact hRr 6 (by omega) x hx)
      have hB2 : IsB (ab_st τ 25 (bmc (pt (R 6) row.toNat false))) 24 (pt (R 6) row.toNat false) := hB.st hpl
      have hB21 := hB2.1
      obtain ⟨z0, -, ⟨z3, -, z5, -⟩, -⟩ := id hI2
      have y0' : (ab_st τ 25 (bmc (pt (R 6) row.toNat false))).2 0 = some (c9 r) := z0
      have y3' : (ab_st τ 25 (bmc (pt (R 6) row.toNat false))).2 3 = some (tbc cc rows) := z3
      have y5' : (ab_st τ 25 (bmc (pt (R 6) row.toNat false))).2 5 = some rsc := z5
      refine Exists.intro _ (And.intro (by first | assumption | exact st_s | exact st_e (by decide) (by assumption) | exact st_e (by omega) (by assumption) | exact st_e (by decide) st_s | exact st_e (by omega) st_s | exact st_e (by decide) (st_e (by decide) (by assumption)) | exact st_e (by omega) (st_e (by omega) (by assumption))) ?_)
      refine Exists.intro _ (And.intro (by first | assumption | exact st_s | exact st_e (by decide) (by assumption) | exact st_e (by omega) (by assumption) | exact st_e (by decide) st_s | exact st_e (by omega) st_s | exact st_e (by decide) (st_e (by decide) (by assumption)) | exact st_e (by omega) (st_e (by omega) (by assumption))) (And.intro rfl (ab_inv_ev (c_live h3 h5) (by first | decide | omega) (by first | exact Nat.le_refl _ | omega) (by first | exact Nat.le_refl _ | omega) ?_)))
      refine Exists.intro _ (And.intro (by first | assumption | exact st_s | exact st_e (by decide) (by assumption) | exact st_e (by omega) (by assumption) | exact st_e (by decide) st_s | exact st_e (by omega) st_s | exact st_e (by decide) (st_e (by decide) (by assumption)) | exact st_e (by omega) (st_e (by omega) (by assumption))) (And.intro rfl (ab_inv_ev hcp (by first | decide | omega) (by first | exact Nat.le_refl _ | omega) (by first | exact Nat.le_refl _ | omega) ?_)))
      refine Exists.intro _ (And.intro (by first | assumption | exact st_s | exact st_e (by decide) (by assumption) | exact st_e (by omega) (by assumption) | exact st_e (by decide) st_s | exact st_e (by omega) st_s | exact st_e (by decide) (st_e (by decide) (by assumption)) | exact st_e (by omega) (st_e (by omega) (by assumption))) ?_)
      refine Exists.intro _ (And.intro (by first | assumption | exact st_s | exact st_e (by decide) (by assumption) | exact st_e (by omega) (by assumption) | exact st_e (by decide) st_s | exact st_e (by omega) st_s | exact st_e (by decide) (st_e (by decide) (by assumption)) | exact st_e (by omega) (st_e (by omega) (by assumption))) (And.intro rfl (ab_inv_ev (c_live y3' y5') (by first | decide | omega) (by first | exact Nat.le_refl _ | omega) (by first | exact Nat.le_refl _ | omega) ?_)))
      refine Exists.intro _ (And.intro (by first | assumption | exact st_s | exact st_e (by decide) (by assumption) | exact st_e (by omega) (by assumption) | exact st_e (by decide) st_s | exact st_e (by omega) st_s | exact st_e (by decide) (st_e (by decide) (by assumption)) | exact st_e (by omega) (st_e (by omega) (by assumption))) (And.intro rfl (ab_inv_ev (c_count hB2) (by first | decide | omega) (by first | exact Nat.le_refl _ | omega) (by first | exact Nat.le_refl _ | omega) ?_)))
      refine st_ok ?_ (fr.gr (A := fcA) (fr_st (by unfold fcA; omega))) hI2
      unfold sg_delete
      rw [if_pos hP]
    · rw [hbn] at hbb
      have hP := of_decide_eq_false hbb
      exact st_no (by unfold sg_delete; rw [if_neg hP]) (gr_rf _ _) hI hq9
  have k3 : bb = false → At 3 [some (rf 0), some (.inl row)] [rf 0] σ 0 0 := fun h => by
    refine hA 3 _ rfl _ _ _ _ _ ?_
    exact k4 0 (by rw [h]; rfl)
  refine hA 0 _ rfl _ _ _ _ _ ?_
  refine Exists.intro _ (And.intro (by first | assumption | exact st_s | exact st_e (by decide) (by assumption) | exact st_e (by omega) (by assumption) | exact st_e (by decide) st_s | exact st_e (by omega) st_s | exact st_e (by decide) (st_e (by decide) (by assumption)) | exact st_e (by omega) (st_e (by omega) (by assumption))) ?_)
  refine Exists.intro _ (And.intro (by first | assumption | exact st_s | exact st_e (by decide) (by assumption) | exact st_e (by omega) (by assumption) | exact st_e (by decide) st_s | exact st_e (by omega) st_s | exact st_e (by decide) (st_e (by decide) (by assumption)) | exact st_e (by omega) (st_e (by omega) (by assumption))) (And.intro rfl (ab_inv_ev (c_hasRow h3 hr row hrow) (by first | decide | omega) (by first | exact Nat.le_refl _ | omega) (by first | exact Nat.le_refl _ | omega) ?_)))
  refine And.intro (by first | assumption | exact b2i_R _ | exact rR (by omega) (by omega) | exact rR (by simp only [Int.toNat_natCast]; omega) (by simp only [Int.toNat_natCast]; omega)) (And.intro (fun q => ?_) (fun q => ?_))
  · have q := b2i_0 q
    rw [Bool.and_eq_false_iff, decide_eq_false_iff_not, decide_eq_false_iff_not] at q
    exact k3 (by rw [← hbb]; exact decide_eq_false (fun h => by have := h.1; omega))
  · have q := b2i_1 q
    rw [Bool.and_eq_true, decide_eq_true_iff, decide_eq_true_iff] at q
    have hcc := c_contains hB row.toNat (by omega)
    rw [show ((row.toNat : Nat) : Int) = row by omega] at hcc
    refine hA 1 _ rfl _ _ _ _ _ ?_
    refine Exists.intro _ (And.intro (by first | assumption | exact st_s | exact st_e (by decide) (by assumption) | exact st_e (by omega) (by assumption) | exact st_e (by decide) st_s | exact st_e (by omega) st_s | exact st_e (by decide) (st_e (by decide) (by assumption)) | exact st_e (by omega) (st_e (by omega) (by assumption))) ?_)
    refine Exists.intro _ (And.intro (by first | assumption | exact st_s | exact st_e (by decide) (by assumption) | exact st_e (by omega) (by assumption) | exact st_e (by decide) st_s | exact st_e (by omega) st_s | exact st_e (by decide) (st_e (by decide) (by assumption)) | exact st_e (by omega) (st_e (by omega) (by assumption))) (And.intro rfl (ab_inv_ev (c_live h3 h5) (by first | decide | omega) (by first | exact Nat.le_refl _ | omega) (by first | exact Nat.le_refl _ | omega) ?_)))
    refine Exists.intro _ (And.intro (by first | assumption | exact st_s | exact st_e (by decide) (by assumption) | exact st_e (by omega) (by assumption) | exact st_e (by decide) st_s | exact st_e (by omega) st_s | exact st_e (by decide) (st_e (by decide) (by assumption)) | exact st_e (by omega) (st_e (by omega) (by assumption))) (And.intro rfl (ab_inv_ev hcc (by first | decide | omega) (by first | exact Nat.le_refl _ | omega) (by first | exact Nat.le_refl _ | omega) ?_)))
    refine And.intro (by first | assumption | exact b2i_R _ | exact rR (by omega) (by omega) | exact rR (by simp only [Int.toNat_natCast]; omega) (by simp only [Int.toNat_natCast]; omega)) (And.intro (fun q => ?_) (fun q => ?_))
    · have q2 := b2i_0 q
      exact k3 (by rw [← hbb]; exact decide_eq_false (fun h => by rw [q2] at h; exact absurd h.2 (by decide)))
    · have q2 := b2i_1 q
      refine hA 2 _ rfl _ _ _ _ _ ?_
      exact k4 1 (by rw [← hbb, decide_eq_true ⟨by assumption, q2⟩]; rfl)
end CIup
