-- ===== questions asked whole; comparisons foretold =====
section Quest2
variable {σ : ab_H} {cc rows : Nat} {K : Nat → CT} {va : Nat → Nat → Nat} {ad : Nat → Nat} {R : Nat → V1} {f : Nat → Int} {n : Nat} {pl : Int} {c : C3} {r : Nat → Nat}
set_option maxRecDepth 100000 in
set_option maxHeartbeats 1000000 in
theorem c_becomeComparison (h3 : σ.2 3 = some (tbc cc rows)) (hC : IsCs σ cc rows K va ad) {b : Bool} {NM : List N3} (h : NS σ b NM) (i k : Nat) (hi : i < 6) (hk : k < cc) (x : Nat) (hx : x < 1000) : ab_call 4 0 0 yX5_becomeComparison [rf 29, .inl i, .inl k, .inl x] σ (fun r σ' => r = .inl none ∧ fr nA σ σ' ∧ NS σ' true (cmpN K i k x)) := by
  obtain ⟨L, cl, co, nu, l1, l2, l3, l4, l5, l6⟩ := h
  have hN : NS (ab_st σ 29 (qsc 0)) true [] := ⟨0, cl, co, nu, Nat.zero_le _, st_s, st_e (by decide) l3, st_e (by decide) l4, st_e (by decide) l5, fun _ => ⟨rfl, fun j hj => by omega⟩⟩
  have hf : fr nA σ (ab_st σ 29 (qsc 0)) := fr_st (by unfold nA; omega)
  have q3 : (ab_st σ 29 (qsc 0)).2 3 = some (tbc cc rows) := st_e (by decide) h3
  have qC := hC.fr hf (by unfold nA; omega) (fun a ha => by unfold nA; omega)
  refine eX5_becomeComparison rfl (fun At hA => ?_)
  refine hA 0 _ rfl _ _ _ _ _ ?_
  refine Exists.intro _ (And.intro (by first | assumption | exact st_s | exact st_e (by decide) (by assumption) | exact st_e (by omega) (by assumption) | exact st_e (by decide) st_s | exact st_e (by omega) st_s | exact st_e (by decide) (st_e (by decide) (by assumption)) | exact st_e (by omega) (st_e (by omega) (by assumption))) ?_)
  refine Exists.intro _ (And.intro (by first | assumption | exact st_s | exact st_e (by decide) (by assumption) | exact st_e (by omega) (by assumption) | exact st_e (by decide) st_s | exact st_e (by omega) st_s | exact st_e (by decide) (st_e (by decide) (by assumption)) | exact st_e (by omega) (st_e (by omega) (by assumption))) (And.intro rfl (ab_inv_of (c_noteComparison q3 qC hN (by decide) i k hi hk x hx) (by first | decide | omega) (by omega) (by omega) ?_)))
  intro r' τ hpost
  obtain ⟨rfl, hf2, hN2⟩ := hpost
  exact ⟨rfl, hf.tr hf2, hN2⟩
/-- a text read as a question: how it stands, its notes -/
def qsT (f : Nat → Int) (len : Nat) (K : Nat → CT) (cc : Nat) : S2 := endT f len (pqT f len K cc 5 (.inr 0)).1
set_option maxRecDepth 100000 in
set_option maxHeartbeats 1000000 in
theorem c_isRead {len : Nat} (hf : byR f) (hl : len ≤ 200) (hX : QX σ f cc rows K va ad) {st : Int} (h1 : σ.2 1 = some (tpc 0 len 0 st 0 (-1))) {b : Bool} {NM : List N3} (h : NS σ b NM) : ab_call 20 0 0 yX5_isRead [rf 29] σ (fun r σ' => r = .inl (some (.inl (b2i (isR (qsT f len K cc))))) ∧ fr qA σ σ' ∧ TT σ' 0 f len (qsT f len K cc) ∧ NS σ' (isR (qsT f len K cc)) (pqT f len K cc 5 (.inr 0)).2.1) := by
  obtain ⟨L, cl, co, nu, l1, l2, l3, l4, l5, l6⟩ := h
  have hN : NS (ab_st σ 29 (qsc 0)) true [] := ⟨0, cl, co, nu, Nat.zero_le _, st_s, st_e (by decide) l3, st_e (by decide) l4, st_e (by decide) l5, fun _ => ⟨rfl, fun j hj => by omega⟩⟩
  have hf0 : fr nA σ (ab_st σ 29 (qsc 0)) := fr_st (by unfold nA; omega)
  have qX := hX.fr hf0 nA_q
  have hT : TT (ab_st σ 29 (qsc 0)) 0 f len (.inr 0) := ⟨Nat.zero_le _, 0, st, Nat.zero_le _, rfl, st_e (by decide) h1⟩
  refine eX5_isRead rfl (fun At hA => ?_)
  have hcall := c_readCall (n := 0) (va := va) (ad := ad) (rows := rows) (K := K) (cc := cc) hf hl 5 0 rfl (ab_st σ 29 (qsc 0)) (.inr 0) [] qX hT hN (fun a h => Nat.zero_le _)
  refine hA 0 _ rfl _ _ _ _ _ ?_
  refine Exists.intro _ (And.intro (by first | assumption | exact st_s | exact st_e (by decide) (by assumption) | exact st_e (by omega) (by assumption) | exact st_e (by decide) st_s | exact st_e (by omega) st_s | exact st_e (by decide) (st_e (by decide) (by assumption)) | exact st_e (by omega) (st_e (by omega) (by assumption))) ?_)
  refine Exists.intro _ (And.intro (by first | assumption | exact st_s | exact st_e (by decide) (by assumption) | exact st_e (by omega) (by assumption) | exact st_e (by decide) st_s | exact st_e (by omega) st_s | exact st_e (by decide) (st_e (by decide) (by assumption)) | exact st_e (by omega) (st_e (by omega) (by assumption))) (And.intro rfl (ab_inv_of hcall (by first | decide | omega) (by omega) (by omega) ?_)))
  intro r' τ hpost
  obtain ⟨rfl, f2, T2, N2⟩ := hpost
  have X2 := qX.fr f2 (fun a h => h)
  obtain ⟨_, l29⟩ := N2.c29
  obtain ⟨_, _, _, _, -, -, t1⟩ := T2.cell
  refine Exists.intro _ (And.intro (by first | assumption | exact st_s | exact st_e (by decide) (by assumption) | exact st_e (by omega) (by assumption) | exact st_e (by decide) st_s | exact st_e (by omega) st_s | exact st_e (by decide) (st_e (by decide) (by assumption)) | exact st_e (by omega) (st_e (by omega) (by assumption))) ?_)
  refine Exists.intro _ (And.intro (by first | assumption | exact st_s | exact st_e (by decide) (by assumption) | exact st_e (by omega) (by assumption) | exact st_e (by decide) st_s | exact st_e (by omega) st_s | exact st_e (by decide) (st_e (by decide) (by assumption)) | exact st_e (by omega) (st_e (by omega) (by assumption))) (And.intro rfl (ab_inv_of (q_end T2 X2.1 hf (by omega)) (by first | decide | omega) (by omega) (by omega) ?_)))
  intro r' υ hpost
  obtain ⟨rfl, f3, T3⟩ := hpost
  have N3' := N2.fr f3 tA_n
  obtain ⟨_, l29⟩ := N3'.c29
  obtain ⟨_, _, _, _, -, -, t1⟩ := T3.cell
  refine Exists.intro _ (And.intro (by first | assumption | exact st_s | exact st_e (by decide) (by assumption) | exact st_e (by omega) (by assumption) | exact st_e (by decide) st_s | exact st_e (by omega) st_s | exact st_e (by decide) (st_e (by decide) (by assumption)) | exact st_e (by omega) (st_e (by omega) (by assumption))) ?_)
  refine Exists.intro _ (And.intro (by first | assumption | exact st_s | exact st_e (by decide) (by assumption) | exact st_e (by omega) (by assumption) | exact st_e (by decide) st_s | exact st_e (by omega) st_s | exact st_e (by decide) (st_e (by decide) (by assumption)) | exact st_e (by omega) (st_e (by omega) (by assumption))) (And.intro rfl (ab_inv_ev (q_sound T3) (by first | decide | omega) (by first | exact Nat.le_refl _ | omega) (by first | exact Nat.le_refl _ | omega) ?_)))
  refine And.intro (by first | exact Or.inl rfl | exact Or.inr rfl | exact b2i_01 _) ?_
  have hr : isR (endT f len (pqT f len K cc 5 (.inr 0)).1) = true → isR (pqT f len K cc 5 (.inr 0)).1 = true := fun h => by
    cases hs : (pqT f len K cc 5 (.inr 0)).1 with
    | inl e => rw [hs] at h; exact h
    | inr y => rfl
  exact ⟨rfl, ((hf0.mono nA_q).tr f2).tr (f3.mono tA_q), T3, N3'.lo hr (fun _ => rfl)⟩
/-- what answering needs of the class's state -/
theorem CI.an (h : CI σ cc rows K va ad R f n pl c r) : anX σ cc rows K va ad R := by
  obtain ⟨h0, h1, ⟨t1, t2, t3, t4, t5, t6⟩, h3, h4, ⟨a1, a2, a3, a4, a5⟩, h6⟩ := h
  exact ⟨a1, t1, t2, t3, t4, t5, a2⟩
end Quest2
