section AbOps3
variable {p : Program} {l : Launch} {e : Env} {R : Room} {s : State} {m : MethodId} {args : Array Value} {below : List Frame} {meth : Method} {c : Code} {Q : State → Prop} {X : ab_X} {nL : Nat} {cc : ByteArray} {own : String} {pc : Nat} {L : ab_L} {S : List ab_V} {σ : ab_H} {k n : Nat}
def ab_st (σ : ab_H) (a : Nat) (x : ab_C) : ab_H := (σ.1, ab_up σ.2 a (some x))
def ab_nw (σ : ab_H) (x : ab_C) : ab_H := (σ.1 + 1, ab_up σ.2 σ.1 (some x))
theorem ab_hr_set {H H' : Heap} {a : Nat} {c1 : ab_C} (hr : ab_hr X σ H) (h1 : va_at X.2.1 vwCl (X.1 + a, ab_c X c1) H') (hz : H'.size = H.size) (ho : ∀ q, q ≠ X.1 + a → H'[q]? = H[q]?) : ab_hr X (ab_st σ a c1) H' := by
  refine ⟨hz.trans hr.1, fun b c2 h2 => ?_, fun q hq => (ho q (by omega)).trans (hr.2.2 q hq)⟩
  by_cases e : b = a
  · subst e
    rw [show (ab_st σ b c1).2 b = some c1 from ab_up_s] at h2
    cases h2
    exact h1
  · rw [show (ab_st σ a c1).2 b = σ.2 b from ab_up_n e] at h2
    exact (hr.2.1 b c2 h2).kept (ho _ (by show X.1 + b ≠ X.1 + a; omega))
theorem ab_hr_push {H H' : Heap} {c1 : ab_C} (hr : ab_hr X σ H) (h1 : va_at X.2.1 vwCl (H.size, ab_c X c1) H') (hz : H'.size = H.size + 1) (ho : ∀ q, q < H.size → H'[q]? = H[q]?) : ab_hr X (ab_nw σ c1) H' := by
  refine ⟨by rw [hz, hr.1]; rfl, fun b c2 h2 => ?_, fun q hq => (ho q (by rw [hr.1]; omega)).trans (hr.2.2 q hq)⟩
  by_cases e : b = σ.1
  · subst e
    rw [show (ab_nw σ c1).2 σ.1 = some c1 from ab_up_s] at h2
    cases h2
    rw [hr.1] at h1
    exact h1
  · rw [show (ab_nw σ c1).2 b = σ.2 b from ab_up_n e] at h2
    have h3 := hr.2.1 b c2 h2
    exact h3.kept (ho _ h3.lt)
theorem ab_lz {locs : List Loc} {a j : Nat} (hz : ∀ z ∈ locs, X.1 ≤ z.base) : ∀ z ∈ locs ++ [⟨X.1 + a, j⟩], X.1 ≤ z.base := by
  intro z h
  rcases List.mem_append.mp h with h | h
  · exact hz z h
  · rw [List.mem_singleton.mp h]
    exact Nat.le_add_right _ _
/-- a value fits a field of this type -/
def ab_ft (ty : FieldType) (v : ab_V) : Prop := match ty, v with
  | .int, .inl _ => True
  | .boolean, .inl z => z = 0 ∨ z = 1
  | .object _, .inr (.inl _) => True
  | .array _, .inr (.inl _) => True
  | _, _ => False
theorem ab_ft_ok {ty : FieldType} {v : ab_V} (h : ab_ft ty v) : narrow ty (ab_v X v) = ab_v X v ∧ fits ty (ab_v X v) = true := by
  match ty, v, h with
  | .int, .inl z, _ => exact ⟨rfl, rfl⟩
  | .boolean, .inl z, h =>
    rcases h with rfl | rfl
    · exact ⟨rfl, rfl⟩
    · exact ⟨rfl, rfl⟩
  | .object _, .inr (.inl none), _ => exact ⟨rfl, rfl⟩
  | .object _, .inr (.inl (some a)), _ => exact ⟨rfl, rfl⟩
  | .array _, .inr (.inl none), _ => exact ⟨rfl, rfl⟩
  | .array _, .inr (.inl (some a)), _ => exact ⟨rfl, rfl⟩
theorem ab_put {idx ci j : Nat} {a : Nat} {fs : List ab_V} {v : ab_V} {C : String} {T : u_T} {N : Nat} {ty0 : Nat → FieldType} (F : ab_fx p s m args c X nL cc own) (hd : decode cc pc = .ok (.putfield idx, 3)) (hc : vwCl[ci]? = some (C, T, N)) (hj : j < N) (hin : ∀ w ∈ u_ws C T N, w ∈ ab_ws) (hlink : Cond.fieldLink own idx (T j).1 (T j).2.1 (T j).2.2.1 ∈ ab_ws)
    (hty : ∀ k, k < N → parseFieldDescriptor (T k).2.2.1 = some (ty0 k)) (hnm : ∀ a, a < N → ∀ b, b < N → a ≠ b → (T a).2.1 ≠ (T b).2.1) (hfin : (T j).2.2.2 = false ∨ ((T j).2.2.2 = true ∧ meth.name = "<init>" ∧ (T j).1 = own))
    (ha : σ.2 a = some (.inl (ci, fs))) (hv : ab_ft (ty0 j) v) (hlen : j < fs.length) (h : ab_g p l e R s m args below meth c Q X nL (pc + 3) L S (ab_st σ a (.inl (ci, fs.set j v))) k n) : ab_g p l e R s m args below meth c Q X nL pc L (v :: .inr (.inl (some a)) :: S) σ k n :=
  fun H locs ls hr hz hl hk hn => by
    have hts := F.2.2.2.2.1
    have hK := F.2.2.2.2.2.1
    have hap := va_apart (own := own) hts hin ty0 hty hnm hK hc
    obtain ⟨r, h1, cell, q1, q2, q3, q4⟩ := hr.2.1 a _ ha
    have hr2 : r = (C, T, N) := Option.some.inj (h1.symm.trans hc)
    subst hr2
    obtain ⟨hS, hfc, kC, hkC, hkind⟩ := hK.1 ci _ hc
    obtain ⟨cf, kf, fi, f, hi, hsl⟩ := hS j hj
    have hlay := hts _ (hin _ (u_in_lay hj))
    have hst := (u_facts hfc hkC (u_lays hts hin hj) hi).1
    have hl2 : j < (fs.map (ab_v X)).length := by rw [List.length_map]; exact hlen
    have fin : ∀ H' : Heap, H'[X.1 + a]? = some (cell.setSlot f.slot (ab_v X v)) → H'.size = H.size → (∀ q, q ≠ X.1 + a → H'[q]? = H[q]?) → W p l e R s m args below meth c H' (locs ++ [⟨X.1 + a, f.slot⟩]) k n Q (F0 m (pc + 3) ls (S.map (ab_v X))) := fun H' e1 e2 e3 => by
      rw [hsl] at e1 ⊢
      refine h H' _ ls (ab_hr_set hr ?_ e2 e3) (ab_lz hz) hl hk hn
      show va_at X.2.1 vwCl (X.1 + a, .inr (ci, (fs.set j v).map (ab_v X))) H'
      rw [List.map_set]
      exact ⟨_, hc, t_OB.to (V := updV (vp_V (fs.map (ab_v X))) j (ab_v X v)) ⟨_, e1, q2, q3, t_set q4 hap hj _⟩ (fun i _ => vp_updV_set hl2 _ i)⟩
    obtain ⟨hn1, hf1⟩ := ab_ft_ok (X := X) hv
    rcases hfin with hfin | ⟨hfin, hin2, hdecl⟩
    · unfold u_lay at hlay
      rw [if_neg (by rw [hfin]; decide)] at hlay
      have h6 := u_store hfc hkC hkind hlay hi (hty j hj) hn1 hf1
      exact W.putK F.1 F.2.1 (f := f) ⟨F.2.2.2.1, hts _ hlink, ⟨_, _, _, hi⟩, hst⟩ (by rw [q2]; exact h6) q1 q3 (by rw [hsl]; exact k2_hasslot (q4 j hj)) rfl rfl hd fin
    · unfold u_lay at hlay
      rw [if_pos hfin] at hlay
      have hcf : m.cls = cf := by
        obtain ⟨_, _, c', _, _, _, -, -, hf', -, -, -, hown2, -⟩ := Cond.laysFinal_spec hlay
        have e1 : c' = cf := by have := hi.symm.trans hf'; simp at this; exact this.1.symm
        rw [hdecl] at hown2
        rw [← e1]; exact Option.some.inj (F.2.2.2.1.symm.trans hown2)
      have h6 := u_fits hfc hkC hkind (Or.inr hlay) hi (hty j hj) hn1 hf1
      exact W.putFinK F.1 F.2.1 F.2.2.2.1 (hts _ hlink) hi hst hcf hin2 (by rw [q2]; exact h6) q1 q3 (by rw [hsl]; exact k2_hasslot (q4 j hj)) rfl rfl hd fin
theorem ab_arrset {H' : Heap} {q a N : Nat} {f : Nat → Int} {i x : Int} {w : Value} (h0 : 0 ≤ i) (hR : ab_R i) (e : H'[X.1 + a]? = some ((vp_cell (X.2.2.1 q) (N, ab_na q f)).setSlot (Int32.ofInt i).toNatClampNeg w)) (hw : w = if q = 2 then .long (Int64.ofInt x) else .int (Int32.ofInt x)) : va_at X.2.1 vwCl (X.1 + a, ab_c X (.inr (.inl (q, N, ab_up f i.toNat x)))) H' := by
  show H'[X.1 + a]? = some (vp_cell _ _)
  rw [e, ab_clamp h0 hR]
  show some _ = some (vp_cell (X.2.2.1 q) (N, ab_na q (ab_up f i.toNat x)))
  unfold ab_na
  by_cases hq : q = 2
  · rw [if_pos hq] at hw
    rw [if_pos hq, if_pos hq, vp_cell_l, vp_cell_l, arrV_store, hw]
    congr 2
    funext j
    by_cases hj : j = i.toNat
    · subst hj; simp [updV, ab_up]
    · simp [updV, ab_up, hj]
  · rw [if_neg hq] at hw
    rw [if_neg hq, if_neg hq, vp_cell_i, vp_cell_i, arrV_store, hw]
    congr 2
    funext j
    by_cases hj : j = i.toNat
    · subst hj; simp [updV, ab_up]
    · simp [updV, ab_up, hj]
theorem ab_iast {a : Nat} {i x : Int} {N : Nat} {f : Nat → Int} (F : ab_fx p s m args c X nL cc own) (hd : decode cc pc = .ok (.iastore, 1)) (ha : σ.2 a = some (.inr (.inl (0, N, f)))) (h0 : 0 ≤ i) (hi : i < N) (hR : ab_R i) (h : ab_g p l e R s m args below meth c Q X nL (pc + 1) L S (ab_st σ a (.inr (.inl (0, N, ab_up f i.toNat x)))) k n) : ab_g p l e R s m args below meth c Q X nL pc L (.inl x :: .inl i :: .inr (.inl (some a)) :: S) σ k n :=
  fun H locs ls hr hz hl hk hn => W.iast F.1 F.2.1 (hr.2.1 a _ ha) ((F.2.2.2.2.2.1.2 0 _ rfl).1 N (fun j => .int (Int32.ofInt (f j)))) (fun q => by cases q) (by show ¬ (Int32.ofInt i < 0 ∨ (arrV _ _ _).slots.size ≤ _); rw [arrV_size]; exact ab_in h0 hR hi) rfl rfl hd fun H1 e z oq =>
    h H1 _ ls (ab_hr_set hr (ab_arrset (q := 0) h0 hR e rfl) z oq) (ab_lz hz) hl hk hn
theorem ab_zast {a : Nat} {i x : Int} {N : Nat} {f : Nat → Int} (F : ab_fx p s m args c X nL cc own) (hd : decode cc pc = .ok (.bastore, 1)) (ha : σ.2 a = some (.inr (.inl (1, N, f)))) (h0 : 0 ≤ i) (hi : i < N) (hR : ab_R i) (hx : x = 0 ∨ x = 1) (h : ab_g p l e R s m args below meth c Q X nL (pc + 1) L S (ab_st σ a (.inr (.inl (1, N, ab_up f i.toNat x)))) k n) : ab_g p l e R s m args below meth c Q X nL pc L (.inl x :: .inl i :: .inr (.inl (some a)) :: S) σ k n :=
  fun H locs ls hr hz hl hk hn => W.zast F.1 F.2.1 (hr.2.1 a _ ha) ((F.2.2.2.2.2.1.2 1 _ rfl).1 N (fun j => .int (Int32.ofInt (f j)))) (fun q => by cases q) (by show ¬ (Int32.ofInt i < 0 ∨ (arrV _ _ _).slots.size ≤ _); rw [arrV_size]; exact ab_in h0 hR hi) rfl rfl hd fun H1 e z oq =>
    h H1 _ ls (ab_hr_set hr (ab_arrset (q := 1) h0 hR e (by rcases hx with rfl | rfl <;> rfl)) z oq) (ab_lz hz) hl hk hn
theorem ab_last {a : Nat} {i x : Int} {N : Nat} {f : Nat → Int} (F : ab_fx p s m args c X nL cc own) (hd : decode cc pc = .ok (.lastore, 1)) (ha : σ.2 a = some (.inr (.inl (2, N, f)))) (h0 : 0 ≤ i) (hi : i < N) (hR : ab_R i) (h : ab_g p l e R s m args below meth c Q X nL (pc + 1) L S (ab_st σ a (.inr (.inl (2, N, ab_up f i.toNat x)))) k n) : ab_g p l e R s m args below meth c Q X nL pc L (.inr (.inr (.inl x)) :: .inl i :: .inr (.inl (some a)) :: S) σ k n :=
  fun H locs ls hr hz hl hk hn => W.last F.1 F.2.1 (hr.2.1 a _ ha) ((F.2.2.2.2.2.1.2 2 _ rfl).1 N (fun j => .long (Int64.ofInt (f j)))) (fun q => by cases q) (by show ¬ (Int32.ofInt i < 0 ∨ (arrV _ _ _).slots.size ≤ _); rw [arrV_size]; exact ab_in h0 hR hi) rfl rfl hd fun H1 e z oq =>
    h H1 _ ls (ab_hr_set hr (ab_arrset (q := 2) h0 hR e rfl) z oq) (ab_lz hz) hl hk hn
/-- the class of a reference array's members -/
def ab_qc : Nat → Nat
  | 0 => 2
  | _ => 3
theorem ab_aast {a b : Nat} {i : Int} {q N : Nat} {f : Nat → Option Nat} {fs : List ab_V} (F : ab_fx p s m args c X nL cc own) (hd : decode cc pc = .ok (.aastore, 1)) (ha : σ.2 a = some (.inr (.inr (q, N, f)))) (hq : q < 2) (hb : σ.2 b = some (.inl (ab_qc q, fs))) (h0 : 0 ≤ i) (hi : i < N) (hR : ab_R i) (h : ab_g p l e R s m args below meth c Q X nL (pc + 1) L S (ab_st σ a (.inr (.inr (q, N, ab_up f i.toNat (some b))))) k n) : ab_g p l e R s m args below meth c Q X nL pc L (.inr (.inl (some b)) :: .inl i :: .inr (.inl (some a)) :: S) σ k n :=
  fun H locs ls hr hz hl hk hn => by
    have hK := F.2.2.2.2.2.1
    have hin := ab_in h0 hR hi
    have hlt : (Int32.ofInt i).toNatClampNeg < N := Nat.not_le.mp fun q => hin (Or.inr q)
    have h00 : ¬ Int32.ofInt i < 0 := fun q => hin (Or.inl q)
    obtain ⟨r', hr', cellV, g1, g2, g3, -⟩ := hr.2.1 b _ hb
    have key : ∀ (t0 : Nat) (r : vw_C), (ab_t X)[t0]? = some (X.2.2.2.1 q, .object r.1) → vwCl[ab_qc q]? = some r → W p l e R s m args below meth c H locs k n Q (F0 m pc ls ((Sum.inr (Sum.inl (some b)) :: Sum.inl i :: Sum.inr (Sum.inl (some a)) :: S : List ab_V).map (ab_v X))) := fun t0 r ht hc => by
      have hcls := (hK.1 (ab_qc q) r hc).2
      obtain ⟨kA, comp, k1, k2, k3, -⟩ := (hK.2 t0 _ ht).2
      have hcomp : comp = X.2.1.1 (ab_qc q) := Option.some.inj (k3.symm.trans hcls.1)
      subst hcomp
      obtain ⟨kC, hkC, -⟩ := hcls.2
      refine W.aast F.1 F.2.1 (hr.2.1 a _ ha) (fun q h => by cases h) (fun h => by cases h) k1 k2 rfl hkC ⟨h00, by show _ < (arrV _ _ _).slots.size; rw [arrV_size]; exact hlt⟩ g1 (fun q h => by rw [g3] at h; cases h) (by rw [g2]; exact hkC) (by rw [g2]; exact va_assign hcls) rfl rfl hd fun H1 e z oq => ?_
      refine h H1 _ ls (ab_hr_set hr ?_ z oq) (ab_lz hz) hl hk hn
      show H1[X.1 + a]? = some (vp_cell _ _)
      rw [e]
      rw [vp_cell_q, vp_cell_q, arrV_store, ab_clamp h0 hR]
      congr 2
      funext j
      by_cases hj : j = i.toNat
      · subst hj; simp [updV, ab_up, va_rf]
      · simp [updV, ab_up, hj]
    rcases (show q = 0 ∨ q = 1 by omega) with rfl | rfl
    · exact key 3 (RX2, TX2, 1) rfl rfl
    · exact key 4 (RX3, TX3, 8) rfl rfl
theorem ab_newa {at0 : ArrayType} {z : Int} {q : Nat} (F : ab_fx p s m args c X nL cc own) (hd : decode cc pc = .ok (.newarray at0, 2)) (hq : ab_nk at0 = some q) (ht : Cond.arrayClass (newarray.typeOf at0) ∈ ab_ws) (h0 : 0 ≤ z) (hz1 : z < 10000) (hk1 : k + 1 ≤ R.cells) (hn1 : n + z.toNat ≤ R.slots) (h : ab_g p l e R s m args below meth c Q X nL (pc + 2) L (.inr (.inl (some σ.1)) :: S) (ab_nw σ (.inr (.inl (q, z.toNat, fun _ => 0)))) (k + 1) (n + z.toNat)) : ab_g p l e R s m args below meth c Q X nL pc L (.inl z :: S) σ k n :=
  fun H locs ls hr hz hl hk hn => by
    have hK := F.2.2.2.2.2.1
    have hzR : ab_R z := by unfold ab_R; omega
    have hneg : ¬ Int32.ofInt z < 0 := fun q => by have := (ab_lt hzR ab_R0).mp q; omega
    have hcl : (Int32.ofInt z).toNatClampNeg = z.toNat := ab_clamp h0 hzR
    have main : ∀ (ty : FieldType) (t0 : Nat), newarray.typeOf at0 = ty → (ab_t X)[t0]? = some (X.2.2.1 q, ty) → (∀ (cA : ClassId), va_RA s cA ty → cA = X.2.2.1 q) → componentBytes ty ≤ 8 → (∀ cA : ClassId, vp_cell cA (z.toNat, ab_na q (fun _ => 0)) = arrV cA z.toNat (fun _ => defaultValue ty)) → W p l e R s m args below meth c H locs k n Q (F0 m pc ls ((Sum.inl z :: S : List ab_V).map (ab_v X))) := fun ty t0 hty ht0 hu hcb hdef => by
      subst hty
      refine va_newaK F.1 F.2.1 (F.2.2.2.2.1 _ ht) rfl hd rfl hneg hcl (Nat.le_trans (Nat.mul_le_mul_left _ hcb) (by omega)) hk1 hn1 rfl fun H1 cA e1 z1 o1 hAr hNm => ?_
      have hc : cA = X.2.2.1 q := hu cA (by cases at0 <;> exact hNm)
      subst hc
      have h2 := h H1 locs ls (ab_hr_push hr (by show H1[H.size]? = some (vp_cell _ _); rw [hdef]; exact e1) z1 o1) hz hl hk1 hn1
      rw [show (Value.ref H.size) = ab_v X (.inr (.inl (some σ.1))) from by show _ = Value.ref _; rw [hr.1]]
      exact h2
    cases at0 with
    | int => cases hq; exact main .int 0 rfl rfl (fun cA hA => Option.some.inj (Eq.trans (Eq.symm hA) (hK.2 0 _ rfl).2)) (by decide) (fun _ => rfl)
    | boolean => cases hq; exact main .boolean 1 rfl rfl (fun cA hA => Option.some.inj (Eq.trans (Eq.symm hA) (hK.2 1 _ rfl).2)) (by decide) (fun _ => rfl)
    | long => cases hq; exact main .long 2 rfl rfl (fun cA hA => Option.some.inj (Eq.trans (Eq.symm hA) (hK.2 2 _ rfl).2)) (by decide) (fun _ => rfl)
    | _ => cases hq
theorem ab_new {idx ci : Nat} {C : String} {T : u_T} {N : Nat} {ty0 : Nat → FieldType} {fs : List ab_V} (F : ab_fx p s m args c X nL cc own) (hd : decode cc pc = .ok (.new idx, 3)) (hc : vwCl[ci]? = some (C, T, N)) (hin : ∀ w ∈ u_ws C T N, w ∈ ab_ws) (hty : ∀ k, k < N → parseFieldDescriptor (T k).2.2.1 = some (ty0 k))
    (hcl : Cond.classLink own idx C ∈ ab_ws) (hinst : Cond.instantiable C N ∈ ab_ws) (hini : Cond.initialized C ∈ ab_ws) (hfs : ∀ j, j < N → defaultValue (ty0 j) = vp_V (fs.map (ab_v X)) j) (hk1 : k + 1 ≤ R.cells) (hn1 : n + N ≤ R.slots)
    (h : ab_g p l e R s m args below meth c Q X nL (pc + 3) L (.inr (.inl (some σ.1)) :: S) (ab_nw σ (.inl (ci, fs))) (k + 1) (n + N)) : ab_g p l e R s m args below meth c Q X nL pc L S σ k n :=
  fun H locs ls hr hz hl hk hn => by
    have hts := F.2.2.2.2.1
    have hKn := F.2.2.2.2.2.1.1 ci _ hc
    refine W.newcK F.1 F.2.1 F.2.2.2.1 (hts _ hcl) (hts _ hinst) (hts _ hini) rfl hd hk1 hn1 hKn.2.1 rfl fun H1 kC hkC e1 z1 o1 => ?_
    have h2 := h H1 locs ls (ab_hr_push hr ⟨_, hc, (u_born ty0 hts hin hKn hkC e1 hty).to hfs⟩ z1 o1) hz hl hk1 hn1
    rw [show (Value.ref H.size) = ab_v X (.inr (.inl (some σ.1))) from by show _ = Value.ref _; rw [hr.1]]
    exact h2
end AbOps3
