section AbOps2
variable {p : Program} {l : Launch} {e : Env} {R : Room} {s : State} {m : MethodId} {args : Array Value} {below : List Frame} {meth : Method} {c : Code} {Q : State → Prop} {X : ab_X} {nL : Nat} {cc : ByteArray} {own : String} {pc : Nat} {L : ab_L} {S : List ab_V} {σ : ab_H} {k n : Nat}
def ab_pr (X : ab_X) (L : ab_L) (i : Nat) : Option (Nat × Value) := match L[i]? with
  | some (some v) => some (i, ab_v X v)
  | _ => none
def ab_ps (X : ab_X) (L : ab_L) : List (Nat × Value) := (List.range L.length).filterMap (ab_pr X L)
theorem ab_pr_of {L : ab_L} {i : Nat} {v : ab_V} (h : L[i]? = some (some v)) : ab_pr X L i = some (i, ab_v X v) := by
  unfold ab_pr; rw [h]
theorem ab_ps_in {L : ab_L} {q : Nat × Value} (h : q ∈ ab_ps X L) : ∃ v, L[q.1]? = some (some v) ∧ q.2 = ab_v X v := by
  obtain ⟨i, -, hi⟩ := List.mem_filterMap.mp h
  unfold ab_pr at hi
  split at hi
  · next v hv =>
    cases hi
    exact ⟨v, hv, rfl⟩
  · cases hi
theorem ab_lr_has {L : ab_L} {ls : Array Slot} (h : ab_lr X nL L ls) : lv_has ls nL (ab_ps X L) :=
  ⟨h.1, h.2.1, fun q hq => by
    obtain ⟨v, h1, h2⟩ := ab_ps_in hq
    rw [h2]
    exact (h.2.2.2 _ _ h1).2⟩
theorem ab_lr_set {L : ab_L} {ls ls' : Array Slot} {i : Nat} {v : ab_V} (h : ab_lr X nL L ls) (hv : ab_n1 v = true) (h' : lv_has ls' nL ((i, ab_v X v) :: (ab_ps X L).filter (fun q => !(q.1 == i) && !(q.1 + 1 == i && q.2.category == 2)))) : ab_lr X nL (L.set i (some v)) ls' := by
  refine ⟨h'.1, h'.2.1, by rw [List.length_set]; exact h.2.2.1, fun j w hw => ?_⟩
  by_cases e : i = j
  · subst e
    rw [List.getElem?_set_self'] at hw
    cases hL : L[i]? with
    | none => rw [hL] at hw; cases hw
    | some u =>
      rw [hL] at hw
      have : some v = some w := by simpa using hw
      cases this
      exact ⟨hv, h'.2.2 (i, ab_v X v) List.mem_cons_self⟩
  · rw [List.getElem?_set_ne e] at hw
    have h1 := (h.2.2.2 j w hw).1
    refine ⟨h1, h'.2.2 (j, ab_v X w) (List.mem_cons_of_mem _ (List.mem_filter.mpr ⟨?_, ?_⟩))⟩
    · exact List.mem_filterMap.mpr ⟨j, List.mem_range.mpr (List.getElem?_eq_some_iff.mp hw).1, ab_pr_of hw⟩
    · have h2 := ab_cat (X := X) h1
      simp [h2]
      exact fun q => e q.symm
theorem ab_istore {i : Nat} {z : Int} (F : ab_fx p s m args c X nL cc own) (hd : decode cc pc = .ok (.istore i, 2)) (hi : i < nL) (h : ab_g p l e R s m args below meth c Q X nL (pc + 2) (L.set i (some (.inl z))) S σ k n) : ab_g p l e R s m args below meth c Q X nL pc L (.inl z :: S) σ k n :=
  fun H locs ls hr hz hl hk hn => lv_istore F.1 F.2.1 hd (ab_lr_has hl) hi rfl (fun ls' h' => h H locs ls' hr hz (ab_lr_set hl rfl h') hk hn)
theorem ab_istore_n {i : Fin 4} {z : Int} (F : ab_fx p s m args c X nL cc own) (hd : decode cc pc = .ok (.istore_n i, 1)) (hi : (i : Nat) < nL) (h : ab_g p l e R s m args below meth c Q X nL (pc + 1) (L.set i (some (.inl z))) S σ k n) : ab_g p l e R s m args below meth c Q X nL pc L (.inl z :: S) σ k n :=
  fun H locs ls hr hz hl hk hn => lv_istore_n F.1 F.2.1 hd rfl (ab_lr_has hl) hi rfl (fun ls' h' => h H locs ls' hr hz (ab_lr_set hl rfl h') hk hn)
theorem ab_astore {i : Nat} {v : ab_V} (F : ab_fx p s m args c X nL cc own) (hd : decode cc pc = .ok (.astore i, 2)) (hv : ab_isr v = true) (hi : i < nL) (h : ab_g p l e R s m args below meth c Q X nL (pc + 2) (L.set i (some v)) S σ k n) : ab_g p l e R s m args below meth c Q X nL pc L (v :: S) σ k n :=
  fun H locs ls hr hz hl hk hn => by
    match v, hv, h with
    | .inr (.inl (some a)), _, h => exact lv_astore F.1 F.2.1 hd (ab_lr_has hl) hi rfl (fun ls' h' => h H locs ls' hr hz (ab_lr_set hl rfl h') hk hn)
    | .inr (.inl none), _, h => exact lv_astoreN F.1 F.2.1 hd (ab_lr_has hl) hi rfl (fun ls' h' => h H locs ls' hr hz (ab_lr_set hl rfl h') hk hn)
    | .inr (.inr (.inr a)), _, h => exact lv_astore F.1 F.2.1 hd (ab_lr_has hl) hi rfl (fun ls' h' => h H locs ls' hr hz (ab_lr_set (v := .inr (.inr (.inr a))) hl rfl h') hk hn)
theorem ab_astore_n {i : Fin 4} {v : ab_V} (F : ab_fx p s m args c X nL cc own) (hd : decode cc pc = .ok (.astore_n i, 1)) (hv : ab_isr v = true) (hi : (i : Nat) < nL) (h : ab_g p l e R s m args below meth c Q X nL (pc + 1) (L.set i (some v)) S σ k n) : ab_g p l e R s m args below meth c Q X nL pc L (v :: S) σ k n :=
  fun H locs ls hr hz hl hk hn => by
    match v, hv, h with
    | .inr (.inl (some a)), _, h => exact lv_astore_n F.1 F.2.1 hd rfl (ab_lr_has hl) hi rfl (fun ls' h' => h H locs ls' hr hz (ab_lr_set hl rfl h') hk hn)
    | .inr (.inl none), _, h => exact lv_astore_nN F.1 F.2.1 hd rfl (ab_lr_has hl) hi rfl (fun ls' h' => h H locs ls' hr hz (ab_lr_set hl rfl h') hk hn)
    | .inr (.inr (.inr a)), _, h => exact lv_astore_n F.1 F.2.1 hd rfl (ab_lr_has hl) hi rfl (fun ls' h' => h H locs ls' hr hz (ab_lr_set (v := .inr (.inr (.inr a))) hl rfl h') hk hn)
theorem ab_iinc {i : Nat} {z d : Int} (F : ab_fx p s m args c X nL cc own) (hd : decode cc pc = .ok (.iinc i d, 3)) (hL : L[i]? = some (some (.inl z))) (h : ab_g p l e R s m args below meth c Q X nL (pc + 3) (L.set i (some (.inl (z + d)))) S σ k n) : ab_g p l e R s m args below meth c Q X nL pc L S σ k n :=
  fun H locs ls hr hz hl hk hn => by
    have hi : i < L.length := (List.getElem?_eq_some_iff.mp hL).1
    have hm : (i, ab_v X (.inl z)) ∈ ab_ps X L := List.mem_filterMap.mpr ⟨i, List.mem_range.mpr hi, ab_pr_of hL⟩
    obtain ⟨q, hq⟩ := List.getElem?_of_mem hm
    exact lv_iinc (v := Int32.ofInt (z + d)) F.1 F.2.1 hd (ab_lr_has hl) hq (Int32.ofInt_add z d).symm (hl.2.2.1 ▸ hi) rfl (fun ls' h' => h H locs ls' hr hz (ab_lr_set (v := .inl (z + d)) hl rfl h') hk hn)
-- ===== reading the heap =====
theorem ab_P1 {H : Heap} {a : Nat} {c0 : ab_C} (hr : ab_hr X σ H) (ha : σ.2 a = some c0) : va_P X.2.1 vwCl [(X.1 + a, ab_c X c0)] H := by
  intro k q h
  have h0 : k = 0 := by
    have := (List.getElem?_eq_some_iff.mp h).1
    simp at this
    exact this
  subst h0
  cases h
  exact hr.2.1 a c0 ha
theorem ab_get {idx ci j : Nat} {a : Nat} {fs : List ab_V} {v : ab_V} {C : String} {T : u_T} {N : Nat} (F : ab_fx p s m args c X nL cc own) (hd : decode cc pc = .ok (.getfield idx, 3)) (hc : vwCl[ci]? = some (C, T, N)) (hj : j < N) (hin : ∀ w ∈ u_ws C T N, w ∈ ab_ws) (hlink : Cond.fieldLink own idx (T j).1 (T j).2.1 (T j).2.2.1 ∈ ab_ws)
    (ha : σ.2 a = some (.inl (ci, fs))) (hv : fs[j]? = some v) (h : ab_g p l e R s m args below meth c Q X nL (pc + 3) L (v :: S) σ k n) : ab_g p l e R s m args below meth c Q X nL pc L (.inr (.inl (some a)) :: S) σ k n :=
  fun H locs ls hr hz hl hk hn => va_get (ref := (T j).1) F.1 F.2.1 F.2.2.2.2.1 hin F.2.2.2.1 F.2.2.2.2.2.1 (ab_P1 hr ha) 0 rfl hc j hj (F.2.2.2.2.1 _ hlink) (fun _ h => h) (v := ab_v X v) (by rw [List.getElem?_map, hv]; rfl) hd (h H locs ls hr hz hl hk hn)
theorem ab_iald {a : Nat} {i : Int} {N : Nat} {f : Nat → Int} (F : ab_fx p s m args c X nL cc own) (hd : decode cc pc = .ok (.iaload, 1)) (ha : σ.2 a = some (.inr (.inl (0, N, f)))) (h0 : 0 ≤ i) (hi : i < N) (hR : ab_R i) (h : ab_g p l e R s m args below meth c Q X nL (pc + 1) L (.inl (f i.toNat) :: S) σ k n) : ab_g p l e R s m args below meth c Q X nL pc L (.inl i :: .inr (.inl (some a)) :: S) σ k n :=
  fun H locs ls hr hz hl hk hn => va_iald (tys := ab_t X) F.1 F.2.1 F.2.2.2.2.2.1 (ab_P1 hr ha) 0 0 (n := N) (f := fun j => Int32.ofInt (f j)) rfl rfl (ab_in h0 hR hi) hd (by rw [ab_clamp h0 hR]; exact h H locs ls hr hz hl hk hn)
theorem ab_zald {a : Nat} {i : Int} {N : Nat} {f : Nat → Int} (F : ab_fx p s m args c X nL cc own) (hd : decode cc pc = .ok (.baload, 1)) (ha : σ.2 a = some (.inr (.inl (1, N, f)))) (h0 : 0 ≤ i) (hi : i < N) (hR : ab_R i) (h : ab_g p l e R s m args below meth c Q X nL (pc + 1) L (.inl (f i.toNat) :: S) σ k n) : ab_g p l e R s m args below meth c Q X nL pc L (.inl i :: .inr (.inl (some a)) :: S) σ k n :=
  fun H locs ls hr hz hl hk hn => va_zald (tys := ab_t X) F.1 F.2.1 F.2.2.2.2.2.1 (ab_P1 hr ha) 0 1 (n := N) (f := fun j => Int32.ofInt (f j)) rfl rfl (ab_in h0 hR hi) hd (by rw [ab_clamp h0 hR]; exact h H locs ls hr hz hl hk hn)
theorem ab_lald {a : Nat} {i : Int} {N : Nat} {f : Nat → Int} (F : ab_fx p s m args c X nL cc own) (hd : decode cc pc = .ok (.laload, 1)) (ha : σ.2 a = some (.inr (.inl (2, N, f)))) (h0 : 0 ≤ i) (hi : i < N) (hR : ab_R i) (h : ab_g p l e R s m args below meth c Q X nL (pc + 1) L (.inr (.inr (.inl (f i.toNat))) :: S) σ k n) : ab_g p l e R s m args below meth c Q X nL pc L (.inl i :: .inr (.inl (some a)) :: S) σ k n :=
  fun H locs ls hr hz hl hk hn => va_lald (tys := ab_t X) F.1 F.2.1 F.2.2.2.2.2.1 (ab_P1 hr ha) 0 2 (n := N) (f := fun j => Int64.ofInt (f j)) rfl rfl (ab_in h0 hR hi) hd (by rw [ab_clamp h0 hR]; exact h H locs ls hr hz hl hk hn)
theorem ab_alenN {a : Nat} {q : Nat} {N : Nat} {f : Nat → Int} (F : ab_fx p s m args c X nL cc own) (hd : decode cc pc = .ok (.arraylength, 1)) (ha : σ.2 a = some (.inr (.inl (q, N, f)))) (hq : q < 3) (h : ab_g p l e R s m args below meth c Q X nL (pc + 1) L (.inl N :: S) σ k n) : ab_g p l e R s m args below meth c Q X nL pc L (.inr (.inl (some a)) :: S) σ k n :=
  fun H locs ls hr hz hl hk hn => by
    rcases (show q = 0 ∨ q = 1 ∨ q = 2 by omega) with rfl | rfl | rfl
    · exact va_alen (tys := ab_t X) F.1 F.2.1 F.2.2.2.2.2.1 (ab_P1 hr ha) 0 0 rfl (ty := .int) rfl (v := Int32.ofInt N) (by rfl) hd (h H locs ls hr hz hl hk hn)
    · exact va_alen (tys := ab_t X) F.1 F.2.1 F.2.2.2.2.2.1 (ab_P1 hr ha) 0 1 rfl (ty := .boolean) rfl (v := Int32.ofInt N) (by rfl) hd (h H locs ls hr hz hl hk hn)
    · exact va_alen (tys := ab_t X) F.1 F.2.1 F.2.2.2.2.2.1 (ab_P1 hr ha) 0 2 rfl (ty := .long) rfl (v := Int32.ofInt N) (by rfl) hd (h H locs ls hr hz hl hk hn)
theorem ab_alenQ {a : Nat} {q : Nat} {N : Nat} {f : Nat → Option Nat} (F : ab_fx p s m args c X nL cc own) (hd : decode cc pc = .ok (.arraylength, 1)) (ha : σ.2 a = some (.inr (.inr (q, N, f)))) (hq : q < 3) (h : ab_g p l e R s m args below meth c Q X nL (pc + 1) L (.inl N :: S) σ k n) : ab_g p l e R s m args below meth c Q X nL pc L (.inr (.inl (some a)) :: S) σ k n :=
  fun H locs ls hr hz hl hk hn => by
    rcases (show q = 0 ∨ q = 1 ∨ q = 2 by omega) with rfl | rfl | rfl
    · exact va_alen (tys := ab_t X) F.1 F.2.1 F.2.2.2.2.2.1 (ab_P1 hr ha) 0 3 rfl (ty := .object RX2) rfl (v := Int32.ofInt N) (by rfl) hd (h H locs ls hr hz hl hk hn)
    · exact va_alen (tys := ab_t X) F.1 F.2.1 F.2.2.2.2.2.1 (ab_P1 hr ha) 0 4 rfl (ty := .object RX3) rfl (v := Int32.ofInt N) (by rfl) hd (h H locs ls hr hz hl hk hn)
    · exact va_alen (tys := ab_t X) F.1 F.2.1 F.2.2.2.2.2.1 (ab_P1 hr ha) 0 5 rfl (ty := .array .int) rfl (v := Int32.ofInt N) (by rfl) hd (h H locs ls hr hz hl hk hn)
def ab_rf (r : Option Nat) : ab_V := .inr (.inl r)
theorem ab_rf_v (r : Option Nat) : va_rf (r.map (X.1 + ·)) = ab_v X (.inr (.inl r)) := by cases r <;> rfl
theorem ab_aald {a : Nat} {i : Int} {q : Nat} {N : Nat} {f : Nat → Option Nat} (F : ab_fx p s m args c X nL cc own) (hd : decode cc pc = .ok (.aaload, 1)) (ha : σ.2 a = some (.inr (.inr (q, N, f)))) (hq : q < 3) (h0 : 0 ≤ i) (hi : i < N) (hR : ab_R i) (h : ab_g p l e R s m args below meth c Q X nL (pc + 1) L (.inr (.inl (f i.toNat)) :: S) σ k n) : ab_g p l e R s m args below meth c Q X nL pc L (.inl i :: .inr (.inl (some a)) :: S) σ k n :=
  fun H locs ls hr hz hl hk hn => by
    have h1 := h H locs ls hr hz hl hk hn
    have hc := hr.2.1 a _ ha
    have hlt : (Int32.ofInt i).toNatClampNeg < N := by rw [ab_clamp h0 hR]; omega
    have key : ∀ ty : FieldType, ty.isReference = true → ArrOfT s (X.2.2.2.1 q) ty → W p l e R s m args below meth c H locs k n Q (F0 m pc ls ((Sum.inl i :: Sum.inr (Sum.inl (some a)) :: S : List ab_V).map (ab_v X))) := fun ty hty hA =>
      W.aald (v := ab_v X (.inr (.inl (f i.toNat)))) F.1 F.2.1 hc (hA N (fun j => va_rf ((f j).map (X.1 + ·)))) hty (fun q => by cases q) (by show ¬ (Int32.ofInt i < 0 ∨ (arrV _ _ _).slots.size ≤ _); rw [arrV_size]; exact ab_in h0 hR hi) (by show (arrV _ _ _).slots[_]? = _; rw [arrV_read _ _ hlt, ab_clamp h0 hR, ab_rf_v]) rfl rfl hd h1
    rcases (show q = 0 ∨ q = 1 ∨ q = 2 by omega) with rfl | rfl | rfl
    · exact key (.object RX2) rfl (F.2.2.2.2.2.1.2 3 _ rfl).1
    · exact key (.object RX3) rfl (F.2.2.2.2.2.1.2 4 _ rfl).1
    · exact key (.array .int) rfl (F.2.2.2.2.2.1.2 5 _ rfl).1
end AbOps2
