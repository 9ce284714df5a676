-- ===== the law's entry: what is known of the machine =====
def lw_flat : List Cond := flatC (Jvm.Cond.and given_1 narrow_1)
def lw_tm : Nat → Term
  | 0 => .string RX4 19
  | 1 => .string RX4 66
  | _ => .string RX5 50
abbrev lw_val (i : Nat) : Term := .field (lw_tm i) "java/lang/String" "value" "[B"
theorem lw_n1 : ∀ i, i < 3 → Cond.exactly (lw_tm i) "java/lang/String" ∈ lw_flat ∧ Cond.eq (.field (lw_tm i) "java/lang/String" "code\x72" "B") (.int 0) ∈ lw_flat ∧ Cond.arrayOf (lw_val i) .byte ∈ lw_flat ∧ Cond.eq (.length (lw_val i)) (.int (Int32.ofNat (ab_sl.getD i 0))) ∈ lw_flat := by decide +kernel
theorem lw_n2 : ∀ i, i < 3 → ∀ j, j < ab_sl.getD i 0 → Cond.eq (.elem (lw_val i) (.int (Int32.ofNat j))) (.int ((ab_sb.getD i []).getD j 0)) ∈ lw_flat := by decide +kernel
theorem lw_n3 : ∀ i, i < 3 → ∀ j, j < 3 → i ≠ j → Cond.not (Cond.eq (lw_tm i) (lw_tm j)) ∈ lw_flat ∨ Cond.not (Cond.eq (lw_tm j) (lw_tm i)) ∈ lw_flat := by decide +kernel
theorem lw_n4 : (Cond.exactly (.string RX9 324) "java/lang/String" ∈ lw_flat ∧ Cond.exactly (.string RX9 331) "java/lang/String" ∈ lw_flat ∧ Cond.exactly (.string RX9 336) "java/lang/String" ∈ lw_flat) ∧ Cond.isRef (.static Bundle.tN "UNASSIGNED_STACK" Bundle.steD) ∈ lw_flat ∧ Cond.isRef (.static Bundle.tN "SUPPRESSED_SENTINEL" Bundle.listD) ∈ lw_flat ∧ Cond.eq (.static "java/lang/String" "COMPACT_STRINGS" "Z") (.int 1) ∈ lw_flat ∧ Cond.isRef (.static "jdk/internal/util/Preconditions" "SIOOBE_FORMATTER" "Ljava/util/function/BiFunction;") ∈ lw_flat := by decide +kernel
theorem lw_n5 : ∀ q ∈ ab_ncast, Cond.not (.castable q.1 q.2) ∈ lw_flat := by decide +kernel
theorem lw_t1 : ∀ q ∈ ab_nest, Cond.methodLinkNest q.1 q.2.1 q.2.2 RX9 ∈ lw_tbl := by decide +kernel
theorem lw_t2 : ∀ q ∈ ab_strs, Cond.stringRef q.1 q.2.1 q.2.2.1 ∈ lw_tbl := by decide +kernel
theorem lw_t3 : ∀ q ∈ ab_cast, Cond.castable q.1 q.2 ∈ lw_tbl := by decide +kernel
theorem lw_t4 : ∀ q ∈ ab_decl, Cond.declares q ∈ lw_tbl := by decide +kernel
theorem lw_t5 : (Cond.arrayOver (.object RX2) ∈ lw_tbl ∧ Cond.arrayOver (.object RX3) ∈ lw_tbl ∧ Cond.arrayOver (.array .int) ∈ lw_tbl) ∧ (Cond.laysStatic Bundle.tN "UNASSIGNED_STACK" Bundle.steD ∈ lw_tbl ∧ Cond.laysStatic Bundle.tN "SUPPRESSED_SENTINEL" Bundle.listD ∈ lw_tbl ∧ Cond.initialized Bundle.tN ∈ lw_tbl) ∧ (Cond.laysStatic "java/lang/String" "COMPACT_STRINGS" "Z" ∈ lw_tbl ∧ Cond.initialized "java/lang/String" ∈ lw_tbl) ∧ Cond.laysStatic "jdk/internal/util/Preconditions" "SIOOBE_FORMATTER" "Ljava/util/function/BiFunction;" ∈ lw_tbl ∧ Cond.initialized "jdk/internal/util/Preconditions" ∈ lw_tbl := by decide +kernel
theorem lw_room {s : State} {pl : Platform} {R R' : Room} (h : s.hasRoom pl R = true) (h1 : R'.frames ≤ R.frames) (h2 : R'.locals ≤ R.locals) (h3 : R'.cells ≤ R.cells) (h4 : R'.slots ≤ R.slots) : s.hasRoom pl R' = true := by
  simp only [State.hasRoom, Bool.and_eq_true, decide_eq_true_eq] at h ⊢
  obtain ⟨⟨⟨⟨a, b1, b2, b3, b4, b5⟩, c⟩, d⟩, e⟩ := h
  exact ⟨⟨⟨⟨by omega, by omega, by omega, by omega, by omega, b5⟩, by omega⟩, by omega⟩, e⟩
theorem lw_vkS {N : Nat} {len : List Nat} {byt : List (List Int32)} {adK adV adK' adV' : Nat → Nat} {A : Nat → Prop} {U : State} {H : Heap} (h : vk_S N len byt adK adV A U H) (h1 : ∀ i, i < N → adK' i = adK i) (h2 : ∀ i, i < N → adV' i = adV i) : vk_S N len byt adK' adV' A U H := by
  refine ⟨fun i hi => ?_, fun i j hi hj e => h.2 i j hi hj (by rw [← h1 i hi, ← h1 j hj]; exact e)⟩
  rw [h1 i hi, h2 i hi]
  exact h.1 i hi
section LwWorld
variable {p : Program} {s : State} {m : MethodId} {meth : Method} {c : Code} {b L : Nat} {xs : Nat → Int32}
theorem lw_world (hts : ∀ w ∈ lw_tbl, w.before #[Value.ref b] s = true) (hg : (Jvm.Cond.and given_1 narrow_1).before #[Value.ref b] s = true) : ∃ X : ab_X, X.1 = s.heap.size ∧ X.2.2.2.2.2 = s.heap ∧ X.2.2.2.2.1 21 = b ∧ ab_K X s := by
  have hf : ∀ w ∈ lw_flat, w.before #[Value.ref b] s = true := flat_of_before _ hg
  have hA : ∀ a : Nat, a < s.heap.size → ¬ s.heap.size ≤ a := fun a h => by omega
  have hw : ∀ w ∈ ab_ws, w.before #[Value.ref b] s = true := fun w hw => hts w (List.mem_filter.mp hw).1
  have hcls : ∀ c : Nat, ∃ q : ClassId × (Nat → Nat), ∀ z, vwCl[c]? = some z → u_Kn s z.1 z.2.1 z.2.2 q.1 q.2 := fun c => by
    by_cases hc : c < 11
    · obtain ⟨e1, e2, -, -, e5, -⟩ := ab_cls hc
      obtain ⟨cC, iS, hk⟩ := u_known (ws := ab_ws) (n := ab_N c) hw e2 (hw _ e5)
      exact ⟨(cC, iS), fun z hz => by
        rw [e1] at hz
        cases hz
        exact hk⟩
    · exact ⟨(0, fun _ => 0), fun z hz => by
        have h1 := (List.getElem?_eq_some_iff.mp hz).1
        have h2 : vwCl.length = 11 := rfl
        omega⟩
  obtain ⟨D, hD⟩ := Classical.axiomOfChoice hcls
  obtain ⟨cI, kI, pI, i1, i2, i3⟩ := Cond.arrayClass_spec (hw _ ab_ac.1)
  obtain ⟨cZ, kZ, pZ, z1, z2, z3⟩ := Cond.arrayClass_spec (hw _ ab_ac.2.1)
  obtain ⟨cJ, kJ, pJ, j1, j2, j3⟩ := Cond.arrayClass_spec (hw _ ab_ac.2.2)
  obtain ⟨⟨o1, o2, o3⟩, ⟨l1, l2, l3⟩, ⟨l4, l5⟩, l6, l7⟩ := lw_t5
  obtain ⟨pB, cB, kB, b1, -, b2, b3, b4⟩ := Cond.arrayOver_spec (hts _ o1)
  obtain ⟨pC, cC, kC, c1, -, c2, c3, c4⟩ := Cond.arrayOver_spec (hts _ o2)
  obtain ⟨pM, cM, kM, m1, -, m2, m3, m4⟩ := arrayOverA_spec (hts _ o3)
  have hpM : pM = cI := Option.some.inj (m1.symm.trans i1)
  obtain ⟨⟨x3, x4, x5⟩, g1, g2, g3, g4⟩ := lw_n4
  obtain ⟨a3, _, _, _, y3, -⟩ := Cond.exactly_spec (args := #[Value.ref b]) (first := s) (o := none) (s := s) (idx := []) (t := .string RX9 324) (cls := "java/lang/String") (hf _ x3)
  obtain ⟨a4, _, _, _, y4, -⟩ := Cond.exactly_spec (args := #[Value.ref b]) (first := s) (o := none) (s := s) (idx := []) (t := .string RX9 331) (cls := "java/lang/String") (hf _ x4)
  obtain ⟨a5, _, _, _, y5, -⟩ := Cond.exactly_spec (args := #[Value.ref b]) (first := s) (o := none) (s := s) (idx := []) (t := .string RX9 336) (cls := "java/lang/String") (hf _ x5)
  obtain ⟨adK, adV, hS, hE⟩ := vk_Sof (args := #[Value.ref b]) (s := s) (N := 3) (tm := lw_tm) (len := ab_sl) (byt := ab_sb) (A := fun q => s.heap.size ≤ q) (fun i hi => by have := (ab_sb_ok i hi).1.2.2; omega) (fun i hi => hf _ (lw_n1 i hi).1) (fun i hi => hf _ (lw_n1 i hi).2.1) (fun i hi => hf _ (lw_n1 i hi).2.2.1) (fun i hi => hf _ (lw_n1 i hi).2.2.2) (fun i hi j hj => hf _ (lw_n2 i hi j hj)) (fun i j hi hj hij => (lw_n3 i hi j hj hij).imp (hf _) (hf _)) hA
  have hU := vx_Zqof (args := #[Value.ref b]) (A := fun q => s.heap.size ≤ q) (hts _ l1) (hts _ l3) (hf _ g1) hA
  have hV := vx_Zqof (args := #[Value.ref b]) (A := fun q => s.heap.size ≤ q) (hts _ l2) (hts _ l3) (hf _ g2) hA
  have hC := va_Zof (args := #[Value.ref b]) (A := fun q => s.heap.size ≤ q) (hts _ l4) (hts _ l5) (va_eqt (hf _ g3)) hA
  have hF := va_Zqof (args := #[Value.ref b]) (A := fun q => s.heap.size ≤ q) (hts _ l6) (hts _ l7) (hf _ g4) hA
  obtain ⟨t, hF⟩ : ∃ t : Nat, va_Z "jdk/internal/util/Preconditions" "SIOOBE_FORMATTER" "Ljava/util/function/BiFunction;" .null (fun q => s.heap.size ≤ q) s s.heap ∨ va_Z "jdk/internal/util/Preconditions" "SIOOBE_FORMATTER" "Ljava/util/function/BiFunction;" (.ref t) (fun q => s.heap.size ≤ q) s s.heap := by
    rcases hF with h | ⟨t, h⟩
    · exact ⟨0, Or.inl h⟩
    · exact ⟨t, Or.inr h⟩
  let ad : Nat → Nat := fun k => if k < 3 then adK k else if k = 3 then a3 else if k = 4 then a4 else if k = 5 then a5 else if k = 20 then t else if k = 21 then b else adV (k - 10)
  let X : ab_X := (s.heap.size, (fun c => (D c).1, fun c => (D c).2), (fun k => if k = 0 then cI else if k = 1 then cZ else cJ), (fun k => if k = 0 then cB else if k = 1 then cC else cM), ad, s.heap)
  have arr : ∀ {cA : ClassId} {kA : Class} {pA : ClassId} {ty : FieldType}, s.vm.classes[cA]? = some kA → kA.kind = .array pA ty → ArrOfT s cA ty := fun h1 h2 n z => ⟨(fun k h => by cases h), _, h1, _, h2⟩
  refine ⟨X, rfl, rfl, rfl, ⟨fun c z hz => hD c z hz, fun k q hq => ?_⟩, fun q hq => va_Nw.of rfl (hts _ (lw_t1 q hq)), fun q hq => vk_R.of (hts _ (lw_t2 q hq)) ?_, ⟨fun q hq => va_Nw.of rfl (hts _ (lw_t3 q hq)), fun q hq => va_Nw.of rfl (hts _ (lw_t4 q hq))⟩, ⟨va_AO.of (hts _ o1), va_AO.of (hts _ o2)⟩, ⟨hU, hV⟩, ⟨⟨lw_vkS hS (fun i hi => if_pos hi) (fun i hi => ?_), hC⟩, hF, fun q hq => va_Nc.of (hf _ (lw_n5 q hq)), kM, m2, ?_⟩, rfl⟩
  · match k, hq with
    | 0, hq => cases hq; exact ⟨arr i2 i3, i1⟩
    | 1, hq => cases hq; exact ⟨arr z2 z3, z1⟩
    | 2, hq => cases hq; exact ⟨arr j2 j3, j1⟩
    | 3, hq => cases hq; exact ⟨arr b2 b3, kB, pB, b2, b3, b1, b4⟩
    | 4, hq => cases hq; exact ⟨arr c2 c3, kC, pC, c2, c3, c1, c4⟩
    | 5, hq => cases hq; exact ⟨arr m2 m3, m4⟩
    | k + 6, hq => cases hq
  · simp only [ab_strs, List.mem_cons, List.not_mem_nil, or_false] at hq
    rcases hq with rfl | rfl | rfl | rfl | rfl | rfl
    · exact hE 0 (by decide)
    · exact hE 1 (by decide)
    · exact hE 2 (by decide)
    · exact y3
    · exact y4
    · exact y5
  · show ad (10 + i) = adV i
    show (if 10 + i < 3 then adK (10 + i) else if 10 + i = 3 then a3 else if 10 + i = 4 then a4 else if 10 + i = 5 then a5 else if 10 + i = 20 then t else if 10 + i = 21 then b else adV (10 + i - 10)) = adV i
    rw [if_neg (by omega), if_neg (by omega), if_neg (by omega), if_neg (by omega), if_neg (by omega), if_neg (by omega), show 10 + i - 10 = i by omega]
  · rw [m3, hpM]
    rfl
end LwWorld
