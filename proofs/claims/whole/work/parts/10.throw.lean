def ab_enm : List String := ["java/lang/RuntimeException", "java/lang/Exception"]
/-- the throws of the class: class link, text, constructor link, place of the text -/
def ab_thr : Nat → Nat × Nat × Nat × Nat × String
  | 0 => (322, 324, 326, 3, "there is none such")
  | 1 => (329, 331, 333, 4, "an argument is not one of those allowed")
  | _ => (334, 336, 338, 5, "not in this state")
theorem ab_at0_g : ∀ w ∈ (vx_atS RX9 326 "java/util/NoSuchElementException" ["java/lang/RuntimeException", "java/lang/Exception"]).filter goodWord, w ∈ lw_tbl := by decide +kernel
theorem ab_at0_b : ∀ w ∈ (vx_atS RX9 326 "java/util/NoSuchElementException" ["java/lang/RuntimeException", "java/lang/Exception"]).filter (fun w => !goodWord w), w ∈ Cond.castable "java/util/NoSuchElementException" "java/util/NoSuchElementException" :: ab_decl.map Cond.declares := by decide +kernel
theorem ab_at0_o : ∀ w ∈ Cond.classLink RX9 322 "java/util/NoSuchElementException" :: Cond.initialized "java/util/NoSuchElementException" :: vx_atS RX9 326 "java/util/NoSuchElementException" ["java/lang/RuntimeException", "java/lang/Exception"], vx_ot w = true := by decide +kernel
theorem ab_at0_c : Cond.classLink RX9 322 "java/util/NoSuchElementException" ∈ ab_ws ∧ Cond.initialized "java/util/NoSuchElementException" ∈ ab_ws := ⟨List.mem_filter.mpr ⟨by decide +kernel, rfl⟩, List.mem_filter.mpr ⟨by decide +kernel, rfl⟩⟩
theorem ab_at1_g : ∀ w ∈ (vx_atS RX9 333 "java/lang/IllegalArgumentException" ["java/lang/RuntimeException", "java/lang/Exception"]).filter goodWord, w ∈ lw_tbl := by decide +kernel
theorem ab_at1_b : ∀ w ∈ (vx_atS RX9 333 "java/lang/IllegalArgumentException" ["java/lang/RuntimeException", "java/lang/Exception"]).filter (fun w => !goodWord w), w ∈ Cond.castable "java/lang/IllegalArgumentException" "java/lang/IllegalArgumentException" :: ab_decl.map Cond.declares := by decide +kernel
theorem ab_at1_o : ∀ w ∈ Cond.classLink RX9 329 "java/lang/IllegalArgumentException" :: Cond.initialized "java/lang/IllegalArgumentException" :: vx_atS RX9 333 "java/lang/IllegalArgumentException" ["java/lang/RuntimeException", "java/lang/Exception"], vx_ot w = true := by decide +kernel
theorem ab_at1_c : Cond.classLink RX9 329 "java/lang/IllegalArgumentException" ∈ ab_ws ∧ Cond.initialized "java/lang/IllegalArgumentException" ∈ ab_ws := ⟨List.mem_filter.mpr ⟨by decide +kernel, rfl⟩, List.mem_filter.mpr ⟨by decide +kernel, rfl⟩⟩
theorem ab_at2_g : ∀ w ∈ (vx_atS RX9 338 "java/lang/IllegalStateException" ["java/lang/RuntimeException", "java/lang/Exception"]).filter goodWord, w ∈ lw_tbl := by decide +kernel
theorem ab_at2_b : ∀ w ∈ (vx_atS RX9 338 "java/lang/IllegalStateException" ["java/lang/RuntimeException", "java/lang/Exception"]).filter (fun w => !goodWord w), w ∈ Cond.castable "java/lang/IllegalStateException" "java/lang/IllegalStateException" :: ab_decl.map Cond.declares := by decide +kernel
theorem ab_at2_o : ∀ w ∈ Cond.classLink RX9 334 "java/lang/IllegalStateException" :: Cond.initialized "java/lang/IllegalStateException" :: vx_atS RX9 338 "java/lang/IllegalStateException" ["java/lang/RuntimeException", "java/lang/Exception"], vx_ot w = true := by decide +kernel
theorem ab_at2_c : Cond.classLink RX9 334 "java/lang/IllegalStateException" ∈ ab_ws ∧ Cond.initialized "java/lang/IllegalStateException" ∈ ab_ws := ⟨List.mem_filter.mpr ⟨by decide +kernel, rfl⟩, List.mem_filter.mpr ⟨by decide +kernel, rfl⟩⟩
theorem ab_mem {w : Cond} (h : w ∈ lw_tbl) (g : goodWord w = true) : w ∈ ab_ws := List.mem_filter.mpr ⟨h, g⟩
section AbThrow
variable {p : Program} {l : Launch} {e : Env} {R : Room} {s : State} {m : MethodId} {args : Array Value} {below : List Frame} {meth : Method} {c : Code} {X : ab_X} {nL : Nat} {cc : ByteArray} {pc : Nat} {L : ab_L} {σ : ab_H} {k n : Nat} {post : ab_O → ab_H → Prop}
theorem ab_throw {i : Nat} {H0 : Heap} (hi : i < 3) (hst : l.stackTraces = false) (F : ab_fx p s m args c X nL cc RX9) (hlk : meth.locks = false) (hs0 : s.heap = H0) (hsl : ∀ q, q < X.1 → H0[q]? = X.2.2.2.2.2[q]?) (hsz : X.1 ≤ H0.size)
    (hout : ∀ x ∈ c.exceptionTable.toList, False) (d0 : decode cc pc = .ok (.new (ab_thr i).1, 3)) (d3 : decode cc (pc + 3) = .ok (.dup, 1)) (d4 : decode cc (pc + 4) = .ok (.ldc_w (ab_thr i).2.1, 3)) (d7 : decode cc (pc + 7) = .ok (.invokespecial (ab_thr i).2.2.1, 3)) (d10 : decode cc (pc + 10) = .ok (.athrow, 1))
    (hR : 6 ≤ R.frames ∧ 100 ≤ R.locals) (hk1 : k + 1 ≤ R.cells) (hn1 : n + 6 ≤ R.slots) (hp : ∀ q : Nat, σ.1 ≤ q → post (.inr i) (q, σ.2)) : ab_g p l e R s m args below meth c (ab_Q below args s R X post) X nL pc L [] σ k n :=
  fun H locs ls hr hz hl hk hn => by
    have hts := F.2.2.2.2.1
    obtain ⟨hKa, h1, h2, h3, ⟨h4, h5⟩, ⟨h6, h7⟩, -, h9⟩ := F.2.2.2.2.2
    have hq0 : ∀ a : Nat, a < X.2.2.2.2.2.size → ¬ X.1 ≤ a → s.heap[a]? = X.2.2.2.2.2[a]? := fun a ha _ => by rw [hs0]; exact hsl a (by omega)
    have hS : va_S (fun q => X.1 ≤ q) s.heap H locs := ⟨?_, fun q hq hA => ?_, hz⟩
    · sorry
    · sorry
    · sorry
end AbThrow
