def ab_enm : List String := ["java/lang/RuntimeException", "java/lang/Exception"]
/-- the throws of the class: class link, text, constructor link, place of the text -/
def ab_thr : Nat → Nat × Nat × Nat × Nat × String
  | 0 => (322, 324, 326, 3, "there is none such")
  | 1 => (329, 331, 333, 4, "an argument is not one of those allowed")
  | _ => (334, 336, 338, 5, "not in this state")
theorem ab_mem {w : Cond} (h : w ∈ lw_tbl) (g : goodWord w = true) : w ∈ ab_ws := List.mem_filter.mpr ⟨h, g⟩
section AbThrow
variable {p : Program} {l : Launch} {e : Env} {R : Room} {s : State} {m : MethodId} {args : Array Value} {below : List Frame} {meth : Method} {c : Code} {X : ab_X} {nL : Nat} {cc : ByteArray} {pc : Nat} {L : ab_L} {σ : ab_H} {k n : Nat} {post : ab_O → ab_H → Prop}
theorem ab_throw {i : Nat} (hi : i < 3) (hst : l.stackTraces = false) (F : ab_fx p s m args c X nL cc RX9) (hlk : meth.locks = false) (hsl : ∀ q, q < X.1 → s.heap[q]? = X.2.2.2.2.2[q]?)
    (hout : ∀ x ∈ c.exceptionTable.toList, False) (d0 : decode cc pc = .ok (.new (ab_thr i).1, 3)) (d3 : decode cc (pc + 3) = .ok (.dup, 1)) (d4 : decode cc (pc + 4) = .ok (.ldc_w (ab_thr i).2.1, 3)) (d7 : decode cc (pc + 7) = .ok (.invokespecial (ab_thr i).2.2.1, 3)) (d10 : decode cc (pc + 10) = .ok (.athrow, 1))
    (hR : 6 ≤ R.frames ∧ 100 ≤ R.locals) (hk1 : k + 1 ≤ R.cells) (hn1 : n + 6 ≤ R.slots) (hp : ∀ q : Nat, σ.1 ≤ q → post (.inr i) (q, σ.2)) : ab_g p l e R s m args below meth c (ab_Q below args s R X post) X nL pc L [] σ k n := by
  sorry
end AbThrow
