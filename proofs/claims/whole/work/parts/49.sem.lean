-- ===== what a question answers: the class's notes and the model's acts come to the same =====
def cp (k d : C3) : C3 := (k.1 + d.1, k.2.1 + d.2.1, k.2.2 + d.2.2)
theorem cp_0 (k : C3) : cp k (0, 0, 0) = k := rfl
theorem z_cp (k : C3) : cp (0, 0, 0) k = k := by
  unfold cp
  rw [Nat.zero_add, Nat.zero_add, Nat.zero_add]
theorem cp_as (k d e : C3) : cp (cp k d) e = cp k (cp d e) := by
  unfold cp
  dsimp only
  rw [Nat.add_assoc, Nat.add_assoc, Nat.add_assoc]
theorem cp_cm (k d e : C3) : cp (cp k d) e = cp (cp k e) d := by
  unfold cp
  dsimp only
  rw [Nat.add_right_comm, Nat.add_right_comm k.2.1, Nat.add_right_comm k.2.2]
/-- a step that only adds to the cost -/
def adZ (s : Z4 → Z4) : Prop := ∀ v k d, s (v, cp k d) = ((s (v, d)).1, cp k (s (v, d)).2)
def adC (s : C3 → Z4) : Prop := ∀ k d, s (cp k d) = ((s d).1, cp k (s d).2)
theorem ad_zbm (m : V1) : adC (zbm m) := fun _ _ => rfl
theorem ad_zjn (u k : Nat) (m : V1) : adZ (zjn u k m) := fun v k d => by
  show (_, _, _, k.2.2 + d.2.2 + _) = (_, _, _, k.2.2 + (d.2.2 + _))
  rw [Nat.add_assoc]
  rfl
theorem ad_ztn (rows : Nat) : adZ (ztn rows) := fun v k d => by
  show (_, _, _, k.2.2 + d.2.2 + _) = (_, _, _, k.2.2 + (d.2.2 + _))
  rw [Nat.add_assoc]
  rfl
theorem ad_zf {s : Nat → Z4 → Z4} (hs : ∀ p, adZ (s p)) {z : C3 → Z4} (hz : adC z) : ∀ n, adC (fun k => zf s (z k) n) := by
  intro n
  induction n with
  | zero => exact hz
  | succ n ih =>
    intro k d
    show s (n + 1) (zf s (z (cp k d)) n) = _
    have h := ih k d
    dsimp only at h
    rw [h, hs (n + 1)]
    rfl
theorem ad_zf2 {s : Nat → Z4 → Z4} (hs : ∀ p, adZ (s p)) {z : Z4 → Z4} (hz : adZ z) (n : Nat) : adZ (fun x => zf s (z x) n) := fun v k d => by
  have := ad_zf hs (z := fun c => z (v, c)) (fun k d => hz v k d) n
  exact this k d
theorem ad_leR (rows : Nat) (b : Nat → Nat) (B : Nat → Nat → V1) (parts n : Nat) : adC (leR rows b B parts n) := by
  refine ad_zf (fun p v k d => ?_) (fun k d => ?_) _
  · unfold leRs
    dsimp only
    split <;> split
    · rfl
    · exact ad_zjn _ _ _ v k d
    · exact ad_zjn _ _ _ v k d
    · rw [ad_zjn _ _ _ v k d, ad_zjn]
  · unfold leR0
    split
    · rfl
    · exact ad_zbm _ k d
theorem ad_leE (rows : Nat) (b : Nat → Nat) (B : Nat → Nat → V1) (parts n : Nat) : adC (leE rows b B parts n) := by
  refine ad_zf (fun p => ?_) ?_ _
  · exact ad_zf2 (fun j => ad_zjn _ _ _) (ad_zjn _ _ _) _
  · exact ad_zf (fun j => ad_zjn _ _ _) (ad_zbm _) _
theorem ad_digZ (rows : Nat) (b : Nat → Nat) (B : Nat → Nat → V1) (ρ : Bool) (p x : Nat) : adC (digZ rows b B ρ p x) := fun k d => by
  unfold digZ
  split
  · exact ad_zbm _ k d
  · split
    · rw [ad_zbm _ k d, ad_ztn]
    · rw [ad_zbm _ k d, ad_zjn]
theorem ad_eqZ (rows : Nat) (b : Nat → Nat) (B : Nat → Nat → V1) (ρ : Bool) (parts n : Nat) : adC (eqZ rows b B ρ parts n) := by
  refine ad_zf (fun p v k d => ?_) (ad_digZ _ _ _ _ _ _) _
  unfold eqZs
  dsimp only
  rw [ad_digZ rows b B ρ p (dig b p n) k d]
  show (_, _, _, k.2.2 + _ + _) = (_, _, _, k.2.2 + (_ + _))
  rw [Nat.add_assoc]
  rfl
section Sem
variable {cc rows : Nat} {K : Nat → CT} {va : Nat → Nat → Nat} {R : Nat → V1}
theorem ad_leaf (i c n : Nat) : adC (leafZ rows K va R i c n) := fun k d => by
  unfold leafZ
  split
  · split
    · exact ad_leR _ _ _ _ _ k d
    · exact ad_leE _ _ _ _ _ k d
  · split
    · exact ad_eqZ _ _ _ _ _ _ k d
    · split
      · exact ad_zbm _ k d
      · rfl
theorem rnN_c (i c n : Nat) (l : List N3) (st : List V1) (k : C3) : rnN rows K va R ((i, c, n) :: l) st k = if i = 11 then match st with
      | v :: st => rnN rows K va R l (tn rows v :: st) (k.1, k.2.1 + 1, k.2.2 + cnt (sw v) (gu rows))
      | [] => rnN rows K va R l [] k
    else if 7 ≤ i ∧ i ≤ 10 then match st with
      | w :: v :: st => rnN rows K va R l (jn (i - 7) v w :: st) (k.1, k.2.1 + 1, k.2.2 + stp (gu rows) v w)
      | st => rnN rows K va R l st k
    else rnN rows K va R l ((leafZ rows K va R i c n k).1 :: st) (leafZ rows K va R i c n k).2 := rfl
theorem rnN_app (a b : List N3) : ∀ (st : List V1) (k : C3), rnN rows K va R (a ++ b) st k = rnN rows K va R b (rnN rows K va R a st k).1 (rnN rows K va R a st k).2 := by
  induction a with
  | nil => intro st k; rfl
  | cons x a ih =>
    intro st k
    obtain ⟨i, c, n⟩ := x
    show rnN rows K va R ((i, c, n) :: (a ++ b)) st k = _
    rw [rnN_c, rnN_c]
    by_cases h1 : i = 11
    · rw [if_pos h1, if_pos h1]
      cases st with
      | nil => exact ih _ _
      | cons v st => exact ih _ _
    · rw [if_neg h1, if_neg h1]
      by_cases h2 : 7 ≤ i ∧ i ≤ 10
      · rw [if_pos h2, if_pos h2]
        match st with
        | [] => exact ih _ _
        | [_] => exact ih _ _
        | _ :: _ :: st => exact ih _ _
      · rw [if_neg h2, if_neg h2]
        exact ih _ _
/-- these notes lay one bitmap more, at that cost -/
def layN (rows : Nat) (K : Nat → CT) (va : Nat → Nat → Nat) (R : Nat → V1) (N : List N3) (v : V1) (d : C3) : Prop := ∀ st k, rnN rows K va R N st k = (v :: st, cp k d)
theorem lay_leaf {i c n : Nat} (h1 : i ≠ 11) (h2 : ¬ (7 ≤ i ∧ i ≤ 10)) : layN rows K va R [(i, c, n)] (leafZ rows K va R i c n (0, 0, 0)).1 (leafZ rows K va R i c n (0, 0, 0)).2 := fun st k => by
  unfold rnN
  rw [if_neg h1, if_neg h2]
  have := ad_leaf (rows := rows) (K := K) (va := va) (R := R) i c n k (0, 0, 0)
  rw [cp_0] at this
  rw [this]
  rfl
theorem lay_not {N : List N3} {v : V1} {d : C3} (h : layN rows K va R N v d) : layN rows K va R (N ++ [(11, 0, 0)]) (tn rows v) (cp d (0, 1, cnt (sw v) (gu rows))) := fun st k => by
  rw [rnN_app, h st k, ← cp_as]
  rfl
theorem lay_join {N M : List N3} {v w : V1} {d e : C3} {i : Nat} (hi : 7 ≤ i ∧ i ≤ 10) (h : layN rows K va R N v d) (h2 : layN rows K va R M w e) : layN rows K va R (N ++ (M ++ [(i, 0, 0)])) (jn (i - 7) v w) (cp (cp d e) (0, 1, stp (gu rows) v w)) := fun st k => by
  rw [rnN_app, h st k, rnN_app, h2, cp_as, ← cp_as k (cp d e)]
  show rnN rows K va R [(i, 0, 0)] (w :: v :: st) (cp k (cp d e)) = _
  unfold rnN
  rw [if_neg (by omega), if_pos hi]
  rfl
theorem lay_up (c : Nat) (n : Int) : ∃ v d, layN rows K va R (upN K c n) v d := by
  unfold upN
  split
  · exact ⟨_, _, lay_leaf (by decide) (by decide)⟩
  · split
    · exact ⟨_, _, lay_leaf (by decide) (by decide)⟩
    · exact ⟨_, _, lay_leaf (by decide) (by decide)⟩
theorem lay_cmp (i c n : Nat) : ∃ v d, layN rows K va R (cmpN K i c n) v d := by
  have hb : ∃ v d, layN rows K va R (cmpB K i c n) v d := by
    unfold cmpB
    split
    · exact lay_up _ _
    · split
      · exact lay_up _ _
      · unfold eqN
        split
        · exact ⟨_, _, lay_leaf (by decide) (by decide)⟩
        · exact ⟨_, _, lay_leaf (by decide) (by decide)⟩
  obtain ⟨v, d, h⟩ := hb
  unfold cmpN
  split
  · exact ⟨_, _, lay_not h⟩
  · rw [List.append_nil]
    exact ⟨v, d, h⟩
theorem lay_btw (c n m : Nat) : ∃ v d, layN rows K va R (btwN K c n m) v d := by
  unfold btwN
  split
  · exact ⟨_, _, lay_leaf (by decide) (by decide)⟩
  · obtain ⟨v, d, h⟩ := lay_up (rows := rows) (K := K) (va := va) (R := R) c (m : Int)
    split
    · obtain ⟨w, e, h2⟩ := lay_up (rows := rows) (K := K) (va := va) (R := R) c ((n : Int) - 1)
      exact ⟨_, _, lay_join (by decide) h h2⟩
    · rw [List.append_nil]
      exact ⟨v, d, h⟩
/-- bitmaps joined, the last one first in the list; what the joining costs -/
def jr (u kind : Nat) : List V1 → V1 × C3
  | [] => (fun _ => 0, (0, 0, 0))
  | [w] => (w, (0, 0, 0))
  | w :: ws => (jn kind (jr u kind ws).1 w, cp (jr u kind ws).2 (0, 1, stp u (jr u kind ws).1 w))
theorem jr_c (u kind : Nat) (w v : V1) (ws : List V1) : jr u kind (w :: v :: ws) = (jn kind (jr u kind (v :: ws)).1 w, cp (jr u kind (v :: ws)).2 (0, 1, stp u (jr u kind (v :: ws)).1 w)) := rfl
/-- acts gone over with a pile of bitmaps -/
def rnA (rows : Nat) (K : Nat → CT) (va : Nat → Nat → Nat) (R : Nat → V1) : List N4 → List V1 → C3 → List V1 × C3
  | [], st, k => (st, k)
  | (i, a, b, c) :: l, st, k =>
    if i ≤ 6 then rnA rows K va R l (rnN rows K va R (if i = 6 then btwN K a b c else cmpN K i a b) st k).1 (rnN rows K va R (if i = 6 then btwN K a b c else cmpN K i a b) st k).2
    else if i ≤ 10 then rnA rows K va R l ((jr (gu rows) (i - 7) (st.take a)).1 :: st.drop a) (cp k (jr (gu rows) (i - 7) (st.take a)).2)
    else if i = 11 then match st with
      | v :: st => rnA rows K va R l (tn rows v :: st) (cp k (0, 1, cnt (sw v) (gu rows)))
      | [] => rnA rows K va R l [] k
    else rnA rows K va R l ((leafZ rows K va R i 0 a k).1 :: st) (leafZ rows K va R i 0 a k).2
theorem rnA_c (i a b c : Nat) (l : List N4) (st : List V1) (k : C3) : rnA rows K va R ((i, a, b, c) :: l) st k = if i ≤ 6 then rnA rows K va R l (rnN rows K va R (if i = 6 then btwN K a b c else cmpN K i a b) st k).1 (rnN rows K va R (if i = 6 then btwN K a b c else cmpN K i a b) st k).2
    else if i ≤ 10 then rnA rows K va R l ((jr (gu rows) (i - 7) (st.take a)).1 :: st.drop a) (cp k (jr (gu rows) (i - 7) (st.take a)).2)
    else if i = 11 then match st with
      | v :: st => rnA rows K va R l (tn rows v :: st) (cp k (0, 1, cnt (sw v) (gu rows)))
      | [] => rnA rows K va R l [] k
    else rnA rows K va R l ((leafZ rows K va R i 0 a k).1 :: st) (leafZ rows K va R i 0 a k).2 := rfl
theorem rnA_app (a b : List N4) : ∀ (st : List V1) (k : C3), rnA rows K va R (a ++ b) st k = rnA rows K va R b (rnA rows K va R a st k).1 (rnA rows K va R a st k).2 := by
  induction a with
  | nil => intro st k; rfl
  | cons x a ih =>
    intro st k
    obtain ⟨i, x1, x2, x3⟩ := x
    show rnA rows K va R ((i, x1, x2, x3) :: (a ++ b)) st k = _
    rw [rnA_c, rnA_c]
    by_cases h1 : i ≤ 6
    · rw [if_pos h1, if_pos h1]
      exact ih _ _
    · rw [if_neg h1, if_neg h1]
      by_cases h2 : i ≤ 10
      · rw [if_pos h2, if_pos h2]
        exact ih _ _
      · rw [if_neg h2, if_neg h2]
        by_cases h3 : i = 11
        · rw [if_pos h3, if_pos h3]
          cases st with
          | nil => exact ih _ _
          | cons v st => exact ih _ _
        · rw [if_neg h3, if_neg h3]
          exact ih _ _
def layA (rows : Nat) (K : Nat → CT) (va : Nat → Nat → Nat) (R : Nat → V1) (A : List N4) (v : V1) (d : C3) : Prop := ∀ st k, rnA rows K va R A st k = (v :: st, cp k d)
/-- the acts fit a pile, and name what there is -/
def okA (cc : Nat) (x : N4) : Prop := x.1 < 15 ∧ (x.1 ≤ 6 → x.2.1 < cc ∧ x.2.2.1 < 1000 ∧ x.2.2.2 < 1000) ∧ (x.1 = 14 → x.2.1 < 6) ∧ ((x.1 = 9 ∨ x.1 = 10) → x.2.1 = 2)
def wfA (cc : Nat) : List N4 → Nat → Nat → Prop
  | [], t, e => t = e
  | x :: l, t, e => okA cc x ∧
    if x.1 ≤ 6 then t + 3 ≤ 30 ∧ wfA cc l (t + 1) e
    else if x.1 ≤ 10 then 1 ≤ x.2.1 ∧ x.2.1 ≤ t ∧ wfA cc l (t - x.2.1 + 1) e
    else if x.1 = 11 then 1 ≤ t ∧ wfA cc l t e
    else t + 1 ≤ 30 ∧ wfA cc l (t + 1) e
/-- what a question read owes: the same bitmap and cost by notes and by acts, within the stack and the pile -/
def goodQ (rows cc : Nat) (K : Nat → CT) (va : Nat → Nat → Nat) (R : Nat → V1) (m : Nat) (N : List N3) (A : List N4) : Prop :=
  (∃ v d, layN rows K va R N v d ∧ layA rows K va R A v d) ∧ (∀ l e t, t + m + 1 ≤ 6 → wfN cc l (t + 1) e → wfN cc (N ++ l) t e) ∧ (∀ l e t, t + 3 * m ≤ 27 → wfA cc l (t + 1) e → wfA cc (A ++ l) t e)
theorem wfN_up {l : List N3} {e t c : Nat} {n : Int} (ht : t < 6) (hc : c < cc) (hK : (K c).2.1 ≤ 200) (h : wfN cc l (t + 1) e) : wfN cc (upN K c n ++ l) t e := by
  unfold upN
  split
  · exact ⟨ht, ⟨fun h => by omega, fun h => by omega, by decide, by decide⟩, h⟩
  · split
    · exact ⟨ht, ⟨fun h => by omega, fun h => by omega, by decide, by decide⟩, h⟩
    · exact ⟨ht, ⟨fun _ => hc, fun h => by omega, by omega, by decide⟩, h⟩
theorem wfN_cmp {l : List N3} {e t i c n : Nat} (ht : t < 6) (hc : c < cc) (hn : n < 1000) (hK : (K c).2.1 ≤ 200) (h : wfN cc l (t + 1) e) : wfN cc (cmpN K i c n ++ l) t e := by
  have hb : ∀ l', wfN cc l' (t + 1) e → wfN cc (cmpB K i c n ++ l') t e := fun l' h' => by
    unfold cmpB
    split
    · exact wfN_up ht hc hK h'
    · split
      · exact wfN_up ht hc hK h'
      · unfold eqN
        split
        · exact ⟨ht, ⟨fun _ => hc, fun h => by omega, hn, by decide⟩, h'⟩
        · exact ⟨ht, ⟨fun h => by omega, fun h => by omega, hn, by decide⟩, h'⟩
  unfold cmpN
  rw [List.append_assoc]
  refine hb _ ?_
  split
  · exact ⟨by omega, h⟩
  · exact h
theorem wfN_btw {l : List N3} {e t c n m : Nat} (ht : t + 2 ≤ 6) (hc : c < cc) (hK : (K c).2.1 ≤ 200) (h : wfN cc l (t + 1) e) : wfN cc (btwN K c n m ++ l) t e := by
  unfold btwN
  split
  · exact ⟨by omega, ⟨fun h => by omega, fun h => by omega, by decide, by decide⟩, h⟩
  · rw [List.append_assoc]
    refine wfN_up (by omega) hc hK ?_
    split
    · rw [List.append_assoc]
      exact wfN_up (by omega) hc hK ⟨by omega, h⟩
    · exact h
end Sem
