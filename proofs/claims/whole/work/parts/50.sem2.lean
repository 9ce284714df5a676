-- ===== what a question answers: all that is read is good =====
section Sem2
variable {f : Nat → Int} {len : Nat} {cc rows : Nat} {K : Nat → CT} {va : Nat → Nat → Nat} {R : Nat → V1}
theorem wfA_c (i a b c : Nat) (l : List N4) (t e : Nat) : wfA cc ((i, a, b, c) :: l) t e = (okA cc (i, a, b, c) ∧
    if i ≤ 6 then t + 3 ≤ 30 ∧ wfA cc l (t + 1) e
    else if i ≤ 10 then 1 ≤ a ∧ a ≤ t ∧ wfA cc l (t - a + 1) e
    else if i = 11 then 1 ≤ t ∧ wfA cc l t e
    else t + 1 ≤ 30 ∧ wfA cc l (t + 1) e) := rfl
theorem wfN_c (i c n : Nat) (l : List N3) (t e : Nat) : wfN cc ((i, c, n) :: l) t e = (if i = 11 then 1 ≤ t ∧ wfN cc l t e
    else if 7 ≤ i ∧ i ≤ 10 then 2 ≤ t ∧ wfN cc l (t - 1) e
    else t < 6 ∧ okL cc i c n ∧ wfN cc l (t + 1) e) := rfl
theorem jnL_good {q : S2 → S2 × List N3 × List N4} (hok : okq q len) {m : Nat} (hq : ∀ a a', a ≤ len → (q (.inr a)).1 = .inr a' → goodQ rows cc K va R m (q (.inr a)).2.1 (q (.inr a)).2.2) {i most : Nat} (hi : 7 ≤ i ∧ i ≤ 10) (hm : most = if i ≤ 8 then 4 else 2) :
    ∀ (n k : Nat) (s : S2) (a' : Nat) (ws : List V1), k + n = 5 → 1 ≤ k → k ≤ most → ws.length = k → (∀ a, s = .inr a → a ≤ len) → (jnL f len q i most n k s).1 = .inr a' →
    (∃ vF dF, (∀ st c, rnN rows K va R (jnL f len q i most n k s).2.1 ((jr (gu rows) (i - 7) ws).1 :: st) (cp c (jr (gu rows) (i - 7) ws).2) = (vF :: st, cp c dF)) ∧ ∀ st c, rnA rows K va R (jnL f len q i most n k s).2.2 (ws ++ st) c = (vF :: st, cp c dF)) ∧
    (∀ l e t, t + m + 2 ≤ 6 → wfN cc l (t + 1) e → wfN cc ((jnL f len q i most n k s).2.1 ++ l) (t + 1) e) ∧ ∀ l e t, t + 3 + 3 * m ≤ 27 → wfA cc l (t + 1) e → wfA cc ((jnL f len q i most n k s).2.2 ++ l) (t + k) e := by
  have hm4 : most ≤ 4 := by rw [hm]; split <;> omega
  have hm2 : 2 ≤ most := by rw [hm]; split <;> omega
  intro n
  induction n with
  | zero => intro k s a' ws hk; omega
  | succ n ih =>
    intro k s a' ws hk h1 h2 hws hs h
    cases s with
    | inl e => cases h
    | inr a =>
      have ha := hs a rfl
      unfold jnL at h ⊢
      dsimp only at h ⊢
      by_cases e : k < most ∧ (k = 1 ∨ byt f len (skB f len a) = 44)
      · rw [if_pos e] at h ⊢
        dsimp only at h ⊢
        have hsg : ∀ y, sgnT f len (.inr a) 44 = .inr y → a < y ∧ y ≤ len := fun y hy => by
          obtain ⟨b, hb, q1, q2⟩ := sgnT_ok hy (fun z hz => by cases hz; exact ha)
          cases hb
          exact ⟨q1, q2⟩
        have hr : ∀ b, (q (sgnT f len (.inr a) 44)).1 = .inr b → b ≤ len := fun b hb => by
          obtain ⟨c, hc, q1, q2, -⟩ := okq_of hok (fun y hy => (hsg y hy).2) hb
          exact q2
        obtain ⟨b, hb, -⟩ := jnL_ok hok hm4 n (k + 1) _ a' (by omega) (by omega) (by omega) hr h
        obtain ⟨y, hy, -⟩ := okq_of hok (fun y hy => (hsg y hy).2) hb
        have hgq := hq y b (hsg y hy).2 (by rw [← hy]; exact hb)
        rw [hy] at h hb ⊢
        obtain ⟨⟨w, dq, g1, g2⟩, g3, g4⟩ := hgq
        obtain ⟨w1, ws', rfl⟩ : ∃ w1 ws', ws = w1 :: ws' := by
          cases ws with
          | nil => rw [List.length_nil] at hws; omega
          | cons w1 ws' => exact ⟨w1, ws', rfl⟩
        obtain ⟨⟨vF, dF, f1, f2⟩, f3, f4⟩ := ih (k + 1) _ a' (w :: w1 :: ws') (by omega) (by omega) (by omega) (by rw [List.length_cons, hws]) (by rw [hy] at hr; exact hr) h
        refine ⟨⟨vF, cp dq dF, fun st c => ?_, fun st c => ?_⟩, fun l e' t ht hl => ?_, fun l e' t ht hl => ?_⟩
        · rw [rnN_app, g1, rnN_c, if_neg (by omega), if_pos hi]
          have := f1 st (cp c dq)
          rw [jr_c] at this
          dsimp only at this
          rw [← cp_as, ← this, ← cp_as, cp_cm c dq]
          rfl
        · rw [rnA_app, g2]
          have := f2 st (cp c dq)
          rw [← cp_as, ← this]
          rfl
        · rw [List.append_assoc]
          refine g3 _ e' (t + 1) (by omega) ?_
          rw [List.cons_append, wfN_c, if_neg (by omega), if_pos hi]
          exact ⟨by omega, f3 l e' t ht hl⟩
        · rw [List.append_assoc]
          refine g4 _ e' (t + k) (by omega) ?_
          exact f4 l e' t ht hl
      · rw [if_neg e] at h ⊢
        by_cases e2 : most = 4 ∧ byt f len (skB f len a) = 44
        · rw [if_pos e2] at h; cases h
        · rw [if_neg e2] at h ⊢
          have hk2 : 2 ≤ k := by
            rcases Nat.lt_or_ge k 2 with h3 | h3
            · exact absurd ⟨by omega, Or.inl (by omega)⟩ e
            · exact h3
          refine ⟨⟨(jr (gu rows) (i - 7) ws).1, (jr (gu rows) (i - 7) ws).2, fun st c => rfl, fun st c => ?_⟩, fun l e' t ht hl => hl, fun l e' t ht hl => ?_⟩
          · rw [rnA_c, if_neg (by omega), if_pos hi.2, List.take_left' hws, List.drop_left' hws]
            rfl
          · show wfA cc ((i, k, 0, 0) :: l) (t + k) e'
            rw [wfA_c, if_neg (by omega), if_pos hi.2]
            refine ⟨⟨by show i < 15; omega, fun h6 => ?_, fun h6 => ?_, fun h6 => ?_⟩, h1, by omega, ?_⟩
            · have h6 : i ≤ 6 := h6
              omega
            · have h6 : i = 14 := h6
              omega
            · have h6 : i = 9 ∨ i = 10 := h6
              show k = 2
              rw [if_neg (by omega)] at hm
              omega
            · rw [show t + k - k + 1 = t + 1 by omega]
              exact hl
theorem pq_good (hK : ∀ c, c < cc → (K c).2.1 ≤ 200) : ∀ m a a', a ≤ len → (pqT f len K cc m (.inr a)).1 = .inr a' → goodQ rows cc K va R m (pqT f len K cc m (.inr a)).2.1 (pqT f len K cc m (.inr a)).2.2 := by
  intro m
  induction m with
  | zero =>
    intro a a' ha h
    have h : opnT f len 0 (wrdT f len (.inr a) 2).2 = .inr a' := h
    have := opn0_no (f := f) (len := len) (wrdT f len (.inr a) 2).2
    rw [h] at this
    cases this
  | succ m ih =>
    intro a a' ha h
    have hok := pq_ok (f := f) (len := len) (K := K) (cc := cc) m
    unfold pqT at h ⊢
    rcases ho : opnT f len (m + 1) (wrdT f len (.inr a) 2).2 with e | b
    · rw [ho] at h; cases h
    · rw [ho] at h
      dsimp only at h ⊢
      obtain ⟨c, hc, q1, q2⟩ := sgnT_ok (s := (wrdT f len (.inr a) 2).2) (x := 40) ho (fun y hy => by
        obtain ⟨_, _, _, _, h2, _⟩ := wrdT_ok hy (fun z hz => by cases hz; exact ha)
        exact h2)
      obtain ⟨x, i, hx, w1, w2, w3, w4⟩ := wrdT_ok hc (fun z hz => by cases hz; exact ha)
      have w4 : i < 15 := w4
      rw [w3, Int.toNat_natCast] at h ⊢
      have hb : ∀ y, (bodT f len K cc (pqT f len K cc m) i b).1 = .inr y → y ≤ len := fun y hy => (bod_ok hok q2 hy).2.1
      obtain ⟨d, hd, -⟩ := sgnT_ok h hb
      clear h ho hc
      unfold bodT at hd ⊢
      by_cases e1 : i ≤ 6
      · rw [if_pos e1] at hd ⊢
        unfold cmpT at hd ⊢
        dsimp only at hd ⊢
        have hcb : ∀ y, (numT f len (.inr b) 0 ((cc : Int) - 1)).2 = .inr y → y ≤ len ∧ 0 ≤ (numT f len (.inr b) 0 ((cc : Int) - 1)).1 ∧ (numT f len (.inr b) 0 ((cc : Int) - 1)).1 ≤ (cc : Int) - 1 := fun y hy => by
          obtain ⟨_, _, _, r2, r3, r4⟩ := numT_ok hy (fun z hz => by cases hz; exact q2)
          exact ⟨r2, r3, r4⟩
        have hsb : ∀ y, sgnT f len (numT f len (.inr b) 0 ((cc : Int) - 1)).2 44 = .inr y → y ≤ len ∧ 0 ≤ (numT f len (.inr b) 0 ((cc : Int) - 1)).1 ∧ (numT f len (.inr b) 0 ((cc : Int) - 1)).1 ≤ (cc : Int) - 1 := fun y hy => by
          obtain ⟨z, hz, _, r2⟩ := sgnT_ok hy (fun z hz => (hcb z hz).1)
          exact ⟨r2, (hcb z hz).2⟩
        have hnb : ∀ y, (numT f len (sgnT f len (numT f len (.inr b) 0 ((cc : Int) - 1)).2 44) 0 999).2 = .inr y → y ≤ len ∧ (0 ≤ (numT f len (.inr b) 0 ((cc : Int) - 1)).1 ∧ (numT f len (.inr b) 0 ((cc : Int) - 1)).1 ≤ (cc : Int) - 1) ∧ 0 ≤ (numT f len (sgnT f len (numT f len (.inr b) 0 ((cc : Int) - 1)).2 44) 0 999).1 ∧ (numT f len (sgnT f len (numT f len (.inr b) 0 ((cc : Int) - 1)).2 44) 0 999).1 ≤ 999 := fun y hy => by
          obtain ⟨z, hz, _, r2, r3, r4⟩ := numT_ok hy (fun z hz => (hsb z hz).1)
          exact ⟨r2, (hsb z hz).2, r3, r4⟩
        generalize (numT f len (.inr b) 0 ((cc : Int) - 1)).1 = cv at hcb hsb hnb
        generalize hnn : numT f len (sgnT f len (numT f len (.inr b) 0 ((cc : Int) - 1)).2 44) 0 999 = nn at hnb hd
        by_cases e6 : i = 6
        · rw [if_pos e6] at hd ⊢
          obtain ⟨y1, hy1, _, _, r3, r4⟩ := numT_ok hd (fun z hz => by
            obtain ⟨y, hy, _, r2⟩ := sgnT_ok hz (fun w hw => (hnb w hw).1)
            exact r2)
          obtain ⟨y2, hy2, _, _⟩ := sgnT_ok hy1 (fun w hw => (hnb w hw).1)
          have hv := hnb y2 hy2
          generalize (numT f len (sgnT f len nn.2 44) 0 999).1 = mv at r3 r4 ⊢
          obtain ⟨v, d', hl⟩ := lay_btw (rows := rows) (K := K) (va := va) (R := R) cv.toNat nn.1.toNat mv.toNat
          refine ⟨⟨v, d', hl, fun st k => ?_⟩, fun l e t ht hl2 => wfN_btw (by omega) (by omega) (hK _ (by omega)) hl2, fun l e t ht hl2 => ?_⟩
          · rw [rnA_c, if_pos (by decide), if_pos rfl, hl]
            rfl
          · show wfA cc ((6, cv.toNat, nn.1.toNat, mv.toNat) :: l) t e
            rw [wfA_c, if_pos (by decide)]
            exact ⟨⟨(by decide : 6 < 15), fun _ => ⟨by show cv.toNat < cc; omega, by show nn.1.toNat < 1000; omega, by show mv.toNat < 1000; omega⟩, fun h => (by cases h), fun h => (by rcases h with h | h <;> cases h)⟩, by omega, hl2⟩
        · rw [if_neg e6] at hd ⊢
          have hv := hnb d hd
          obtain ⟨v, d', hl⟩ := lay_cmp (rows := rows) (K := K) (va := va) (R := R) i cv.toNat nn.1.toNat
          refine ⟨⟨v, d', hl, fun st k => ?_⟩, fun l e t ht hl2 => wfN_cmp (by omega) (by omega) (by omega) (hK _ (by omega)) hl2, fun l e t ht hl2 => ?_⟩
          · rw [rnA_c, if_pos e1, if_neg e6, hl]
            rfl
          · show wfA cc ((i, cv.toNat, nn.1.toNat, 0) :: l) t e
            rw [wfA_c, if_pos e1]
            exact ⟨⟨w4, fun _ => ⟨by show cv.toNat < cc; omega, by show nn.1.toNat < 1000; omega, by show 0 < 1000; decide⟩, fun h => (by have h : i = 14 := h; omega), fun h => (by have h : i = 9 ∨ i = 10 := h; omega)⟩, by omega, hl2⟩
      · rw [if_neg e1] at hd ⊢
        by_cases e2 : i ≤ 10
        · rw [if_pos e2] at hd ⊢
          unfold jnT at hd ⊢
          dsimp only at hd ⊢
          have hr : ∀ y, (pqT f len K cc m (.inr b)).1 = .inr y → y ≤ len := fun y hy => (hok.2 b y q2 hy).2.1
          obtain ⟨y, hy, -⟩ := jnL_ok hok (by split <;> omega) 4 1 _ d (by omega) (by omega) (by split <;> omega) hr hd
          obtain ⟨⟨v, d1, g1, g2⟩, g3, g4⟩ := ih b y q2 hy
          obtain ⟨⟨vF, dF, f1, f2⟩, f3, f4⟩ := jnL_good (rows := rows) (va := va) (R := R) hok (fun a a' => ih a a') ⟨by omega, e2⟩ rfl 4 1 _ d [v] (by omega) (by omega) (by split <;> omega) rfl hr hd
          refine ⟨⟨vF, cp d1 dF, fun st k => ?_, fun st k => ?_⟩, fun l e t ht hl => ?_, fun l e t ht hl => ?_⟩
          · rw [rnN_app, g1, ← cp_as]
            exact f1 st (cp k d1)
          · rw [rnA_app, g2, ← cp_as]
            exact f2 st (cp k d1)
          · rw [List.append_assoc]
            exact g3 _ e t (by omega) (f3 l e t (by omega) hl)
          · rw [List.append_assoc]
            exact g4 _ e t (by omega) (f4 l e t (by omega) hl)
        · rw [if_neg e2] at hd ⊢
          by_cases e3 : i = 11
          · rw [if_pos e3] at hd ⊢
            dsimp only at hd ⊢
            obtain ⟨⟨v, d1, g1, g2⟩, g3, g4⟩ := ih b d q2 hd
            refine ⟨⟨_, _, lay_not g1, fun st k => ?_⟩, fun l e t ht hl => ?_, fun l e t ht hl => ?_⟩
            · rw [rnA_app, g2, ← cp_as]
              rfl
            · rw [List.append_assoc]
              exact g3 _ e t (by omega) ⟨by omega, hl⟩
            · rw [List.append_assoc]
              refine g4 _ e t (by omega) ?_
              show wfA cc ((11, 0, 0, 0) :: l) (t + 1) e
              rw [wfA_c, if_neg (by decide), if_neg (by decide), if_pos rfl]
              exact ⟨⟨(by decide : 11 < 15), fun h => absurd (show 11 ≤ 6 from h) (by decide), fun h => (by cases h), fun h => (by rcases h with h | h <;> cases h)⟩, by omega, hl⟩
          · rw [if_neg e3] at hd ⊢
            by_cases e4 : i = 14
            · rw [if_pos e4] at hd ⊢
              dsimp only at hd ⊢
              obtain ⟨_, _, _, _, r3, r4⟩ := numT_ok hd (fun z hz => by cases hz; exact q2)
              generalize (numT f len (.inr b) 0 5).1 = zv at r3 r4 ⊢
              refine ⟨⟨_, _, lay_leaf (by decide) (by decide), fun st k => ?_⟩, fun l e t ht hl => ?_, fun l e t ht hl => ?_⟩
              · have := lay_leaf (rows := rows) (K := K) (va := va) (R := R) (i := 14) (c := 0) (n := zv.toNat) (by decide) (by decide) st k
                exact this
              · exact ⟨by omega, ⟨fun h => by omega, fun _ => by omega, by omega, by decide⟩, hl⟩
              · show wfA cc ((14, zv.toNat, 0, 0) :: l) t e
                rw [wfA_c, if_neg (by decide), if_neg (by decide), if_neg (by decide)]
                exact ⟨⟨(by decide : 14 < 15), fun h => absurd (show 14 ≤ 6 from h) (by decide), fun _ => (by show zv.toNat < 6; omega), fun h => (by rcases h with h | h <;> cases h)⟩, by omega, hl⟩
            · rw [if_neg e4] at hd ⊢
              have hlf := fun st k => lay_leaf (rows := rows) (K := K) (va := va) (R := R) (i := i) (c := 0) (n := 0) e3 (by omega) st k
              refine ⟨⟨_, _, hlf, fun st k => ?_⟩, fun l e t ht hl => ?_, fun l e t ht hl => ?_⟩
              · have := hlf st k
                rw [rnN_c, if_neg e3, if_neg (by omega)] at this
                rw [rnA_c, if_neg e1, if_neg e2, if_neg e3]
                exact this
              · show wfN cc ((i, 0, 0) :: l) t e
                rw [wfN_c, if_neg e3, if_neg (by omega)]
                exact ⟨by omega, ⟨fun h => by omega, fun h => by omega, by decide, w4⟩, hl⟩
              · show wfA cc ((i, 0, 0, 0) :: l) t e
                rw [wfA_c, if_neg e1, if_neg e2, if_neg e3]
                exact ⟨⟨w4, fun h => (by have h : i ≤ 6 := h; omega), fun h => (by have h : i = 14 := h; omega), fun h => (by have h : i = 9 ∨ i = 10 := h; omega)⟩, by omega, hl⟩
end Sem2
