-- ===== the law: its helpers and its body, in blocks =====
def bL_column : List (List ab_I) := [[(.aload_n 2, y0, []), (.iconst 0, y0, []), (.aload_n 0, y0, []), (.iload_n 1, y0, []), (.invokevirtual 7, yX9_column, [9, 1]), (.i2l, y0, [7]), (.lastore, y0, []), (.goto 9, y0, [5])],
  [(.astore_n 3, y0, [])],
  [(.iconst 1, y0, []), (.ireturn, y0, [])],
  [(.astore_n 3, y0, [])],
  [(.iconst 2, y0, []), (.ireturn, y0, [])],
  [(.iconst 0, y0, []), (.ireturn, y0, [])]]
def pL_column : List Nat := [0, 12, 13, 15, 16, 18, 20]
theorem kL_column : ab_cks cL_column 11 (some .int) false 4 pL_column (fun pc => decide (pc < 9)) 0 bL_column = true := by decide +kernel
def rL_column : List ab_hr5 := [(1, 13, 12, 2, 3), (2, 15, 15, 4, 3)]
theorem eL_column {d mc ms : Nat} {av : List ab_V} {σ : ab_H} {post : ab_O → ab_H → Prop} (hav : (av.all ab_n1 && Nat.ble av.length 4) = true) (h : ∀ At, ab_ruleH rL_column bL_column d mc ms post At → At 0 (av.map some ++ List.replicate (4 - av.length) none) [] σ 0 0) : ab_callH d mc ms yL_column av σ post :=
  ab_entryH (rows := rL_column) (E := 9) (ret := some .int) (maxL := 4) (ab_w_in (i := 500) (by decide +kernel)) (by decide +kernel) (by decide) (by decide +kernel) (by decide) rfl kL_column (by decide +kernel) hav h
def bL_add : List (List ab_I) := [[(.aload 5, y0, []), (.iconst 0, y0, []), (.aload_n 0, y0, []), (.iload_n 1, y0, []), (.iload_n 2, y0, []), (.iload_n 3, y0, []), (.iload 4, y0, []), (.invokevirtual 17, yX9_add, [9, 4]), (.i2l, y0, [7]), (.lastore, y0, []), (.goto 11, y0, [5])],
  [(.astore 6, y0, [])],
  [(.iconst 1, y0, []), (.ireturn, y0, [])],
  [(.astore 6, y0, [])],
  [(.iconst 2, y0, []), (.ireturn, y0, [])],
  [(.iconst 0, y0, []), (.ireturn, y0, [])]]
def pL_add : List Nat := [0, 17, 19, 21, 23, 25, 27]
theorem kL_add : ab_cks cL_add 11 (some .int) false 7 pL_add (fun pc => decide (pc < 14)) 0 bL_add = true := by decide +kernel
def rL_add : List ab_hr5 := [(1, 13, 17, 2, 6), (2, 15, 21, 4, 6)]
theorem eL_add {d mc ms : Nat} {av : List ab_V} {σ : ab_H} {post : ab_O → ab_H → Prop} (hav : (av.all ab_n1 && Nat.ble av.length 7) = true) (h : ∀ At, ab_ruleH rL_add bL_add d mc ms post At → At 0 (av.map some ++ List.replicate (7 - av.length) none) [] σ 0 0) : ab_callH d mc ms yL_add av σ post :=
  ab_entryH (rows := rL_add) (E := 14) (ret := some .int) (maxL := 7) (ab_w_in (i := 757) (by decide +kernel)) (by decide +kernel) (by decide) (by decide +kernel) (by decide) rfl kL_add (by decide +kernel) hav h
def bL_many : List (List ab_I) := [[(.aload 6, y0, []), (.iconst 0, y0, []), (.aload_n 0, y0, []), (.iload_n 1, y0, []), (.iload_n 2, y0, []), (.iload_n 3, y0, []), (.iload 4, y0, []), (.iload 5, y0, []), (.invokevirtual 21, yX9_many, [9, 5]), (.i2l, y0, [7]), (.lastore, y0, []), (.goto 11, y0, [5])],
  [(.astore 7, y0, [])],
  [(.iconst 1, y0, []), (.ireturn, y0, [])],
  [(.astore 7, y0, [])],
  [(.iconst 2, y0, []), (.ireturn, y0, [])],
  [(.iconst 0, y0, []), (.ireturn, y0, [])]]
def pL_many : List Nat := [0, 19, 21, 23, 25, 27, 29]
theorem kL_many : ab_cks cL_many 11 (some .int) false 8 pL_many (fun pc => decide (pc < 16)) 0 bL_many = true := by decide +kernel
def rL_many : List ab_hr5 := [(1, 13, 19, 2, 7), (2, 15, 23, 4, 7)]
theorem eL_many {d mc ms : Nat} {av : List ab_V} {σ : ab_H} {post : ab_O → ab_H → Prop} (hav : (av.all ab_n1 && Nat.ble av.length 8) = true) (h : ∀ At, ab_ruleH rL_many bL_many d mc ms post At → At 0 (av.map some ++ List.replicate (8 - av.length) none) [] σ 0 0) : ab_callH d mc ms yL_many av σ post :=
  ab_entryH (rows := rL_many) (E := 16) (ret := some .int) (maxL := 8) (ab_w_in (i := 777) (by decide +kernel)) (by decide +kernel) (by decide) (by decide +kernel) (by decide) rfl kL_many (by decide +kernel) hav h
def bL_delete : List (List ab_I) := [[(.aload_n 2, y0, []), (.iconst 0, y0, []), (.aload_n 0, y0, []), (.iload_n 1, y0, []), (.invokevirtual 25, yX9_delete, [9, 1]), (.i2l, y0, [7]), (.lastore, y0, []), (.goto 6, y0, [3])],
  [(.astore_n 3, y0, [])],
  [(.iconst 1, y0, []), (.ireturn, y0, [])],
  [(.iconst 0, y0, []), (.ireturn, y0, [])]]
def pL_delete : List Nat := [0, 12, 13, 15, 17]
theorem kL_delete : ab_cks cL_delete 11 (some .int) false 4 pL_delete (fun pc => decide (pc < 9)) 0 bL_delete = true := by decide +kernel
def rL_delete : List ab_hr5 := [(0, 28, 12, 2, 3)]
theorem eL_delete {d mc ms : Nat} {av : List ab_V} {σ : ab_H} {post : ab_O → ab_H → Prop} (hav : (av.all ab_n1 && Nat.ble av.length 4) = true) (h : ∀ At, ab_ruleH rL_delete bL_delete d mc ms post At → At 0 (av.map some ++ List.replicate (4 - av.length) none) [] σ 0 0) : ab_callH d mc ms yL_delete av σ post :=
  ab_entryH (rows := rL_delete) (E := 9) (ret := some .int) (maxL := 4) (ab_w_in (i := 784) (by decide +kernel)) (by decide +kernel) (by decide) (by decide +kernel) (by decide) rfl kL_delete (by decide +kernel) hav h
def bL_ask : List (List ab_I) := [[(.aload_n 3, y0, []), (.iconst 0, y0, []), (.aload_n 0, y0, []), (.iload_n 1, y0, []), (.iload_n 2, y0, []), (.invokevirtual 30, yX9_ask, [9, 2]), (.i2l, y0, [7]), (.lastore, y0, []), (.goto 11, y0, [5])],
  [(.astore 4, y0, [])],
  [(.iconst 1, y0, []), (.ireturn, y0, [])],
  [(.astore 4, y0, [])],
  [(.iconst 2, y0, []), (.ireturn, y0, [])],
  [(.iconst 0, y0, []), (.ireturn, y0, [])]]
def pL_ask : List Nat := [0, 13, 15, 17, 19, 21, 23]
theorem kL_ask : ab_cks cL_ask 11 (some .int) false 5 pL_ask (fun pc => decide (pc < 10)) 0 bL_ask = true := by decide +kernel
def rL_ask : List ab_hr5 := [(0, 28, 13, 2, 4), (1, 13, 17, 4, 4)]
theorem eL_ask {d mc ms : Nat} {av : List ab_V} {σ : ab_H} {post : ab_O → ab_H → Prop} (hav : (av.all ab_n1 && Nat.ble av.length 5) = true) (h : ∀ At, ab_ruleH rL_ask bL_ask d mc ms post At → At 0 (av.map some ++ List.replicate (5 - av.length) none) [] σ 0 0) : ab_callH d mc ms yL_ask av σ post :=
  ab_entryH (rows := rL_ask) (E := 10) (ret := some .int) (maxL := 5) (ab_w_in (i := 820) (by decide +kernel)) (by decide +kernel) (by decide) (by decide +kernel) (by decide) rfl kL_ask (by decide +kernel) hav h
def bL_load : List (List ab_I) := [[(.aload_n 3, y0, []), (.iconst 0, y0, []), (.aload_n 0, y0, []), (.iload_n 1, y0, []), (.iload_n 2, y0, []), (.invokevirtual 34, yX9_load, [9, 2]), (.i2l, y0, [7]), (.lastore, y0, []), (.goto 11, y0, [5])],
  [(.astore 4, y0, [])],
  [(.iconst 1, y0, []), (.ireturn, y0, [])],
  [(.astore 4, y0, [])],
  [(.iconst 2, y0, []), (.ireturn, y0, [])],
  [(.iconst 0, y0, []), (.ireturn, y0, [])]]
def pL_load : List Nat := [0, 13, 15, 17, 19, 21, 23]
theorem kL_load : ab_cks cL_load 11 (some .int) false 5 pL_load (fun pc => decide (pc < 10)) 0 bL_load = true := by decide +kernel
def rL_load : List ab_hr5 := [(0, 28, 13, 2, 4), (1, 13, 17, 4, 4)]
theorem eL_load {d mc ms : Nat} {av : List ab_V} {σ : ab_H} {post : ab_O → ab_H → Prop} (hav : (av.all ab_n1 && Nat.ble av.length 5) = true) (h : ∀ At, ab_ruleH rL_load bL_load d mc ms post At → At 0 (av.map some ++ List.replicate (5 - av.length) none) [] σ 0 0) : ab_callH d mc ms yL_load av σ post :=
  ab_entryH (rows := rL_load) (E := 10) (ret := some .int) (maxL := 5) (ab_w_in (i := 961) (by decide +kernel)) (by decide +kernel) (by decide) (by decide +kernel) (by decide) rfl kL_load (by decide +kernel) hav h
def bL_logic : List (List ab_I) := [[(.aload 5, y0, []), (.iconst 0, y0, []), (.aload_n 0, y0, []), (.iload_n 1, y0, []), (.iload_n 2, y0, []), (.iload_n 3, y0, []), (.iload 4, y0, []), (.invokevirtual 37, yX9_logic, [9, 4]), (.i2l, y0, [7]), (.lastore, y0, []), (.goto 11, y0, [5])],
  [(.astore 6, y0, [])],
  [(.iconst 1, y0, []), (.ireturn, y0, [])],
  [(.astore 6, y0, [])],
  [(.iconst 2, y0, []), (.ireturn, y0, [])],
  [(.iconst 0, y0, []), (.ireturn, y0, [])]]
def pL_logic : List Nat := [0, 17, 19, 21, 23, 25, 27]
theorem kL_logic : ab_cks cL_logic 11 (some .int) false 7 pL_logic (fun pc => decide (pc < 14)) 0 bL_logic = true := by decide +kernel
def rL_logic : List ab_hr5 := [(0, 28, 17, 2, 6), (1, 13, 21, 4, 6)]
theorem eL_logic {d mc ms : Nat} {av : List ab_V} {σ : ab_H} {post : ab_O → ab_H → Prop} (hav : (av.all ab_n1 && Nat.ble av.length 7) = true) (h : ∀ At, ab_ruleH rL_logic bL_logic d mc ms post At → At 0 (av.map some ++ List.replicate (7 - av.length) none) [] σ 0 0) : ab_callH d mc ms yL_logic av σ post :=
  ab_entryH (rows := rL_logic) (E := 14) (ret := some .int) (maxL := 7) (ab_w_in (i := 984) (by decide +kernel)) (by decide +kernel) (by decide) (by decide +kernel) (by decide) rfl kL_logic (by decide +kernel) hav h
def bL_turn : List (List ab_I) := [[(.aload_n 2, y0, []), (.iconst 0, y0, []), (.aload_n 0, y0, []), (.iload_n 1, y0, []), (.invokevirtual 40, yX9_turn, [9, 1]), (.i2l, y0, [7]), (.lastore, y0, []), (.goto 6, y0, [3])],
  [(.astore_n 3, y0, [])],
  [(.iconst 1, y0, []), (.ireturn, y0, [])],
  [(.iconst 0, y0, []), (.ireturn, y0, [])]]
def pL_turn : List Nat := [0, 12, 13, 15, 17]
theorem kL_turn : ab_cks cL_turn 11 (some .int) false 4 pL_turn (fun pc => decide (pc < 9)) 0 bL_turn = true := by decide +kernel
def rL_turn : List ab_hr5 := [(0, 28, 12, 2, 3)]
theorem eL_turn {d mc ms : Nat} {av : List ab_V} {σ : ab_H} {post : ab_O → ab_H → Prop} (hav : (av.all ab_n1 && Nat.ble av.length 4) = true) (h : ∀ At, ab_ruleH rL_turn bL_turn d mc ms post At → At 0 (av.map some ++ List.replicate (4 - av.length) none) [] σ 0 0) : ab_callH d mc ms yL_turn av σ post :=
  ab_entryH (rows := rL_turn) (E := 9) (ret := some .int) (maxL := 4) (ab_w_in (i := 992) (by decide +kernel)) (by decide +kernel) (by decide) (by decide +kernel) (by decide) rfl kL_turn (by decide +kernel) hav h
def bL_told : List (List ab_I) := [[(.aload_n 2, y0, []), (.iconst 0, y0, []), (.aload_n 0, y0, []), (.iload_n 1, y0, []), (.invokevirtual 43, yX9_told, [9, 1]), (.i2l, y0, [7]), (.lastore, y0, []), (.goto 6, y0, [3])],
  [(.astore_n 3, y0, [])],
  [(.iconst 1, y0, []), (.ireturn, y0, [])],
  [(.iconst 0, y0, []), (.ireturn, y0, [])]]
def pL_told : List Nat := [0, 12, 13, 15, 17]
theorem kL_told : ab_cks cL_told 11 (some .int) false 4 pL_told (fun pc => decide (pc < 9)) 0 bL_told = true := by decide +kernel
def rL_told : List ab_hr5 := [(1, 13, 12, 2, 3)]
theorem eL_told {d mc ms : Nat} {av : List ab_V} {σ : ab_H} {post : ab_O → ab_H → Prop} (hav : (av.all ab_n1 && Nat.ble av.length 4) = true) (h : ∀ At, ab_ruleH rL_told bL_told d mc ms post At → At 0 (av.map some ++ List.replicate (4 - av.length) none) [] σ 0 0) : ab_callH d mc ms yL_told av σ post :=
  ab_entryH (rows := rL_told) (E := 9) (ret := some .int) (maxL := 4) (ab_w_in (i := 1000) (by decide +kernel)) (by decide +kernel) (by decide) (by decide +kernel) (by decide) rfl kL_told (by decide +kernel) hav h
def bL_columnOf : List (List ab_I) := [[(.aload_n 3, y0, []), (.iconst 0, y0, []), (.aload_n 0, y0, []), (.iload_n 1, y0, []), (.iload_n 2, y0, []), (.invokevirtual 46, yX9_columnOf, [9, 2]), (.i2l, y0, [7]), (.lastore, y0, []), (.goto 11, y0, [5])],
  [(.astore 4, y0, [])],
  [(.iconst 1, y0, []), (.ireturn, y0, [])],
  [(.astore 4, y0, [])],
  [(.iconst 2, y0, []), (.ireturn, y0, [])],
  [(.iconst 0, y0, []), (.ireturn, y0, [])]]
def pL_columnOf : List Nat := [0, 13, 15, 17, 19, 21, 23]
theorem kL_columnOf : ab_cks cL_columnOf 11 (some .int) false 5 pL_columnOf (fun pc => decide (pc < 10)) 0 bL_columnOf = true := by decide +kernel
def rL_columnOf : List ab_hr5 := [(0, 28, 13, 2, 4), (1, 13, 17, 4, 4)]
theorem eL_columnOf {d mc ms : Nat} {av : List ab_V} {σ : ab_H} {post : ab_O → ab_H → Prop} (hav : (av.all ab_n1 && Nat.ble av.length 5) = true) (h : ∀ At, ab_ruleH rL_columnOf bL_columnOf d mc ms post At → At 0 (av.map some ++ List.replicate (5 - av.length) none) [] σ 0 0) : ab_callH d mc ms yL_columnOf av σ post :=
  ab_entryH (rows := rL_columnOf) (E := 10) (ret := some .int) (maxL := 5) (ab_w_in (i := 1025) (by decide +kernel)) (by decide +kernel) (by decide) (by decide +kernel) (by decide) rfl kL_columnOf (by decide +kernel) hav h
def bL_base : List (List ab_I) := [[(.aload_n 3, y0, []), (.iconst 0, y0, []), (.aload_n 0, y0, []), (.iload_n 1, y0, []), (.iload_n 2, y0, []), (.invokevirtual 49, yX9_base, [9, 2]), (.i2l, y0, [7]), (.lastore, y0, []), (.goto 7, y0, [3])],
  [(.astore 4, y0, [])],
  [(.iconst 1, y0, []), (.ireturn, y0, [])],
  [(.iconst 0, y0, []), (.ireturn, y0, [])]]
def pL_base : List Nat := [0, 13, 15, 17, 19]
theorem kL_base : ab_cks cL_base 11 (some .int) false 5 pL_base (fun pc => decide (pc < 10)) 0 bL_base = true := by decide +kernel
def rL_base : List ab_hr5 := [(0, 28, 13, 2, 4)]
theorem eL_base {d mc ms : Nat} {av : List ab_V} {σ : ab_H} {post : ab_O → ab_H → Prop} (hav : (av.all ab_n1 && Nat.ble av.length 5) = true) (h : ∀ At, ab_ruleH rL_base bL_base d mc ms post At → At 0 (av.map some ++ List.replicate (5 - av.length) none) [] σ 0 0) : ab_callH d mc ms yL_base av σ post :=
  ab_entryH (rows := rL_base) (E := 10) (ret := some .int) (maxL := 5) (ab_w_in (i := 1037) (by decide +kernel)) (by decide +kernel) (by decide) (by decide +kernel) (by decide) rfl kL_base (by decide +kernel) hav h
def bL_index : List (List ab_I) := [[(.aload 5, y0, []), (.iconst 0, y0, []), (.aload_n 0, y0, []), (.iload_n 1, y0, []), (.iload_n 2, y0, []), (.iload_n 3, y0, []), (.iload 4, y0, []), (.invokevirtual 52, yX9_index, [9, 4]), (.i2l, y0, [7]), (.lastore, y0, []), (.goto 11, y0, [5])],
  [(.astore 6, y0, [])],
  [(.iconst 1, y0, []), (.ireturn, y0, [])],
  [(.astore 6, y0, [])],
  [(.iconst 2, y0, []), (.ireturn, y0, [])],
  [(.iconst 0, y0, []), (.ireturn, y0, [])]]
def pL_index : List Nat := [0, 17, 19, 21, 23, 25, 27]
theorem kL_index : ab_cks cL_index 11 (some .int) false 7 pL_index (fun pc => decide (pc < 14)) 0 bL_index = true := by decide +kernel
def rL_index : List ab_hr5 := [(0, 28, 17, 2, 6), (1, 13, 21, 4, 6)]
theorem eL_index {d mc ms : Nat} {av : List ab_V} {σ : ab_H} {post : ab_O → ab_H → Prop} (hav : (av.all ab_n1 && Nat.ble av.length 7) = true) (h : ∀ At, ab_ruleH rL_index bL_index d mc ms post At → At 0 (av.map some ++ List.replicate (7 - av.length) none) [] σ 0 0) : ab_callH d mc ms yL_index av σ post :=
  ab_entryH (rows := rL_index) (E := 14) (ret := some .int) (maxL := 7) (ab_w_in (i := 1048) (by decide +kernel)) (by decide +kernel) (by decide) (by decide +kernel) (by decide) rfl kL_index (by decide +kernel) hav h
def bL_indexWord : List (List ab_I) := [[(.aload 5, y0, []), (.iconst 0, y0, []), (.aload_n 0, y0, []), (.iload_n 1, y0, []), (.iload_n 2, y0, []), (.iload_n 3, y0, []), (.iload 4, y0, []), (.invokevirtual 55, yX9_indexWord, [9, 4]), (.i2l, y0, [7]), (.lastore, y0, []), (.goto 7, y0, [3])],
  [(.astore 6, y0, [])],
  [(.iconst 1, y0, []), (.ireturn, y0, [])],
  [(.iconst 0, y0, []), (.ireturn, y0, [])]]
def pL_indexWord : List Nat := [0, 17, 19, 21, 23]
theorem kL_indexWord : ab_cks cL_indexWord 11 (some .int) false 7 pL_indexWord (fun pc => decide (pc < 14)) 0 bL_indexWord = true := by decide +kernel
def rL_indexWord : List ab_hr5 := [(0, 28, 17, 2, 6)]
theorem eL_indexWord {d mc ms : Nat} {av : List ab_V} {σ : ab_H} {post : ab_O → ab_H → Prop} (hav : (av.all ab_n1 && Nat.ble av.length 7) = true) (h : ∀ At, ab_ruleH rL_indexWord bL_indexWord d mc ms post At → At 0 (av.map some ++ List.replicate (7 - av.length) none) [] σ 0 0) : ab_callH d mc ms yL_indexWord av σ post :=
  ab_entryH (rows := rL_indexWord) (E := 14) (ret := some .int) (maxL := 7) (ab_w_in (i := 1094) (by decide +kernel)) (by decide +kernel) (by decide) (by decide +kernel) (by decide) rfl kL_indexWord (by decide +kernel) hav h
def bL_result : List (List ab_I) := [[(.aload_n 3, y0, []), (.iconst 0, y0, []), (.aload_n 0, y0, []), (.iload_n 1, y0, []), (.iload_n 2, y0, []), (.invokevirtual 58, yX9_result, [9, 2]), (.i2l, y0, [7]), (.lastore, y0, []), (.goto 11, y0, [5])],
  [(.astore 4, y0, [])],
  [(.iconst 1, y0, []), (.ireturn, y0, [])],
  [(.astore 4, y0, [])],
  [(.iconst 2, y0, []), (.ireturn, y0, [])],
  [(.iconst 0, y0, []), (.ireturn, y0, [])]]
def pL_result : List Nat := [0, 13, 15, 17, 19, 21, 23]
theorem kL_result : ab_cks cL_result 11 (some .int) false 5 pL_result (fun pc => decide (pc < 10)) 0 bL_result = true := by decide +kernel
def rL_result : List ab_hr5 := [(0, 28, 13, 2, 4), (1, 13, 17, 4, 4)]
theorem eL_result {d mc ms : Nat} {av : List ab_V} {σ : ab_H} {post : ab_O → ab_H → Prop} (hav : (av.all ab_n1 && Nat.ble av.length 5) = true) (h : ∀ At, ab_ruleH rL_result bL_result d mc ms post At → At 0 (av.map some ++ List.replicate (5 - av.length) none) [] σ 0 0) : ab_callH d mc ms yL_result av σ post :=
  ab_entryH (rows := rL_result) (E := 10) (ret := some .int) (maxL := 5) (ab_w_in (i := 1119) (by decide +kernel)) (by decide +kernel) (by decide) (by decide +kernel) (by decide) rfl kL_result (by decide +kernel) hav h
def bL_word : List (List ab_I) := [[(.aload_n 3, y0, []), (.iconst 0, y0, []), (.aload_n 0, y0, []), (.iload_n 1, y0, []), (.iload_n 2, y0, []), (.invokevirtual 61, yX9_word, [9, 2]), (.i2l, y0, [7]), (.lastore, y0, []), (.goto 7, y0, [3])],
  [(.astore 4, y0, [])],
  [(.iconst 1, y0, []), (.ireturn, y0, [])],
  [(.iconst 0, y0, []), (.ireturn, y0, [])]]
def pL_word : List Nat := [0, 13, 15, 17, 19]
theorem kL_word : ab_cks cL_word 11 (some .int) false 5 pL_word (fun pc => decide (pc < 10)) 0 bL_word = true := by decide +kernel
def rL_word : List ab_hr5 := [(0, 28, 13, 2, 4)]
theorem eL_word {d mc ms : Nat} {av : List ab_V} {σ : ab_H} {post : ab_O → ab_H → Prop} (hav : (av.all ab_n1 && Nat.ble av.length 5) = true) (h : ∀ At, ab_ruleH rL_word bL_word d mc ms post At → At 0 (av.map some ++ List.replicate (5 - av.length) none) [] σ 0 0) : ab_callH d mc ms yL_word av σ post :=
  ab_entryH (rows := rL_word) (E := 10) (ret := some .int) (maxL := 5) (ab_w_in (i := 1130) (by decide +kernel)) (by decide +kernel) (by decide) (by decide +kernel) (by decide) rfl kL_word (by decide +kernel) hav h
def bL_has : List (List ab_I) := [[(.aload_n 3, y0, []), (.iconst 0, y0, []), (.aload_n 0, y0, []), (.iload_n 1, y0, []), (.iload_n 2, y0, []), (.invokevirtual 64, yX9_has, [9, 2]), (.ifCond .eq 7, y0, [2])],
  [(.lconst 1, y0, []), (.goto 4, y0, [3])],
  [(.lconst 0, y0, [])],
  [(.lastore, y0, []), (.goto 7, y0, [6])],
  [(.astore 4, y0, [])],
  [(.iconst 1, y0, []), (.ireturn, y0, [])],
  [(.iconst 0, y0, []), (.ireturn, y0, [])]]
def pL_has : List Nat := [0, 11, 15, 16, 20, 22, 24, 26]
theorem kL_has : ab_cks cL_has 11 (some .int) false 5 pL_has (fun pc => decide (pc < 17)) 0 bL_has = true := by decide +kernel
def rL_has : List ab_hr5 := [(0, 28, 20, 5, 4)]
theorem eL_has {d mc ms : Nat} {av : List ab_V} {σ : ab_H} {post : ab_O → ab_H → Prop} (hav : (av.all ab_n1 && Nat.ble av.length 5) = true) (h : ∀ At, ab_ruleH rL_has bL_has d mc ms post At → At 0 (av.map some ++ List.replicate (5 - av.length) none) [] σ 0 0) : ab_callH d mc ms yL_has av σ post :=
  ab_entryH (rows := rL_has) (E := 17) (ret := some .int) (maxL := 5) (ab_w_in (i := 1137) (by decide +kernel)) (by decide +kernel) (by decide) (by decide +kernel) (by decide) rfl kL_has (by decide +kernel) hav h
def bL_rank : List (List ab_I) := [[(.aload_n 3, y0, []), (.iconst 0, y0, []), (.aload_n 0, y0, []), (.iload_n 1, y0, []), (.iload_n 2, y0, []), (.invokevirtual 68, yX9_rank, [9, 2]), (.i2l, y0, [7]), (.lastore, y0, []), (.goto 11, y0, [5])],
  [(.astore 4, y0, [])],
  [(.iconst 1, y0, []), (.ireturn, y0, [])],
  [(.astore 4, y0, [])],
  [(.iconst 2, y0, []), (.ireturn, y0, [])],
  [(.iconst 0, y0, []), (.ireturn, y0, [])]]
def pL_rank : List Nat := [0, 13, 15, 17, 19, 21, 23]
theorem kL_rank : ab_cks cL_rank 11 (some .int) false 5 pL_rank (fun pc => decide (pc < 10)) 0 bL_rank = true := by decide +kernel
def rL_rank : List ab_hr5 := [(0, 28, 13, 2, 4), (1, 13, 17, 4, 4)]
theorem eL_rank {d mc ms : Nat} {av : List ab_V} {σ : ab_H} {post : ab_O → ab_H → Prop} (hav : (av.all ab_n1 && Nat.ble av.length 5) = true) (h : ∀ At, ab_ruleH rL_rank bL_rank d mc ms post At → At 0 (av.map some ++ List.replicate (5 - av.length) none) [] σ 0 0) : ab_callH d mc ms yL_rank av σ post :=
  ab_entryH (rows := rL_rank) (E := 10) (ret := some .int) (maxL := 5) (ab_w_in (i := 1144) (by decide +kernel)) (by decide +kernel) (by decide) (by decide +kernel) (by decide) rfl kL_rank (by decide +kernel) hav h
def bL_select : List (List ab_I) := [[(.aload_n 3, y0, []), (.iconst 0, y0, []), (.aload_n 0, y0, []), (.iload_n 1, y0, []), (.iload_n 2, y0, []), (.invokevirtual 71, yX9_select, [9, 2]), (.i2l, y0, [7]), (.lastore, y0, []), (.goto 7, y0, [3])],
  [(.astore 4, y0, [])],
  [(.iconst 1, y0, []), (.ireturn, y0, [])],
  [(.iconst 0, y0, []), (.ireturn, y0, [])]]
def pL_select : List Nat := [0, 13, 15, 17, 19]
theorem kL_select : ab_cks cL_select 11 (some .int) false 5 pL_select (fun pc => decide (pc < 10)) 0 bL_select = true := by decide +kernel
def rL_select : List ab_hr5 := [(0, 28, 13, 2, 4)]
theorem eL_select {d mc ms : Nat} {av : List ab_V} {σ : ab_H} {post : ab_O → ab_H → Prop} (hav : (av.all ab_n1 && Nat.ble av.length 5) = true) (h : ∀ At, ab_ruleH rL_select bL_select d mc ms post At → At 0 (av.map some ++ List.replicate (5 - av.length) none) [] σ 0 0) : ab_callH d mc ms yL_select av σ post :=
  ab_entryH (rows := rL_select) (E := 10) (ret := some .int) (maxL := 5) (ab_w_in (i := 1155) (by decide +kernel)) (by decide +kernel) (by decide) (by decide +kernel) (by decide) rfl kL_select (by decide +kernel) hav h
def bL_next : List (List ab_I) := [[(.aload_n 3, y0, []), (.iconst 0, y0, []), (.aload_n 0, y0, []), (.iload_n 1, y0, []), (.iload_n 2, y0, []), (.invokevirtual 74, yX9_next, [9, 2]), (.i2l, y0, [7]), (.lastore, y0, []), (.goto 11, y0, [5])],
  [(.astore 4, y0, [])],
  [(.iconst 1, y0, []), (.ireturn, y0, [])],
  [(.astore 4, y0, [])],
  [(.iconst 2, y0, []), (.ireturn, y0, [])],
  [(.iconst 0, y0, []), (.ireturn, y0, [])]]
def pL_next : List Nat := [0, 13, 15, 17, 19, 21, 23]
theorem kL_next : ab_cks cL_next 11 (some .int) false 5 pL_next (fun pc => decide (pc < 10)) 0 bL_next = true := by decide +kernel
def rL_next : List ab_hr5 := [(0, 28, 13, 2, 4), (1, 13, 17, 4, 4)]
theorem eL_next {d mc ms : Nat} {av : List ab_V} {σ : ab_H} {post : ab_O → ab_H → Prop} (hav : (av.all ab_n1 && Nat.ble av.length 5) = true) (h : ∀ At, ab_ruleH rL_next bL_next d mc ms post At → At 0 (av.map some ++ List.replicate (5 - av.length) none) [] σ 0 0) : ab_callH d mc ms yL_next av σ post :=
  ab_entryH (rows := rL_next) (E := 10) (ret := some .int) (maxL := 5) (ab_w_in (i := 1170) (by decide +kernel)) (by decide +kernel) (by decide) (by decide +kernel) (by decide) rfl kL_next (by decide +kernel) hav h
def bL_would : List (List ab_I) := [[(.aload 5, y0, []), (.iconst 0, y0, []), (.aload_n 0, y0, []), (.iload_n 1, y0, []), (.iload_n 2, y0, []), (.iload_n 3, y0, []), (.iload 4, y0, []), (.invokevirtual 77, yX9_would, [9, 4]), (.i2l, y0, [7]), (.lastore, y0, []), (.goto 11, y0, [5])],
  [(.astore 6, y0, [])],
  [(.iconst 1, y0, []), (.ireturn, y0, [])],
  [(.astore 6, y0, [])],
  [(.iconst 2, y0, []), (.ireturn, y0, [])],
  [(.iconst 0, y0, []), (.ireturn, y0, [])]]
def pL_would : List Nat := [0, 17, 19, 21, 23, 25, 27]
theorem kL_would : ab_cks cL_would 11 (some .int) false 7 pL_would (fun pc => decide (pc < 14)) 0 bL_would = true := by decide +kernel
def rL_would : List ab_hr5 := [(0, 28, 17, 2, 6), (1, 13, 21, 4, 6)]
theorem eL_would {d mc ms : Nat} {av : List ab_V} {σ : ab_H} {post : ab_O → ab_H → Prop} (hav : (av.all ab_n1 && Nat.ble av.length 7) = true) (h : ∀ At, ab_ruleH rL_would bL_would d mc ms post At → At 0 (av.map some ++ List.replicate (7 - av.length) none) [] σ 0 0) : ab_callH d mc ms yL_would av σ post :=
  ab_entryH (rows := rL_would) (E := 14) (ret := some .int) (maxL := 7) (ab_w_in (i := 1178) (by decide +kernel)) (by decide +kernel) (by decide) (by decide +kernel) (by decide) rfl kL_would (by decide +kernel) hav h
def bL_within : List (List ab_I) := [[(.aload_n 3, y0, []), (.iconst 0, y0, []), (.aload_n 0, y0, []), (.iload_n 1, y0, []), (.iload_n 2, y0, []), (.invokevirtual 80, yX9_within, [9, 2]), (.ifCond .eq 7, y0, [2])],
  [(.lconst 1, y0, []), (.goto 4, y0, [3])],
  [(.lconst 0, y0, [])],
  [(.lastore, y0, []), (.goto 7, y0, [6])],
  [(.astore 4, y0, [])],
  [(.iconst 1, y0, []), (.ireturn, y0, [])],
  [(.iconst 0, y0, []), (.ireturn, y0, [])]]
def pL_within : List Nat := [0, 11, 15, 16, 20, 22, 24, 26]
theorem kL_within : ab_cks cL_within 11 (some .int) false 5 pL_within (fun pc => decide (pc < 17)) 0 bL_within = true := by decide +kernel
def rL_within : List ab_hr5 := [(0, 28, 20, 5, 4)]
theorem eL_within {d mc ms : Nat} {av : List ab_V} {σ : ab_H} {post : ab_O → ab_H → Prop} (hav : (av.all ab_n1 && Nat.ble av.length 5) = true) (h : ∀ At, ab_ruleH rL_within bL_within d mc ms post At → At 0 (av.map some ++ List.replicate (5 - av.length) none) [] σ 0 0) : ab_callH d mc ms yL_within av σ post :=
  ab_entryH (rows := rL_within) (E := 17) (ret := some .int) (maxL := 5) (ab_w_in (i := 1186) (by decide +kernel)) (by decide +kernel) (by decide) (by decide +kernel) (by decide) rfl kL_within (by decide +kernel) hav h
def bL_cost : List (List ab_I) := [[(.aload_n 2, y0, []), (.iconst 0, y0, []), (.aload_n 0, y0, []), (.iload_n 1, y0, []), (.invokevirtual 83, yX9_cost, [9, 1]), (.i2l, y0, [7]), (.lastore, y0, []), (.goto 6, y0, [3])],
  [(.astore_n 3, y0, [])],
  [(.iconst 1, y0, []), (.ireturn, y0, [])],
  [(.iconst 0, y0, []), (.ireturn, y0, [])]]
def pL_cost : List Nat := [0, 12, 13, 15, 17]
theorem kL_cost : ab_cks cL_cost 11 (some .int) false 4 pL_cost (fun pc => decide (pc < 9)) 0 bL_cost = true := by decide +kernel
def rL_cost : List ab_hr5 := [(1, 13, 12, 2, 3)]
theorem eL_cost {d mc ms : Nat} {av : List ab_V} {σ : ab_H} {post : ab_O → ab_H → Prop} (hav : (av.all ab_n1 && Nat.ble av.length 4) = true) (h : ∀ At, ab_ruleH rL_cost bL_cost d mc ms post At → At 0 (av.map some ++ List.replicate (4 - av.length) none) [] σ 0 0) : ab_callH d mc ms yL_cost av σ post :=
  ab_entryH (rows := rL_cost) (E := 9) (ret := some .int) (maxL := 4) (ab_w_in (i := 1193) (by decide +kernel)) (by decide +kernel) (by decide) (by decide +kernel) (by decide) rfl kL_cost (by decide +kernel) hav h
def bL_value : List (List ab_I) := [[(.aload_n 3, y0, []), (.iconst 0, y0, []), (.aload_n 0, y0, []), (.iload_n 1, y0, []), (.iload_n 2, y0, []), (.invokevirtual 86, yX9_value, [9, 2]), (.i2l, y0, [7]), (.lastore, y0, []), (.goto 7, y0, [3])],
  [(.astore 4, y0, [])],
  [(.iconst 1, y0, []), (.ireturn, y0, [])],
  [(.iconst 0, y0, []), (.ireturn, y0, [])]]
def pL_value : List Nat := [0, 13, 15, 17, 19]
theorem kL_value : ab_cks cL_value 11 (some .int) false 5 pL_value (fun pc => decide (pc < 10)) 0 bL_value = true := by decide +kernel
def rL_value : List ab_hr5 := [(0, 28, 13, 2, 4)]
theorem eL_value {d mc ms : Nat} {av : List ab_V} {σ : ab_H} {post : ab_O → ab_H → Prop} (hav : (av.all ab_n1 && Nat.ble av.length 5) = true) (h : ∀ At, ab_ruleH rL_value bL_value d mc ms post At → At 0 (av.map some ++ List.replicate (5 - av.length) none) [] σ 0 0) : ab_callH d mc ms yL_value av σ post :=
  ab_entryH (rows := rL_value) (E := 10) (ret := some .int) (maxL := 5) (ab_w_in (i := 1200) (by decide +kernel)) (by decide +kernel) (by decide) (by decide +kernel) (by decide) rfl kL_value (by decide +kernel) hav h
def bL_sum : List (List ab_I) := [[(.aload_n 3, y0, []), (.iconst 0, y0, []), (.aload_n 0, y0, []), (.iload_n 1, y0, []), (.iload_n 2, y0, []), (.invokevirtual 89, yX9_sum, [9, 2]), (.i2l, y0, [7]), (.lastore, y0, []), (.goto 7, y0, [3])],
  [(.astore 4, y0, [])],
  [(.iconst 1, y0, []), (.ireturn, y0, [])],
  [(.iconst 0, y0, []), (.ireturn, y0, [])]]
def pL_sum : List Nat := [0, 13, 15, 17, 19]
theorem kL_sum : ab_cks cL_sum 11 (some .int) false 5 pL_sum (fun pc => decide (pc < 10)) 0 bL_sum = true := by decide +kernel
def rL_sum : List ab_hr5 := [(0, 28, 13, 2, 4)]
theorem eL_sum {d mc ms : Nat} {av : List ab_V} {σ : ab_H} {post : ab_O → ab_H → Prop} (hav : (av.all ab_n1 && Nat.ble av.length 5) = true) (h : ∀ At, ab_ruleH rL_sum bL_sum d mc ms post At → At 0 (av.map some ++ List.replicate (5 - av.length) none) [] σ 0 0) : ab_callH d mc ms yL_sum av σ post :=
  ab_entryH (rows := rL_sum) (E := 10) (ret := some .int) (maxL := 5) (ab_w_in (i := 1207) (by decide +kernel)) (by decide +kernel) (by decide) (by decide +kernel) (by decide) rfl kL_sum (by decide +kernel) hav h
def bL_kth : List (List ab_I) := [[(.aload 4, y0, []), (.iconst 0, y0, []), (.aload_n 0, y0, []), (.iload_n 1, y0, []), (.iload_n 2, y0, []), (.iload_n 3, y0, []), (.invokevirtual 92, yX9_kth, [9, 3]), (.i2l, y0, [7]), (.lastore, y0, []), (.goto 7, y0, [3])],
  [(.astore 5, y0, [])],
  [(.iconst 1, y0, []), (.ireturn, y0, [])],
  [(.iconst 0, y0, []), (.ireturn, y0, [])]]
def pL_kth : List Nat := [0, 15, 17, 19, 21]
theorem kL_kth : ab_cks cL_kth 11 (some .int) false 6 pL_kth (fun pc => decide (pc < 12)) 0 bL_kth = true := by decide +kernel
def rL_kth : List ab_hr5 := [(0, 28, 15, 2, 5)]
theorem eL_kth {d mc ms : Nat} {av : List ab_V} {σ : ab_H} {post : ab_O → ab_H → Prop} (hav : (av.all ab_n1 && Nat.ble av.length 6) = true) (h : ∀ At, ab_ruleH rL_kth bL_kth d mc ms post At → At 0 (av.map some ++ List.replicate (6 - av.length) none) [] σ 0 0) : ab_callH d mc ms yL_kth av σ post :=
  ab_entryH (rows := rL_kth) (E := 12) (ret := some .int) (maxL := 6) (ab_w_in (i := 1223) (by decide +kernel)) (by decide +kernel) (by decide) (by decide +kernel) (by decide) rfl kL_kth (by decide +kernel) hav h
def bL_mode : List (List ab_I) := [[(.aload 4, y0, []), (.iconst 0, y0, []), (.aload_n 0, y0, []), (.iload_n 1, y0, []), (.iload_n 2, y0, []), (.iload_n 3, y0, []), (.invokevirtual 96, yX9_mode, [9, 3]), (.i2l, y0, [7]), (.lastore, y0, []), (.goto 11, y0, [5])],
  [(.astore 5, y0, [])],
  [(.iconst 1, y0, []), (.ireturn, y0, [])],
  [(.astore 5, y0, [])],
  [(.iconst 2, y0, []), (.ireturn, y0, [])],
  [(.iconst 0, y0, []), (.ireturn, y0, [])]]
def pL_mode : List Nat := [0, 15, 17, 19, 21, 23, 25]
theorem kL_mode : ab_cks cL_mode 11 (some .int) false 6 pL_mode (fun pc => decide (pc < 12)) 0 bL_mode = true := by decide +kernel
def rL_mode : List ab_hr5 := [(0, 28, 15, 2, 5), (1, 13, 19, 4, 5)]
theorem eL_mode {d mc ms : Nat} {av : List ab_V} {σ : ab_H} {post : ab_O → ab_H → Prop} (hav : (av.all ab_n1 && Nat.ble av.length 6) = true) (h : ∀ At, ab_ruleH rL_mode bL_mode d mc ms post At → At 0 (av.map some ++ List.replicate (6 - av.length) none) [] σ 0 0) : ab_callH d mc ms yL_mode av σ post :=
  ab_entryH (rows := rL_mode) (E := 12) (ret := some .int) (maxL := 6) (ab_w_in (i := 1230) (by decide +kernel)) (by decide +kernel) (by decide) (by decide +kernel) (by decide) rfl kL_mode (by decide +kernel) hav h
def bL_unlike : List (List ab_I) := [[(.aload_n 3, y0, []), (.iconst 0, y0, []), (.aload_n 0, y0, []), (.iload_n 1, y0, []), (.iload_n 2, y0, []), (.invokevirtual 99, yX9_unlike, [9, 2]), (.i2l, y0, [7]), (.lastore, y0, []), (.goto 7, y0, [3])],
  [(.astore 4, y0, [])],
  [(.iconst 1, y0, []), (.ireturn, y0, [])],
  [(.iconst 0, y0, []), (.ireturn, y0, [])]]
def pL_unlike : List Nat := [0, 13, 15, 17, 19]
theorem kL_unlike : ab_cks cL_unlike 11 (some .int) false 5 pL_unlike (fun pc => decide (pc < 10)) 0 bL_unlike = true := by decide +kernel
def rL_unlike : List ab_hr5 := [(0, 28, 13, 2, 4)]
theorem eL_unlike {d mc ms : Nat} {av : List ab_V} {σ : ab_H} {post : ab_O → ab_H → Prop} (hav : (av.all ab_n1 && Nat.ble av.length 5) = true) (h : ∀ At, ab_ruleH rL_unlike bL_unlike d mc ms post At → At 0 (av.map some ++ List.replicate (5 - av.length) none) [] σ 0 0) : ab_callH d mc ms yL_unlike av σ post :=
  ab_entryH (rows := rL_unlike) (E := 10) (ret := some .int) (maxL := 5) (ab_w_in (i := 1237) (by decide +kernel)) (by decide +kernel) (by decide) (by decide +kernel) (by decide) rfl kL_unlike (by decide +kernel) hav h
def bL_span : List (List ab_I) := [[(.aload 5, y0, []), (.iconst 0, y0, []), (.aload_n 0, y0, []), (.iload_n 1, y0, []), (.iload_n 2, y0, []), (.iload_n 3, y0, []), (.iload 4, y0, []), (.invokevirtual 102, yX9_span, [9, 4]), (.i2l, y0, [7]), (.lastore, y0, []), (.goto 11, y0, [5])],
  [(.astore 6, y0, [])],
  [(.iconst 1, y0, []), (.ireturn, y0, [])],
  [(.astore 6, y0, [])],
  [(.iconst 2, y0, []), (.ireturn, y0, [])],
  [(.iconst 0, y0, []), (.ireturn, y0, [])]]
def pL_span : List Nat := [0, 17, 19, 21, 23, 25, 27]
theorem kL_span : ab_cks cL_span 11 (some .int) false 7 pL_span (fun pc => decide (pc < 14)) 0 bL_span = true := by decide +kernel
def rL_span : List ab_hr5 := [(0, 28, 17, 2, 6), (1, 13, 21, 4, 6)]
theorem eL_span {d mc ms : Nat} {av : List ab_V} {σ : ab_H} {post : ab_O → ab_H → Prop} (hav : (av.all ab_n1 && Nat.ble av.length 7) = true) (h : ∀ At, ab_ruleH rL_span bL_span d mc ms post At → At 0 (av.map some ++ List.replicate (7 - av.length) none) [] σ 0 0) : ab_callH d mc ms yL_span av σ post :=
  ab_entryH (rows := rL_span) (E := 14) (ret := some .int) (maxL := 7) (ab_w_in (i := 1244) (by decide +kernel)) (by decide +kernel) (by decide) (by decide +kernel) (by decide) rfl kL_span (by decide +kernel) hav h
def bL_foretold : List (List ab_I) := [[(.aload 5, y0, []), (.iconst 0, y0, []), (.aload_n 0, y0, []), (.iload_n 1, y0, []), (.iload_n 2, y0, []), (.iload_n 3, y0, []), (.iload 4, y0, []), (.invokevirtual 105, yX9_foretold, [9, 4]), (.i2l, y0, [7]), (.lastore, y0, []), (.goto 11, y0, [5])],
  [(.astore 6, y0, [])],
  [(.iconst 1, y0, []), (.ireturn, y0, [])],
  [(.astore 6, y0, [])],
  [(.iconst 2, y0, []), (.ireturn, y0, [])],
  [(.iconst 0, y0, []), (.ireturn, y0, [])]]
def pL_foretold : List Nat := [0, 17, 19, 21, 23, 25, 27]
theorem kL_foretold : ab_cks cL_foretold 11 (some .int) false 7 pL_foretold (fun pc => decide (pc < 14)) 0 bL_foretold = true := by decide +kernel
def rL_foretold : List ab_hr5 := [(0, 28, 17, 2, 6), (1, 13, 21, 4, 6)]
theorem eL_foretold {d mc ms : Nat} {av : List ab_V} {σ : ab_H} {post : ab_O → ab_H → Prop} (hav : (av.all ab_n1 && Nat.ble av.length 7) = true) (h : ∀ At, ab_ruleH rL_foretold bL_foretold d mc ms post At → At 0 (av.map some ++ List.replicate (7 - av.length) none) [] σ 0 0) : ab_callH d mc ms yL_foretold av σ post :=
  ab_entryH (rows := rL_foretold) (E := 14) (ret := some .int) (maxL := 7) (ab_w_in (i := 1251) (by decide +kernel)) (by decide +kernel) (by decide) (by decide +kernel) (by decide) rfl kL_foretold (by decide +kernel) hav h
def bL_differ : List (List ab_I) := [[(.aload_n 3, y0, []), (.iconst 0, y0, []), (.aload_n 0, y0, []), (.iload_n 1, y0, []), (.iload_n 2, y0, []), (.invokevirtual 108, yX9_differ, [9, 2]), (.i2l, y0, [7]), (.lastore, y0, []), (.goto 7, y0, [3])],
  [(.astore 4, y0, [])],
  [(.iconst 1, y0, []), (.ireturn, y0, [])],
  [(.iconst 0, y0, []), (.ireturn, y0, [])]]
def pL_differ : List Nat := [0, 13, 15, 17, 19]
theorem kL_differ : ab_cks cL_differ 11 (some .int) false 5 pL_differ (fun pc => decide (pc < 10)) 0 bL_differ = true := by decide +kernel
def rL_differ : List ab_hr5 := [(0, 28, 13, 2, 4)]
theorem eL_differ {d mc ms : Nat} {av : List ab_V} {σ : ab_H} {post : ab_O → ab_H → Prop} (hav : (av.all ab_n1 && Nat.ble av.length 5) = true) (h : ∀ At, ab_ruleH rL_differ bL_differ d mc ms post At → At 0 (av.map some ++ List.replicate (5 - av.length) none) [] σ 0 0) : ab_callH d mc ms yL_differ av σ post :=
  ab_entryH (rows := rL_differ) (E := 10) (ret := some .int) (maxL := 5) (ab_w_in (i := 1262) (by decide +kernel)) (by decide +kernel) (by decide) (by decide +kernel) (by decide) rfl kL_differ (by decide +kernel) hav h
def bL_group : List (List ab_I) := [[(.aload 4, y0, []), (.iconst 0, y0, []), (.aload_n 0, y0, []), (.iload_n 1, y0, []), (.iload_n 2, y0, []), (.iload_n 3, y0, []), (.invokevirtual 111, yX9_group, [9, 3]), (.i2l, y0, [7]), (.lastore, y0, []), (.goto 11, y0, [5])],
  [(.astore 5, y0, [])],
  [(.iconst 1, y0, []), (.ireturn, y0, [])],
  [(.astore 5, y0, [])],
  [(.iconst 2, y0, []), (.ireturn, y0, [])],
  [(.iconst 0, y0, []), (.ireturn, y0, [])]]
def pL_group : List Nat := [0, 15, 17, 19, 21, 23, 25]
theorem kL_group : ab_cks cL_group 11 (some .int) false 6 pL_group (fun pc => decide (pc < 12)) 0 bL_group = true := by decide +kernel
def rL_group : List ab_hr5 := [(0, 28, 15, 2, 5), (1, 13, 19, 4, 5)]
theorem eL_group {d mc ms : Nat} {av : List ab_V} {σ : ab_H} {post : ab_O → ab_H → Prop} (hav : (av.all ab_n1 && Nat.ble av.length 6) = true) (h : ∀ At, ab_ruleH rL_group bL_group d mc ms post At → At 0 (av.map some ++ List.replicate (6 - av.length) none) [] σ 0 0) : ab_callH d mc ms yL_group av σ post :=
  ab_entryH (rows := rL_group) (E := 12) (ret := some .int) (maxL := 6) (ab_w_in (i := 1269) (by decide +kernel)) (by decide +kernel) (by decide) (by decide +kernel) (by decide) rfl kL_group (by decide +kernel) hav h
def bL_widest : List (List ab_I) := [[(.aload_n 2, y0, []), (.iconst 0, y0, []), (.aload_n 0, y0, []), (.iload_n 1, y0, []), (.invokevirtual 114, yX9_widest, [9, 1]), (.i2l, y0, [7]), (.lastore, y0, []), (.goto 6, y0, [3])],
  [(.astore_n 3, y0, [])],
  [(.iconst 1, y0, []), (.ireturn, y0, [])],
  [(.iconst 0, y0, []), (.ireturn, y0, [])]]
def pL_widest : List Nat := [0, 12, 13, 15, 17]
theorem kL_widest : ab_cks cL_widest 11 (some .int) false 4 pL_widest (fun pc => decide (pc < 9)) 0 bL_widest = true := by decide +kernel
def rL_widest : List ab_hr5 := [(0, 28, 12, 2, 3)]
theorem eL_widest {d mc ms : Nat} {av : List ab_V} {σ : ab_H} {post : ab_O → ab_H → Prop} (hav : (av.all ab_n1 && Nat.ble av.length 4) = true) (h : ∀ At, ab_ruleH rL_widest bL_widest d mc ms post At → At 0 (av.map some ++ List.replicate (4 - av.length) none) [] σ 0 0) : ab_callH d mc ms yL_widest av σ post :=
  ab_entryH (rows := rL_widest) (E := 9) (ret := some .int) (maxL := 4) (ab_w_in (i := 1277) (by decide +kernel)) (by decide +kernel) (by decide) (by decide +kernel) (by decide) rfl kL_widest (by decide +kernel) hav h
def bL_heaviest : List (List ab_I) := [[(.aload_n 3, y0, []), (.iconst 0, y0, []), (.aload_n 0, y0, []), (.iload_n 1, y0, []), (.iload_n 2, y0, []), (.invokevirtual 117, yX9_heaviest, [9, 2]), (.i2l, y0, [7]), (.lastore, y0, []), (.goto 11, y0, [5])],
  [(.astore 4, y0, [])],
  [(.iconst 1, y0, []), (.ireturn, y0, [])],
  [(.astore 4, y0, [])],
  [(.iconst 2, y0, []), (.ireturn, y0, [])],
  [(.iconst 0, y0, []), (.ireturn, y0, [])]]
def pL_heaviest : List Nat := [0, 13, 15, 17, 19, 21, 23]
theorem kL_heaviest : ab_cks cL_heaviest 11 (some .int) false 5 pL_heaviest (fun pc => decide (pc < 10)) 0 bL_heaviest = true := by decide +kernel
def rL_heaviest : List ab_hr5 := [(0, 28, 13, 2, 4), (1, 13, 17, 4, 4)]
theorem eL_heaviest {d mc ms : Nat} {av : List ab_V} {σ : ab_H} {post : ab_O → ab_H → Prop} (hav : (av.all ab_n1 && Nat.ble av.length 5) = true) (h : ∀ At, ab_ruleH rL_heaviest bL_heaviest d mc ms post At → At 0 (av.map some ++ List.replicate (5 - av.length) none) [] σ 0 0) : ab_callH d mc ms yL_heaviest av σ post :=
  ab_entryH (rows := rL_heaviest) (E := 10) (ret := some .int) (maxL := 5) (ab_w_in (i := 1288) (by decide +kernel)) (by decide +kernel) (by decide) (by decide +kernel) (by decide) rfl kL_heaviest (by decide +kernel) hav h
def bL_ordered : List (List ab_I) := [[(.aload_n 3, y0, []), (.iconst 0, y0, []), (.aload_n 0, y0, []), (.iload_n 1, y0, []), (.iload_n 2, y0, []), (.invokevirtual 120, yX9_ordered, [9, 2]), (.i2l, y0, [7]), (.lastore, y0, []), (.goto 7, y0, [3])],
  [(.astore 4, y0, [])],
  [(.iconst 1, y0, []), (.ireturn, y0, [])],
  [(.iconst 0, y0, []), (.ireturn, y0, [])]]
def pL_ordered : List Nat := [0, 13, 15, 17, 19]
theorem kL_ordered : ab_cks cL_ordered 11 (some .int) false 5 pL_ordered (fun pc => decide (pc < 10)) 0 bL_ordered = true := by decide +kernel
def rL_ordered : List ab_hr5 := [(0, 28, 13, 2, 4)]
theorem eL_ordered {d mc ms : Nat} {av : List ab_V} {σ : ab_H} {post : ab_O → ab_H → Prop} (hav : (av.all ab_n1 && Nat.ble av.length 5) = true) (h : ∀ At, ab_ruleH rL_ordered bL_ordered d mc ms post At → At 0 (av.map some ++ List.replicate (5 - av.length) none) [] σ 0 0) : ab_callH d mc ms yL_ordered av σ post :=
  ab_entryH (rows := rL_ordered) (E := 10) (ret := some .int) (maxL := 5) (ab_w_in (i := 1296) (by decide +kernel)) (by decide +kernel) (by decide) (by decide +kernel) (by decide) rfl kL_ordered (by decide +kernel) hav h
def bL_readings : List (List ab_I) := [[(.aload_n 3, y0, []), (.iconst 0, y0, []), (.aload_n 0, y0, []), (.iload_n 1, y0, []), (.iload_n 2, y0, []), (.invokevirtual 123, yX9_readings, [9, 2]), (.i2l, y0, [7]), (.lastore, y0, []), (.goto 11, y0, [5])],
  [(.astore 4, y0, [])],
  [(.iconst 1, y0, []), (.ireturn, y0, [])],
  [(.astore 4, y0, [])],
  [(.iconst 2, y0, []), (.ireturn, y0, [])],
  [(.iconst 0, y0, []), (.ireturn, y0, [])]]
def pL_readings : List Nat := [0, 13, 15, 17, 19, 21, 23]
theorem kL_readings : ab_cks cL_readings 11 (some .int) false 5 pL_readings (fun pc => decide (pc < 10)) 0 bL_readings = true := by decide +kernel
def rL_readings : List ab_hr5 := [(0, 28, 13, 2, 4), (1, 13, 17, 4, 4)]
theorem eL_readings {d mc ms : Nat} {av : List ab_V} {σ : ab_H} {post : ab_O → ab_H → Prop} (hav : (av.all ab_n1 && Nat.ble av.length 5) = true) (h : ∀ At, ab_ruleH rL_readings bL_readings d mc ms post At → At 0 (av.map some ++ List.replicate (5 - av.length) none) [] σ 0 0) : ab_callH d mc ms yL_readings av σ post :=
  ab_entryH (rows := rL_readings) (E := 10) (ret := some .int) (maxL := 5) (ab_w_in (i := 1319) (by decide +kernel)) (by decide +kernel) (by decide) (by decide +kernel) (by decide) rfl kL_readings (by decide +kernel) hav h
def bL_thrift : List (List ab_I) := [[(.aload 4, y0, []), (.iconst 0, y0, []), (.aload_n 0, y0, []), (.iload_n 1, y0, []), (.iload_n 2, y0, []), (.iload_n 3, y0, []), (.invokevirtual 126, yX9_thrift, [9, 3]), (.i2l, y0, [7]), (.lastore, y0, []), (.goto 7, y0, [3])],
  [(.astore 5, y0, [])],
  [(.iconst 1, y0, []), (.ireturn, y0, [])],
  [(.iconst 0, y0, []), (.ireturn, y0, [])]]
def pL_thrift : List Nat := [0, 15, 17, 19, 21]
theorem kL_thrift : ab_cks cL_thrift 11 (some .int) false 6 pL_thrift (fun pc => decide (pc < 12)) 0 bL_thrift = true := by decide +kernel
def rL_thrift : List ab_hr5 := [(1, 13, 15, 2, 5)]
theorem eL_thrift {d mc ms : Nat} {av : List ab_V} {σ : ab_H} {post : ab_O → ab_H → Prop} (hav : (av.all ab_n1 && Nat.ble av.length 6) = true) (h : ∀ At, ab_ruleH rL_thrift bL_thrift d mc ms post At → At 0 (av.map some ++ List.replicate (6 - av.length) none) [] σ 0 0) : ab_callH d mc ms yL_thrift av σ post :=
  ab_entryH (rows := rL_thrift) (E := 12) (ret := some .int) (maxL := 6) (ab_w_in (i := 1332) (by decide +kernel)) (by decide +kernel) (by decide) (by decide +kernel) (by decide) rfl kL_thrift (by decide +kernel) hav h
def bL_swift : List (List ab_I) := [[(.aload 4, y0, []), (.iconst 0, y0, []), (.aload_n 0, y0, []), (.iload_n 1, y0, []), (.iload_n 2, y0, []), (.iload_n 3, y0, []), (.invokevirtual 129, yX9_swift, [9, 3]), (.i2l, y0, [7]), (.lastore, y0, []), (.goto 7, y0, [3])],
  [(.astore 5, y0, [])],
  [(.iconst 1, y0, []), (.ireturn, y0, [])],
  [(.iconst 0, y0, []), (.ireturn, y0, [])]]
def pL_swift : List Nat := [0, 15, 17, 19, 21]
theorem kL_swift : ab_cks cL_swift 11 (some .int) false 6 pL_swift (fun pc => decide (pc < 12)) 0 bL_swift = true := by decide +kernel
def rL_swift : List ab_hr5 := [(1, 13, 15, 2, 5)]
theorem eL_swift {d mc ms : Nat} {av : List ab_V} {σ : ab_H} {post : ab_O → ab_H → Prop} (hav : (av.all ab_n1 && Nat.ble av.length 6) = true) (h : ∀ At, ab_ruleH rL_swift bL_swift d mc ms post At → At 0 (av.map some ++ List.replicate (6 - av.length) none) [] σ 0 0) : ab_callH d mc ms yL_swift av σ post :=
  ab_entryH (rows := rL_swift) (E := 12) (ret := some .int) (maxL := 6) (ab_w_in (i := 1368) (by decide +kernel)) (by decide +kernel) (by decide) (by decide +kernel) (by decide) rfl kL_swift (by decide +kernel) hav h
def bL_law : List (List ab_I) := [[(.new 8, y0, [9, 1, 1, 1, 1, 1, 1, 1, 1, 1, 1, 0, 0, 0]), (.dup, y0, []), (.invokespecial 132, yX9_init, [0]), (.astore_n 1, y0, []), (.new 133, y0, [10, 0, 1, 0, 0, 0, 0, 0, 0, 0, 1, 1, 1, 0, 0, 1, 1, 1, 1, 0, 1, 0, 0, 0, 0, 0, 0, 0, 1, 1, 1, 1, 1, 1, 0, 0]), (.dup, y0, []), (.invokespecial 135, yX10_init, [0]), (.astore_n 2, y0, []), (.iconst 1, y0, []), (.newarray .long, y0, []), (.astore_n 3, y0, []), (.iconst 0, y0, []), (.istore 4, y0, [])],
  [(.iload 4, y0, []), (.aload_n 0, y0, []), (.arraylength, y0, [21]), (.bipush 6, y0, []), (.isub, y0, []), (.if_icmp .gt 3042, y0, [240])],
  [(.aload_n 0, y0, []), (.iload 4, y0, []), (.iaload, y0, [21]), (.bipush 63, y0, []), (.iand, y0, []), (.tableswitch 3026 0 40 #[180, 253, 309, 401, 505, 561, 574, 642, 710, 723, 815, 871, 927, 995, 1063, 1155, 1247, 1315, 1383, 1458, 1526, 1594, 1662, 1754, 1829, 1885, 1953, 2021, 2101, 2181, 2249, 2341, 2433, 2501, 2581, 2637, 2705, 2773, 2841, 2921, 3001], y0, [239, 3, 5, 11, 17, 23, 29, 31, 37, 43, 45, 51, 57, 63, 69, 75, 81, 87, 93, 99, 108, 114, 120, 126, 132, 141, 147, 153, 159, 165, 171, 177, 183, 189, 195, 201, 207, 213, 219, 225, 231, 237])],
  [(.aload_n 1, y0, []), (.aload_n 0, y0, []), (.iload 4, y0, []), (.iconst 1, y0, []), (.iadd, y0, []), (.iaload, y0, [21]), (.aload_n 0, y0, []), (.iload 4, y0, []), (.iconst 2, y0, []), (.iadd, y0, []), (.iaload, y0, [21]), (.aload_n 0, y0, []), (.iload 4, y0, []), (.iconst 3, y0, []), (.iadd, y0, []), (.iaload, y0, [21]), (.aload_n 0, y0, []), (.iload 4, y0, []), (.iconst 4, y0, []), (.iadd, y0, []), (.iaload, y0, [21]), (.aload_n 0, y0, []), (.iload 4, y0, []), (.iconst 5, y0, []), (.iadd, y0, []), (.iaload, y0, [21]), (.invokevirtual 136, yX9_feed, [9, 5]), (.aload_n 2, y0, []), (.aload_n 0, y0, []), (.iload 4, y0, []), (.iconst 1, y0, []), (.iadd, y0, []), (.iaload, y0, [21]), (.aload_n 0, y0, []), (.iload 4, y0, []), (.iconst 2, y0, []), (.iadd, y0, []), (.iaload, y0, [21]), (.aload_n 0, y0, []), (.iload 4, y0, []), (.iconst 3, y0, []), (.iadd, y0, []), (.iaload, y0, [21]), (.aload_n 0, y0, []), (.iload 4, y0, []), (.iconst 4, y0, []), (.iadd, y0, []), (.iaload, y0, [21]), (.aload_n 0, y0, []), (.iload 4, y0, []), (.iconst 5, y0, []), (.iadd, y0, []), (.iaload, y0, [21]), (.invokevirtual 139, yX10_feed, [10, 5]), (.if_icmp .eq 2778, y0, [239, 7])],
  [(.iconst 0, y0, []), (.ireturn, y0, [1])],
  [(.aload_n 1, y0, []), (.aload_n 0, y0, []), (.iload 4, y0, []), (.iconst 1, y0, []), (.iadd, y0, []), (.iaload, y0, [21]), (.aload_n 3, y0, []), (.invokestatic 140, yL_column, [3, 3]), (.istore 5, y0, []), (.aload_n 2, y0, []), (.aload_n 0, y0, []), (.iload 4, y0, []), (.iconst 1, y0, []), (.iadd, y0, []), (.iaload, y0, [21]), (.invokevirtual 145, yX10_column, [10, 1]), (.istore 6, y0, []), (.aload_n 2, y0, []), (.invokevirtual 146, yX10_thrown, [10, 0]), (.iload 5, y0, []), (.if_icmp .eq 5, y0, [7, 7])],
  [(.iconst 0, y0, []), (.ireturn, y0, [1])],
  [(.iload 5, y0, []), (.ifCond .ne 15, y0, [10])],
  [(.aload_n 3, y0, []), (.iconst 0, y0, []), (.laload, y0, []), (.iload 6, y0, []), (.i2l, y0, [7]), (.lcmp, y0, []), (.ifCond .eq 5, y0, [10])],
  [(.iconst 0, y0, []), (.ireturn, y0, [1])],
  [(.goto 2720, y0, [239])],
  [(.aload_n 1, y0, []), (.aload_n 0, y0, []), (.iload 4, y0, []), (.iconst 1, y0, []), (.iadd, y0, []), (.iaload, y0, [21]), (.aload_n 0, y0, []), (.iload 4, y0, []), (.iconst 2, y0, []), (.iadd, y0, []), (.iaload, y0, [21]), (.aload_n 0, y0, []), (.iload 4, y0, []), (.iconst 3, y0, []), (.iadd, y0, []), (.iaload, y0, [21]), (.aload_n 0, y0, []), (.iload 4, y0, []), (.iconst 4, y0, []), (.iadd, y0, []), (.iaload, y0, [21]), (.aload_n 3, y0, []), (.invokestatic 150, yL_add, [6, 3]), (.istore 5, y0, []), (.aload_n 2, y0, []), (.aload_n 0, y0, []), (.iload 4, y0, []), (.iconst 1, y0, []), (.iadd, y0, []), (.iaload, y0, [21]), (.aload_n 0, y0, []), (.iload 4, y0, []), (.iconst 2, y0, []), (.iadd, y0, []), (.iaload, y0, [21]), (.aload_n 0, y0, []), (.iload 4, y0, []), (.iconst 3, y0, []), (.iadd, y0, []), (.iaload, y0, [21]), (.aload_n 0, y0, []), (.iload 4, y0, []), (.iconst 4, y0, []), (.iadd, y0, []), (.iaload, y0, [21]), (.invokevirtual 153, yX10_add, [10, 4]), (.istore 6, y0, []), (.aload_n 2, y0, []), (.invokevirtual 146, yX10_thrown, [10, 0]), (.iload 5, y0, []), (.if_icmp .eq 5, y0, [13, 7])],
  [(.iconst 0, y0, []), (.ireturn, y0, [1])],
  [(.iload 5, y0, []), (.ifCond .ne 15, y0, [16])],
  [(.aload_n 3, y0, []), (.iconst 0, y0, []), (.laload, y0, []), (.iload 6, y0, []), (.i2l, y0, [7]), (.lcmp, y0, []), (.ifCond .eq 5, y0, [16])],
  [(.iconst 0, y0, []), (.ireturn, y0, [1])],
  [(.goto 2628, y0, [239])],
  [(.aload_n 1, y0, []), (.aload_n 0, y0, []), (.iload 4, y0, []), (.iconst 1, y0, []), (.iadd, y0, []), (.iaload, y0, [21]), (.aload_n 0, y0, []), (.iload 4, y0, []), (.iconst 2, y0, []), (.iadd, y0, []), (.iaload, y0, [21]), (.aload_n 0, y0, []), (.iload 4, y0, []), (.iconst 3, y0, []), (.iadd, y0, []), (.iaload, y0, [21]), (.aload_n 0, y0, []), (.iload 4, y0, []), (.iconst 4, y0, []), (.iadd, y0, []), (.iaload, y0, [21]), (.aload_n 0, y0, []), (.iload 4, y0, []), (.iconst 5, y0, []), (.iadd, y0, []), (.iaload, y0, [21]), (.aload_n 3, y0, []), (.invokestatic 154, yL_many, [7, 3]), (.istore 5, y0, []), (.aload_n 2, y0, []), (.aload_n 0, y0, []), (.iload 4, y0, []), (.iconst 1, y0, []), (.iadd, y0, []), (.iaload, y0, [21]), (.aload_n 0, y0, []), (.iload 4, y0, []), (.iconst 2, y0, []), (.iadd, y0, []), (.iaload, y0, [21]), (.aload_n 0, y0, []), (.iload 4, y0, []), (.iconst 3, y0, []), (.iadd, y0, []), (.iaload, y0, [21]), (.aload_n 0, y0, []), (.iload 4, y0, []), (.iconst 4, y0, []), (.iadd, y0, []), (.iaload, y0, [21]), (.aload_n 0, y0, []), (.iload 4, y0, []), (.iconst 5, y0, []), (.iadd, y0, []), (.iaload, y0, [21]), (.invokevirtual 157, yX10_many_, [10, 5]), (.istore 6, y0, []), (.aload_n 2, y0, []), (.invokevirtual 146, yX10_thrown, [10, 0]), (.iload 5, y0, []), (.if_icmp .eq 5, y0, [19, 7])],
  [(.iconst 0, y0, []), (.ireturn, y0, [1])],
  [(.iload 5, y0, []), (.ifCond .ne 15, y0, [22])],
  [(.aload_n 3, y0, []), (.iconst 0, y0, []), (.laload, y0, []), (.iload 6, y0, []), (.i2l, y0, [7]), (.lcmp, y0, []), (.ifCond .eq 5, y0, [22])],
  [(.iconst 0, y0, []), (.ireturn, y0, [1])],
  [(.goto 2524, y0, [239])],
  [(.aload_n 1, y0, []), (.aload_n 0, y0, []), (.iload 4, y0, []), (.iconst 1, y0, []), (.iadd, y0, []), (.iaload, y0, [21]), (.aload_n 3, y0, []), (.invokestatic 158, yL_delete, [3, 3]), (.istore 5, y0, []), (.aload_n 2, y0, []), (.aload_n 0, y0, []), (.iload 4, y0, []), (.iconst 1, y0, []), (.iadd, y0, []), (.iaload, y0, [21]), (.invokevirtual 160, yX10_delete, [10, 1]), (.istore 6, y0, []), (.aload_n 2, y0, []), (.invokevirtual 146, yX10_thrown, [10, 0]), (.iload 5, y0, []), (.if_icmp .eq 5, y0, [25, 7])],
  [(.iconst 0, y0, []), (.ireturn, y0, [1])],
  [(.iload 5, y0, []), (.ifCond .ne 15, y0, [28])],
  [(.aload_n 3, y0, []), (.iconst 0, y0, []), (.laload, y0, []), (.iload 6, y0, []), (.i2l, y0, [7]), (.lcmp, y0, []), (.ifCond .eq 5, y0, [28])],
  [(.iconst 0, y0, []), (.ireturn, y0, [1])],
  [(.goto 2468, y0, [239])],
  [(.aload_n 1, y0, []), (.invokevirtual 161, yX9_close, [9, 0]), (.aload_n 2, y0, []), (.invokevirtual 164, yX10_close, [10, 0]), (.if_icmp .eq 2457, y0, [239, 7])],
  [(.iconst 0, y0, []), (.ireturn, y0, [1])],
  [(.aload_n 1, y0, []), (.aload_n 0, y0, []), (.iload 4, y0, []), (.iconst 1, y0, []), (.iadd, y0, []), (.iaload, y0, [21]), (.aload_n 0, y0, []), (.iload 4, y0, []), (.iconst 2, y0, []), (.iadd, y0, []), (.iaload, y0, [21]), (.aload_n 3, y0, []), (.invokestatic 165, yL_ask, [4, 3]), (.istore 5, y0, []), (.aload_n 2, y0, []), (.aload_n 0, y0, []), (.iload 4, y0, []), (.iconst 1, y0, []), (.iadd, y0, []), (.iaload, y0, [21]), (.aload_n 0, y0, []), (.iload 4, y0, []), (.iconst 2, y0, []), (.iadd, y0, []), (.iaload, y0, [21]), (.invokevirtual 168, yX10_ask, [10, 2]), (.istore 6, y0, []), (.aload_n 2, y0, []), (.invokevirtual 146, yX10_thrown, [10, 0]), (.iload 5, y0, []), (.if_icmp .eq 5, y0, [33, 7])],
  [(.iconst 0, y0, []), (.ireturn, y0, [1])],
  [(.iload 5, y0, []), (.ifCond .ne 15, y0, [36])],
  [(.aload_n 3, y0, []), (.iconst 0, y0, []), (.laload, y0, []), (.iload 6, y0, []), (.i2l, y0, [7]), (.lcmp, y0, []), (.ifCond .eq 5, y0, [36])],
  [(.iconst 0, y0, []), (.ireturn, y0, [1])],
  [(.goto 2387, y0, [239])],
  [(.aload_n 1, y0, []), (.aload_n 0, y0, []), (.iload 4, y0, []), (.iconst 1, y0, []), (.iadd, y0, []), (.iaload, y0, [21]), (.aload_n 0, y0, []), (.iload 4, y0, []), (.iconst 2, y0, []), (.iadd, y0, []), (.iaload, y0, [21]), (.aload_n 3, y0, []), (.invokestatic 169, yL_load, [4, 3]), (.istore 5, y0, []), (.aload_n 2, y0, []), (.aload_n 0, y0, []), (.iload 4, y0, []), (.iconst 1, y0, []), (.iadd, y0, []), (.iaload, y0, [21]), (.aload_n 0, y0, []), (.iload 4, y0, []), (.iconst 2, y0, []), (.iadd, y0, []), (.iaload, y0, [21]), (.invokevirtual 171, yX10_load, [10, 2]), (.istore 6, y0, []), (.aload_n 2, y0, []), (.invokevirtual 146, yX10_thrown, [10, 0]), (.iload 5, y0, []), (.if_icmp .eq 5, y0, [39, 7])],
  [(.iconst 0, y0, []), (.ireturn, y0, [1])],
  [(.iload 5, y0, []), (.ifCond .ne 15, y0, [42])],
  [(.aload_n 3, y0, []), (.iconst 0, y0, []), (.laload, y0, []), (.iload 6, y0, []), (.i2l, y0, [7]), (.lcmp, y0, []), (.ifCond .eq 5, y0, [42])],
  [(.iconst 0, y0, []), (.ireturn, y0, [1])],
  [(.goto 2319, y0, [239])],
  [(.aload_n 1, y0, []), (.invokevirtual 172, yX9_fault, [9, 0]), (.aload_n 2, y0, []), (.invokevirtual 175, yX10_fault, [10, 0]), (.if_icmp .eq 2308, y0, [239, 7])],
  [(.iconst 0, y0, []), (.ireturn, y0, [1])],
  [(.aload_n 1, y0, []), (.aload_n 0, y0, []), (.iload 4, y0, []), (.iconst 1, y0, []), (.iadd, y0, []), (.iaload, y0, [21]), (.aload_n 0, y0, []), (.iload 4, y0, []), (.iconst 2, y0, []), (.iadd, y0, []), (.iaload, y0, [21]), (.aload_n 0, y0, []), (.iload 4, y0, []), (.iconst 3, y0, []), (.iadd, y0, []), (.iaload, y0, [21]), (.aload_n 0, y0, []), (.iload 4, y0, []), (.iconst 4, y0, []), (.iadd, y0, []), (.iaload, y0, [21]), (.aload_n 3, y0, []), (.invokestatic 176, yL_logic, [6, 3]), (.istore 5, y0, []), (.aload_n 2, y0, []), (.aload_n 0, y0, []), (.iload 4, y0, []), (.iconst 1, y0, []), (.iadd, y0, []), (.iaload, y0, [21]), (.aload_n 0, y0, []), (.iload 4, y0, []), (.iconst 2, y0, []), (.iadd, y0, []), (.iaload, y0, [21]), (.aload_n 0, y0, []), (.iload 4, y0, []), (.iconst 3, y0, []), (.iadd, y0, []), (.iaload, y0, [21]), (.aload_n 0, y0, []), (.iload 4, y0, []), (.iconst 4, y0, []), (.iadd, y0, []), (.iaload, y0, [21]), (.invokevirtual 178, yX10_logic, [10, 4]), (.istore 6, y0, []), (.aload_n 2, y0, []), (.invokevirtual 146, yX10_thrown, [10, 0]), (.iload 5, y0, []), (.if_icmp .eq 5, y0, [47, 7])],
  [(.iconst 0, y0, []), (.ireturn, y0, [1])],
  [(.iload 5, y0, []), (.ifCond .ne 15, y0, [50])],
  [(.aload_n 3, y0, []), (.iconst 0, y0, []), (.laload, y0, []), (.iload 6, y0, []), (.i2l, y0, [7]), (.lcmp, y0, []), (.ifCond .eq 5, y0, [50])],
  [(.iconst 0, y0, []), (.ireturn, y0, [1])],
  [(.goto 2214, y0, [239])],
  [(.aload_n 1, y0, []), (.aload_n 0, y0, []), (.iload 4, y0, []), (.iconst 1, y0, []), (.iadd, y0, []), (.iaload, y0, [21]), (.aload_n 3, y0, []), (.invokestatic 179, yL_turn, [3, 3]), (.istore 5, y0, []), (.aload_n 2, y0, []), (.aload_n 0, y0, []), (.iload 4, y0, []), (.iconst 1, y0, []), (.iadd, y0, []), (.iaload, y0, [21]), (.invokevirtual 181, yX10_turn, [10, 1]), (.istore 6, y0, []), (.aload_n 2, y0, []), (.invokevirtual 146, yX10_thrown, [10, 0]), (.iload 5, y0, []), (.if_icmp .eq 5, y0, [53, 7])],
  [(.iconst 0, y0, []), (.ireturn, y0, [1])],
  [(.iload 5, y0, []), (.ifCond .ne 15, y0, [56])],
  [(.aload_n 3, y0, []), (.iconst 0, y0, []), (.laload, y0, []), (.iload 6, y0, []), (.i2l, y0, [7]), (.lcmp, y0, []), (.ifCond .eq 5, y0, [56])],
  [(.iconst 0, y0, []), (.ireturn, y0, [1])],
  [(.goto 2158, y0, [239])],
  [(.aload_n 1, y0, []), (.aload_n 0, y0, []), (.iload 4, y0, []), (.iconst 1, y0, []), (.iadd, y0, []), (.iaload, y0, [21]), (.aload_n 3, y0, []), (.invokestatic 182, yL_told, [3, 3]), (.istore 5, y0, []), (.aload_n 2, y0, []), (.aload_n 0, y0, []), (.iload 4, y0, []), (.iconst 1, y0, []), (.iadd, y0, []), (.iaload, y0, [21]), (.invokevirtual 184, yX10_told, [10, 1]), (.istore 6, y0, []), (.aload_n 2, y0, []), (.invokevirtual 146, yX10_thrown, [10, 0]), (.iload 5, y0, []), (.if_icmp .eq 5, y0, [59, 7])],
  [(.iconst 0, y0, []), (.ireturn, y0, [1])],
  [(.iload 5, y0, []), (.ifCond .ne 15, y0, [62])],
  [(.aload_n 3, y0, []), (.iconst 0, y0, []), (.laload, y0, []), (.iload 6, y0, []), (.i2l, y0, [7]), (.lcmp, y0, []), (.ifCond .eq 5, y0, [62])],
  [(.iconst 0, y0, []), (.ireturn, y0, [1])],
  [(.goto 2102, y0, [239])],
  [(.aload_n 1, y0, []), (.aload_n 0, y0, []), (.iload 4, y0, []), (.iconst 1, y0, []), (.iadd, y0, []), (.iaload, y0, [21]), (.aload_n 0, y0, []), (.iload 4, y0, []), (.iconst 2, y0, []), (.iadd, y0, []), (.iaload, y0, [21]), (.aload_n 3, y0, []), (.invokestatic 185, yL_columnOf, [4, 3]), (.istore 5, y0, []), (.aload_n 2, y0, []), (.aload_n 0, y0, []), (.iload 4, y0, []), (.iconst 1, y0, []), (.iadd, y0, []), (.iaload, y0, [21]), (.aload_n 0, y0, []), (.iload 4, y0, []), (.iconst 2, y0, []), (.iadd, y0, []), (.iaload, y0, [21]), (.invokevirtual 187, yX10_columnOf, [10, 2]), (.istore 6, y0, []), (.aload_n 2, y0, []), (.invokevirtual 146, yX10_thrown, [10, 0]), (.iload 5, y0, []), (.if_icmp .eq 5, y0, [65, 7])],
  [(.iconst 0, y0, []), (.ireturn, y0, [1])],
  [(.iload 5, y0, []), (.ifCond .ne 15, y0, [68])],
  [(.aload_n 3, y0, []), (.iconst 0, y0, []), (.laload, y0, []), (.iload 6, y0, []), (.i2l, y0, [7]), (.lcmp, y0, []), (.ifCond .eq 5, y0, [68])],
  [(.iconst 0, y0, []), (.ireturn, y0, [1])],
  [(.goto 2034, y0, [239])],
  [(.aload_n 1, y0, []), (.aload_n 0, y0, []), (.iload 4, y0, []), (.iconst 1, y0, []), (.iadd, y0, []), (.iaload, y0, [21]), (.aload_n 0, y0, []), (.iload 4, y0, []), (.iconst 2, y0, []), (.iadd, y0, []), (.iaload, y0, [21]), (.aload_n 3, y0, []), (.invokestatic 188, yL_base, [4, 3]), (.istore 5, y0, []), (.aload_n 2, y0, []), (.aload_n 0, y0, []), (.iload 4, y0, []), (.iconst 1, y0, []), (.iadd, y0, []), (.iaload, y0, [21]), (.aload_n 0, y0, []), (.iload 4, y0, []), (.iconst 2, y0, []), (.iadd, y0, []), (.iaload, y0, [21]), (.invokevirtual 190, yX10_base, [10, 2]), (.istore 6, y0, []), (.aload_n 2, y0, []), (.invokevirtual 146, yX10_thrown, [10, 0]), (.iload 5, y0, []), (.if_icmp .eq 5, y0, [71, 7])],
  [(.iconst 0, y0, []), (.ireturn, y0, [1])],
  [(.iload 5, y0, []), (.ifCond .ne 15, y0, [74])],
  [(.aload_n 3, y0, []), (.iconst 0, y0, []), (.laload, y0, []), (.iload 6, y0, []), (.i2l, y0, [7]), (.lcmp, y0, []), (.ifCond .eq 5, y0, [74])],
  [(.iconst 0, y0, []), (.ireturn, y0, [1])],
  [(.goto 1966, y0, [239])],
  [(.aload_n 1, y0, []), (.aload_n 0, y0, []), (.iload 4, y0, []), (.iconst 1, y0, []), (.iadd, y0, []), (.iaload, y0, [21]), (.aload_n 0, y0, []), (.iload 4, y0, []), (.iconst 2, y0, []), (.iadd, y0, []), (.iaload, y0, [21]), (.aload_n 0, y0, []), (.iload 4, y0, []), (.iconst 3, y0, []), (.iadd, y0, []), (.iaload, y0, [21]), (.aload_n 0, y0, []), (.iload 4, y0, []), (.iconst 4, y0, []), (.iadd, y0, []), (.iaload, y0, [21]), (.aload_n 3, y0, []), (.invokestatic 191, yL_index, [6, 3]), (.istore 5, y0, []), (.aload_n 2, y0, []), (.aload_n 0, y0, []), (.iload 4, y0, []), (.iconst 1, y0, []), (.iadd, y0, []), (.iaload, y0, [21]), (.aload_n 0, y0, []), (.iload 4, y0, []), (.iconst 2, y0, []), (.iadd, y0, []), (.iaload, y0, [21]), (.aload_n 0, y0, []), (.iload 4, y0, []), (.iconst 3, y0, []), (.iadd, y0, []), (.iaload, y0, [21]), (.aload_n 0, y0, []), (.iload 4, y0, []), (.iconst 4, y0, []), (.iadd, y0, []), (.iaload, y0, [21]), (.invokevirtual 193, yX10_index, [10, 4]), (.istore 6, y0, []), (.aload_n 2, y0, []), (.invokevirtual 146, yX10_thrown, [10, 0]), (.iload 5, y0, []), (.if_icmp .eq 5, y0, [77, 7])],
  [(.iconst 0, y0, []), (.ireturn, y0, [1])],
  [(.iload 5, y0, []), (.ifCond .ne 15, y0, [80])],
  [(.aload_n 3, y0, []), (.iconst 0, y0, []), (.laload, y0, []), (.iload 6, y0, []), (.i2l, y0, [7]), (.lcmp, y0, []), (.ifCond .eq 5, y0, [80])],
  [(.iconst 0, y0, []), (.ireturn, y0, [1])],
  [(.goto 1874, y0, [239])],
  [(.aload_n 1, y0, []), (.aload_n 0, y0, []), (.iload 4, y0, []), (.iconst 1, y0, []), (.iadd, y0, []), (.iaload, y0, [21]), (.aload_n 0, y0, []), (.iload 4, y0, []), (.iconst 2, y0, []), (.iadd, y0, []), (.iaload, y0, [21]), (.aload_n 0, y0, []), (.iload 4, y0, []), (.iconst 3, y0, []), (.iadd, y0, []), (.iaload, y0, [21]), (.aload_n 0, y0, []), (.iload 4, y0, []), (.iconst 4, y0, []), (.iadd, y0, []), (.iaload, y0, [21]), (.aload_n 3, y0, []), (.invokestatic 194, yL_indexWord, [6, 3]), (.istore 5, y0, []), (.aload_n 2, y0, []), (.aload_n 0, y0, []), (.iload 4, y0, []), (.iconst 1, y0, []), (.iadd, y0, []), (.iaload, y0, [21]), (.aload_n 0, y0, []), (.iload 4, y0, []), (.iconst 2, y0, []), (.iadd, y0, []), (.iaload, y0, [21]), (.aload_n 0, y0, []), (.iload 4, y0, []), (.iconst 3, y0, []), (.iadd, y0, []), (.iaload, y0, [21]), (.aload_n 0, y0, []), (.iload 4, y0, []), (.iconst 4, y0, []), (.iadd, y0, []), (.iaload, y0, [21]), (.invokevirtual 196, yX10_indexWord, [10, 4]), (.istore 6, y0, []), (.aload_n 2, y0, []), (.invokevirtual 146, yX10_thrown, [10, 0]), (.iload 5, y0, []), (.if_icmp .eq 5, y0, [83, 7])],
  [(.iconst 0, y0, []), (.ireturn, y0, [1])],
  [(.iload 5, y0, []), (.ifCond .ne 15, y0, [86])],
  [(.aload_n 3, y0, []), (.iconst 0, y0, []), (.laload, y0, []), (.iload 6, y0, []), (.i2l, y0, [7]), (.lcmp, y0, []), (.ifCond .eq 5, y0, [86])],
  [(.iconst 0, y0, []), (.ireturn, y0, [1])],
  [(.goto 1782, y0, [239])],
  [(.aload_n 1, y0, []), (.aload_n 0, y0, []), (.iload 4, y0, []), (.iconst 1, y0, []), (.iadd, y0, []), (.iaload, y0, [21]), (.aload_n 0, y0, []), (.iload 4, y0, []), (.iconst 2, y0, []), (.iadd, y0, []), (.iaload, y0, [21]), (.aload_n 3, y0, []), (.invokestatic 197, yL_result, [4, 3]), (.istore 5, y0, []), (.aload_n 2, y0, []), (.aload_n 0, y0, []), (.iload 4, y0, []), (.iconst 1, y0, []), (.iadd, y0, []), (.iaload, y0, [21]), (.aload_n 0, y0, []), (.iload 4, y0, []), (.iconst 2, y0, []), (.iadd, y0, []), (.iaload, y0, [21]), (.invokevirtual 199, yX10_result, [10, 2]), (.istore 6, y0, []), (.aload_n 2, y0, []), (.invokevirtual 146, yX10_thrown, [10, 0]), (.iload 5, y0, []), (.if_icmp .eq 5, y0, [89, 7])],
  [(.iconst 0, y0, []), (.ireturn, y0, [1])],
  [(.iload 5, y0, []), (.ifCond .ne 15, y0, [92])],
  [(.aload_n 3, y0, []), (.iconst 0, y0, []), (.laload, y0, []), (.iload 6, y0, []), (.i2l, y0, [7]), (.lcmp, y0, []), (.ifCond .eq 5, y0, [92])],
  [(.iconst 0, y0, []), (.ireturn, y0, [1])],
  [(.goto 1714, y0, [239])],
  [(.aload_n 1, y0, []), (.aload_n 0, y0, []), (.iload 4, y0, []), (.iconst 1, y0, []), (.iadd, y0, []), (.iaload, y0, [21]), (.aload_n 0, y0, []), (.iload 4, y0, []), (.iconst 2, y0, []), (.iadd, y0, []), (.iaload, y0, [21]), (.aload_n 3, y0, []), (.invokestatic 200, yL_word, [4, 3]), (.istore 5, y0, []), (.aload_n 2, y0, []), (.aload_n 0, y0, []), (.iload 4, y0, []), (.iconst 1, y0, []), (.iadd, y0, []), (.iaload, y0, [21]), (.aload_n 0, y0, []), (.iload 4, y0, []), (.iconst 2, y0, []), (.iadd, y0, []), (.iaload, y0, [21]), (.invokevirtual 202, yX10_word, [10, 2]), (.istore 6, y0, []), (.aload_n 2, y0, []), (.invokevirtual 146, yX10_thrown, [10, 0]), (.iload 5, y0, []), (.if_icmp .eq 5, y0, [95, 7])],
  [(.iconst 0, y0, []), (.ireturn, y0, [1])],
  [(.iload 5, y0, []), (.ifCond .ne 15, y0, [98])],
  [(.aload_n 3, y0, []), (.iconst 0, y0, []), (.laload, y0, []), (.iload 6, y0, []), (.i2l, y0, [7]), (.lcmp, y0, []), (.ifCond .eq 5, y0, [98])],
  [(.iconst 0, y0, []), (.ireturn, y0, [1])],
  [(.goto 1646, y0, [239])],
  [(.aload_n 1, y0, []), (.aload_n 0, y0, []), (.iload 4, y0, []), (.iconst 1, y0, []), (.iadd, y0, []), (.iaload, y0, [21]), (.aload_n 0, y0, []), (.iload 4, y0, []), (.iconst 2, y0, []), (.iadd, y0, []), (.iaload, y0, [21]), (.aload_n 3, y0, []), (.invokestatic 203, yL_has, [4, 3]), (.istore 5, y0, []), (.aload_n 2, y0, []), (.aload_n 0, y0, []), (.iload 4, y0, []), (.iconst 1, y0, []), (.iadd, y0, []), (.iaload, y0, [21]), (.aload_n 0, y0, []), (.iload 4, y0, []), (.iconst 2, y0, []), (.iadd, y0, []), (.iaload, y0, [21]), (.invokevirtual 205, yX10_has_, [10, 2]), (.istore 6, y0, []), (.aload_n 2, y0, []), (.invokevirtual 146, yX10_thrown, [10, 0]), (.iload 5, y0, []), (.if_icmp .eq 5, y0, [101, 7])],
  [(.iconst 0, y0, []), (.ireturn, y0, [1])],
  [(.iload 5, y0, []), (.ifCond .ne 22, y0, [107])],
  [(.aload_n 3, y0, []), (.iconst 0, y0, []), (.laload, y0, []), (.iload 6, y0, []), (.ifCond .eq 7, y0, [104])],
  [(.lconst 1, y0, []), (.goto 4, y0, [105])],
  [(.lconst 0, y0, [])],
  [(.lcmp, y0, []), (.ifCond .eq 5, y0, [107])],
  [(.iconst 0, y0, []), (.ireturn, y0, [1])],
  [(.goto 1571, y0, [239])],
  [(.aload_n 1, y0, []), (.aload_n 0, y0, []), (.iload 4, y0, []), (.iconst 1, y0, []), (.iadd, y0, []), (.iaload, y0, [21]), (.aload_n 0, y0, []), (.iload 4, y0, []), (.iconst 2, y0, []), (.iadd, y0, []), (.iaload, y0, [21]), (.aload_n 3, y0, []), (.invokestatic 206, yL_rank, [4, 3]), (.istore 5, y0, []), (.aload_n 2, y0, []), (.aload_n 0, y0, []), (.iload 4, y0, []), (.iconst 1, y0, []), (.iadd, y0, []), (.iaload, y0, [21]), (.aload_n 0, y0, []), (.iload 4, y0, []), (.iconst 2, y0, []), (.iadd, y0, []), (.iaload, y0, [21]), (.invokevirtual 208, yX10_rank, [10, 2]), (.istore 6, y0, []), (.aload_n 2, y0, []), (.invokevirtual 146, yX10_thrown, [10, 0]), (.iload 5, y0, []), (.if_icmp .eq 5, y0, [110, 7])],
  [(.iconst 0, y0, []), (.ireturn, y0, [1])],
  [(.iload 5, y0, []), (.ifCond .ne 15, y0, [113])],
  [(.aload_n 3, y0, []), (.iconst 0, y0, []), (.laload, y0, []), (.iload 6, y0, []), (.i2l, y0, [7]), (.lcmp, y0, []), (.ifCond .eq 5, y0, [113])],
  [(.iconst 0, y0, []), (.ireturn, y0, [1])],
  [(.goto 1503, y0, [239])],
  [(.aload_n 1, y0, []), (.aload_n 0, y0, []), (.iload 4, y0, []), (.iconst 1, y0, []), (.iadd, y0, []), (.iaload, y0, [21]), (.aload_n 0, y0, []), (.iload 4, y0, []), (.iconst 2, y0, []), (.iadd, y0, []), (.iaload, y0, [21]), (.aload_n 3, y0, []), (.invokestatic 209, yL_select, [4, 3]), (.istore 5, y0, []), (.aload_n 2, y0, []), (.aload_n 0, y0, []), (.iload 4, y0, []), (.iconst 1, y0, []), (.iadd, y0, []), (.iaload, y0, [21]), (.aload_n 0, y0, []), (.iload 4, y0, []), (.iconst 2, y0, []), (.iadd, y0, []), (.iaload, y0, [21]), (.invokevirtual 211, yX10_select, [10, 2]), (.istore 6, y0, []), (.aload_n 2, y0, []), (.invokevirtual 146, yX10_thrown, [10, 0]), (.iload 5, y0, []), (.if_icmp .eq 5, y0, [116, 7])],
  [(.iconst 0, y0, []), (.ireturn, y0, [1])],
  [(.iload 5, y0, []), (.ifCond .ne 15, y0, [119])],
  [(.aload_n 3, y0, []), (.iconst 0, y0, []), (.laload, y0, []), (.iload 6, y0, []), (.i2l, y0, [7]), (.lcmp, y0, []), (.ifCond .eq 5, y0, [119])],
  [(.iconst 0, y0, []), (.ireturn, y0, [1])],
  [(.goto 1435, y0, [239])],
  [(.aload_n 1, y0, []), (.aload_n 0, y0, []), (.iload 4, y0, []), (.iconst 1, y0, []), (.iadd, y0, []), (.iaload, y0, [21]), (.aload_n 0, y0, []), (.iload 4, y0, []), (.iconst 2, y0, []), (.iadd, y0, []), (.iaload, y0, [21]), (.aload_n 3, y0, []), (.invokestatic 212, yL_next, [4, 3]), (.istore 5, y0, []), (.aload_n 2, y0, []), (.aload_n 0, y0, []), (.iload 4, y0, []), (.iconst 1, y0, []), (.iadd, y0, []), (.iaload, y0, [21]), (.aload_n 0, y0, []), (.iload 4, y0, []), (.iconst 2, y0, []), (.iadd, y0, []), (.iaload, y0, [21]), (.invokevirtual 214, yX10_next, [10, 2]), (.istore 6, y0, []), (.aload_n 2, y0, []), (.invokevirtual 146, yX10_thrown, [10, 0]), (.iload 5, y0, []), (.if_icmp .eq 5, y0, [122, 7])],
  [(.iconst 0, y0, []), (.ireturn, y0, [1])],
  [(.iload 5, y0, []), (.ifCond .ne 15, y0, [125])],
  [(.aload_n 3, y0, []), (.iconst 0, y0, []), (.laload, y0, []), (.iload 6, y0, []), (.i2l, y0, [7]), (.lcmp, y0, []), (.ifCond .eq 5, y0, [125])],
  [(.iconst 0, y0, []), (.ireturn, y0, [1])],
  [(.goto 1367, y0, [239])],
  [(.aload_n 1, y0, []), (.aload_n 0, y0, []), (.iload 4, y0, []), (.iconst 1, y0, []), (.iadd, y0, []), (.iaload, y0, [21]), (.aload_n 0, y0, []), (.iload 4, y0, []), (.iconst 2, y0, []), (.iadd, y0, []), (.iaload, y0, [21]), (.aload_n 0, y0, []), (.iload 4, y0, []), (.iconst 3, y0, []), (.iadd, y0, []), (.iaload, y0, [21]), (.aload_n 0, y0, []), (.iload 4, y0, []), (.iconst 4, y0, []), (.iadd, y0, []), (.iaload, y0, [21]), (.aload_n 3, y0, []), (.invokestatic 215, yL_would, [6, 3]), (.istore 5, y0, []), (.aload_n 2, y0, []), (.aload_n 0, y0, []), (.iload 4, y0, []), (.iconst 1, y0, []), (.iadd, y0, []), (.iaload, y0, [21]), (.aload_n 0, y0, []), (.iload 4, y0, []), (.iconst 2, y0, []), (.iadd, y0, []), (.iaload, y0, [21]), (.aload_n 0, y0, []), (.iload 4, y0, []), (.iconst 3, y0, []), (.iadd, y0, []), (.iaload, y0, [21]), (.aload_n 0, y0, []), (.iload 4, y0, []), (.iconst 4, y0, []), (.iadd, y0, []), (.iaload, y0, [21]), (.invokevirtual 217, yX10_would, [10, 4]), (.istore 6, y0, []), (.aload_n 2, y0, []), (.invokevirtual 146, yX10_thrown, [10, 0]), (.iload 5, y0, []), (.if_icmp .eq 5, y0, [128, 7])],
  [(.iconst 0, y0, []), (.ireturn, y0, [1])],
  [(.iload 5, y0, []), (.ifCond .ne 15, y0, [131])],
  [(.aload_n 3, y0, []), (.iconst 0, y0, []), (.laload, y0, []), (.iload 6, y0, []), (.i2l, y0, [7]), (.lcmp, y0, []), (.ifCond .eq 5, y0, [131])],
  [(.iconst 0, y0, []), (.ireturn, y0, [1])],
  [(.goto 1275, y0, [239])],
  [(.aload_n 1, y0, []), (.aload_n 0, y0, []), (.iload 4, y0, []), (.iconst 1, y0, []), (.iadd, y0, []), (.iaload, y0, [21]), (.aload_n 0, y0, []), (.iload 4, y0, []), (.iconst 2, y0, []), (.iadd, y0, []), (.iaload, y0, [21]), (.aload_n 3, y0, []), (.invokestatic 218, yL_within, [4, 3]), (.istore 5, y0, []), (.aload_n 2, y0, []), (.aload_n 0, y0, []), (.iload 4, y0, []), (.iconst 1, y0, []), (.iadd, y0, []), (.iaload, y0, [21]), (.aload_n 0, y0, []), (.iload 4, y0, []), (.iconst 2, y0, []), (.iadd, y0, []), (.iaload, y0, [21]), (.invokevirtual 220, yX10_within, [10, 2]), (.istore 6, y0, []), (.aload_n 2, y0, []), (.invokevirtual 146, yX10_thrown, [10, 0]), (.iload 5, y0, []), (.if_icmp .eq 5, y0, [134, 7])],
  [(.iconst 0, y0, []), (.ireturn, y0, [1])],
  [(.iload 5, y0, []), (.ifCond .ne 22, y0, [140])],
  [(.aload_n 3, y0, []), (.iconst 0, y0, []), (.laload, y0, []), (.iload 6, y0, []), (.ifCond .eq 7, y0, [137])],
  [(.lconst 1, y0, []), (.goto 4, y0, [138])],
  [(.lconst 0, y0, [])],
  [(.lcmp, y0, []), (.ifCond .eq 5, y0, [140])],
  [(.iconst 0, y0, []), (.ireturn, y0, [1])],
  [(.goto 1200, y0, [239])],
  [(.aload_n 1, y0, []), (.aload_n 0, y0, []), (.iload 4, y0, []), (.iconst 1, y0, []), (.iadd, y0, []), (.iaload, y0, [21]), (.aload_n 3, y0, []), (.invokestatic 221, yL_cost, [3, 3]), (.istore 5, y0, []), (.aload_n 2, y0, []), (.aload_n 0, y0, []), (.iload 4, y0, []), (.iconst 1, y0, []), (.iadd, y0, []), (.iaload, y0, [21]), (.invokevirtual 223, yX10_cost, [10, 1]), (.istore 6, y0, []), (.aload_n 2, y0, []), (.invokevirtual 146, yX10_thrown, [10, 0]), (.iload 5, y0, []), (.if_icmp .eq 5, y0, [143, 7])],
  [(.iconst 0, y0, []), (.ireturn, y0, [1])],
  [(.iload 5, y0, []), (.ifCond .ne 15, y0, [146])],
  [(.aload_n 3, y0, []), (.iconst 0, y0, []), (.laload, y0, []), (.iload 6, y0, []), (.i2l, y0, [7]), (.lcmp, y0, []), (.ifCond .eq 5, y0, [146])],
  [(.iconst 0, y0, []), (.ireturn, y0, [1])],
  [(.goto 1144, y0, [239])],
  [(.aload_n 1, y0, []), (.aload_n 0, y0, []), (.iload 4, y0, []), (.iconst 1, y0, []), (.iadd, y0, []), (.iaload, y0, [21]), (.aload_n 0, y0, []), (.iload 4, y0, []), (.iconst 2, y0, []), (.iadd, y0, []), (.iaload, y0, [21]), (.aload_n 3, y0, []), (.invokestatic 224, yL_value, [4, 3]), (.istore 5, y0, []), (.aload_n 2, y0, []), (.aload_n 0, y0, []), (.iload 4, y0, []), (.iconst 1, y0, []), (.iadd, y0, []), (.iaload, y0, [21]), (.aload_n 0, y0, []), (.iload 4, y0, []), (.iconst 2, y0, []), (.iadd, y0, []), (.iaload, y0, [21]), (.invokevirtual 226, yX10_value, [10, 2]), (.istore 6, y0, []), (.aload_n 2, y0, []), (.invokevirtual 146, yX10_thrown, [10, 0]), (.iload 5, y0, []), (.if_icmp .eq 5, y0, [149, 7])],
  [(.iconst 0, y0, []), (.ireturn, y0, [1])],
  [(.iload 5, y0, []), (.ifCond .ne 15, y0, [152])],
  [(.aload_n 3, y0, []), (.iconst 0, y0, []), (.laload, y0, []), (.iload 6, y0, []), (.i2l, y0, [7]), (.lcmp, y0, []), (.ifCond .eq 5, y0, [152])],
  [(.iconst 0, y0, []), (.ireturn, y0, [1])],
  [(.goto 1076, y0, [239])],
  [(.aload_n 1, y0, []), (.aload_n 0, y0, []), (.iload 4, y0, []), (.iconst 1, y0, []), (.iadd, y0, []), (.iaload, y0, [21]), (.aload_n 0, y0, []), (.iload 4, y0, []), (.iconst 2, y0, []), (.iadd, y0, []), (.iaload, y0, [21]), (.aload_n 3, y0, []), (.invokestatic 227, yL_sum, [4, 3]), (.istore 5, y0, []), (.aload_n 2, y0, []), (.aload_n 0, y0, []), (.iload 4, y0, []), (.iconst 1, y0, []), (.iadd, y0, []), (.iaload, y0, [21]), (.aload_n 0, y0, []), (.iload 4, y0, []), (.iconst 2, y0, []), (.iadd, y0, []), (.iaload, y0, [21]), (.invokevirtual 229, yX10_sum, [10, 2]), (.istore 6, y0, []), (.aload_n 2, y0, []), (.invokevirtual 146, yX10_thrown, [10, 0]), (.iload 5, y0, []), (.if_icmp .eq 5, y0, [155, 7])],
  [(.iconst 0, y0, []), (.ireturn, y0, [1])],
  [(.iload 5, y0, []), (.ifCond .ne 15, y0, [158])],
  [(.aload_n 3, y0, []), (.iconst 0, y0, []), (.laload, y0, []), (.iload 6, y0, []), (.i2l, y0, [7]), (.lcmp, y0, []), (.ifCond .eq 5, y0, [158])],
  [(.iconst 0, y0, []), (.ireturn, y0, [1])],
  [(.goto 1008, y0, [239])],
  [(.aload_n 1, y0, []), (.aload_n 0, y0, []), (.iload 4, y0, []), (.iconst 1, y0, []), (.iadd, y0, []), (.iaload, y0, [21]), (.aload_n 0, y0, []), (.iload 4, y0, []), (.iconst 2, y0, []), (.iadd, y0, []), (.iaload, y0, [21]), (.aload_n 0, y0, []), (.iload 4, y0, []), (.iconst 3, y0, []), (.iadd, y0, []), (.iaload, y0, [21]), (.aload_n 3, y0, []), (.invokestatic 230, yL_kth, [5, 3]), (.istore 5, y0, []), (.aload_n 2, y0, []), (.aload_n 0, y0, []), (.iload 4, y0, []), (.iconst 1, y0, []), (.iadd, y0, []), (.iaload, y0, [21]), (.aload_n 0, y0, []), (.iload 4, y0, []), (.iconst 2, y0, []), (.iadd, y0, []), (.iaload, y0, [21]), (.aload_n 0, y0, []), (.iload 4, y0, []), (.iconst 3, y0, []), (.iadd, y0, []), (.iaload, y0, [21]), (.invokevirtual 233, yX10_kth, [10, 3]), (.istore 6, y0, []), (.aload_n 2, y0, []), (.invokevirtual 146, yX10_thrown, [10, 0]), (.iload 5, y0, []), (.if_icmp .eq 5, y0, [161, 7])],
  [(.iconst 0, y0, []), (.ireturn, y0, [1])],
  [(.iload 5, y0, []), (.ifCond .ne 15, y0, [164])],
  [(.aload_n 3, y0, []), (.iconst 0, y0, []), (.laload, y0, []), (.iload 6, y0, []), (.i2l, y0, [7]), (.lcmp, y0, []), (.ifCond .eq 5, y0, [164])],
  [(.iconst 0, y0, []), (.ireturn, y0, [1])],
  [(.goto 928, y0, [239])],
  [(.aload_n 1, y0, []), (.aload_n 0, y0, []), (.iload 4, y0, []), (.iconst 1, y0, []), (.iadd, y0, []), (.iaload, y0, [21]), (.aload_n 0, y0, []), (.iload 4, y0, []), (.iconst 2, y0, []), (.iadd, y0, []), (.iaload, y0, [21]), (.aload_n 0, y0, []), (.iload 4, y0, []), (.iconst 3, y0, []), (.iadd, y0, []), (.iaload, y0, [21]), (.aload_n 3, y0, []), (.invokestatic 234, yL_mode, [5, 3]), (.istore 5, y0, []), (.aload_n 2, y0, []), (.aload_n 0, y0, []), (.iload 4, y0, []), (.iconst 1, y0, []), (.iadd, y0, []), (.iaload, y0, [21]), (.aload_n 0, y0, []), (.iload 4, y0, []), (.iconst 2, y0, []), (.iadd, y0, []), (.iaload, y0, [21]), (.aload_n 0, y0, []), (.iload 4, y0, []), (.iconst 3, y0, []), (.iadd, y0, []), (.iaload, y0, [21]), (.invokevirtual 236, yX10_mode, [10, 3]), (.istore 6, y0, []), (.aload_n 2, y0, []), (.invokevirtual 146, yX10_thrown, [10, 0]), (.iload 5, y0, []), (.if_icmp .eq 5, y0, [167, 7])],
  [(.iconst 0, y0, []), (.ireturn, y0, [1])],
  [(.iload 5, y0, []), (.ifCond .ne 15, y0, [170])],
  [(.aload_n 3, y0, []), (.iconst 0, y0, []), (.laload, y0, []), (.iload 6, y0, []), (.i2l, y0, [7]), (.lcmp, y0, []), (.ifCond .eq 5, y0, [170])],
  [(.iconst 0, y0, []), (.ireturn, y0, [1])],
  [(.goto 848, y0, [239])],
  [(.aload_n 1, y0, []), (.aload_n 0, y0, []), (.iload 4, y0, []), (.iconst 1, y0, []), (.iadd, y0, []), (.iaload, y0, [21]), (.aload_n 0, y0, []), (.iload 4, y0, []), (.iconst 2, y0, []), (.iadd, y0, []), (.iaload, y0, [21]), (.aload_n 3, y0, []), (.invokestatic 237, yL_unlike, [4, 3]), (.istore 5, y0, []), (.aload_n 2, y0, []), (.aload_n 0, y0, []), (.iload 4, y0, []), (.iconst 1, y0, []), (.iadd, y0, []), (.iaload, y0, [21]), (.aload_n 0, y0, []), (.iload 4, y0, []), (.iconst 2, y0, []), (.iadd, y0, []), (.iaload, y0, [21]), (.invokevirtual 239, yX10_unlike, [10, 2]), (.istore 6, y0, []), (.aload_n 2, y0, []), (.invokevirtual 146, yX10_thrown, [10, 0]), (.iload 5, y0, []), (.if_icmp .eq 5, y0, [173, 7])],
  [(.iconst 0, y0, []), (.ireturn, y0, [1])],
  [(.iload 5, y0, []), (.ifCond .ne 15, y0, [176])],
  [(.aload_n 3, y0, []), (.iconst 0, y0, []), (.laload, y0, []), (.iload 6, y0, []), (.i2l, y0, [7]), (.lcmp, y0, []), (.ifCond .eq 5, y0, [176])],
  [(.iconst 0, y0, []), (.ireturn, y0, [1])],
  [(.goto 780, y0, [239])],
  [(.aload_n 1, y0, []), (.aload_n 0, y0, []), (.iload 4, y0, []), (.iconst 1, y0, []), (.iadd, y0, []), (.iaload, y0, [21]), (.aload_n 0, y0, []), (.iload 4, y0, []), (.iconst 2, y0, []), (.iadd, y0, []), (.iaload, y0, [21]), (.aload_n 0, y0, []), (.iload 4, y0, []), (.iconst 3, y0, []), (.iadd, y0, []), (.iaload, y0, [21]), (.aload_n 0, y0, []), (.iload 4, y0, []), (.iconst 4, y0, []), (.iadd, y0, []), (.iaload, y0, [21]), (.aload_n 3, y0, []), (.invokestatic 240, yL_span, [6, 3]), (.istore 5, y0, []), (.aload_n 2, y0, []), (.aload_n 0, y0, []), (.iload 4, y0, []), (.iconst 1, y0, []), (.iadd, y0, []), (.iaload, y0, [21]), (.aload_n 0, y0, []), (.iload 4, y0, []), (.iconst 2, y0, []), (.iadd, y0, []), (.iaload, y0, [21]), (.aload_n 0, y0, []), (.iload 4, y0, []), (.iconst 3, y0, []), (.iadd, y0, []), (.iaload, y0, [21]), (.aload_n 0, y0, []), (.iload 4, y0, []), (.iconst 4, y0, []), (.iadd, y0, []), (.iaload, y0, [21]), (.invokevirtual 242, yX10_span, [10, 4]), (.istore 6, y0, []), (.aload_n 2, y0, []), (.invokevirtual 146, yX10_thrown, [10, 0]), (.iload 5, y0, []), (.if_icmp .eq 5, y0, [179, 7])],
  [(.iconst 0, y0, []), (.ireturn, y0, [1])],
  [(.iload 5, y0, []), (.ifCond .ne 15, y0, [182])],
  [(.aload_n 3, y0, []), (.iconst 0, y0, []), (.laload, y0, []), (.iload 6, y0, []), (.i2l, y0, [7]), (.lcmp, y0, []), (.ifCond .eq 5, y0, [182])],
  [(.iconst 0, y0, []), (.ireturn, y0, [1])],
  [(.goto 688, y0, [239])],
  [(.aload_n 1, y0, []), (.aload_n 0, y0, []), (.iload 4, y0, []), (.iconst 1, y0, []), (.iadd, y0, []), (.iaload, y0, [21]), (.aload_n 0, y0, []), (.iload 4, y0, []), (.iconst 2, y0, []), (.iadd, y0, []), (.iaload, y0, [21]), (.aload_n 0, y0, []), (.iload 4, y0, []), (.iconst 3, y0, []), (.iadd, y0, []), (.iaload, y0, [21]), (.aload_n 0, y0, []), (.iload 4, y0, []), (.iconst 4, y0, []), (.iadd, y0, []), (.iaload, y0, [21]), (.aload_n 3, y0, []), (.invokestatic 243, yL_foretold, [6, 3]), (.istore 5, y0, []), (.aload_n 2, y0, []), (.aload_n 0, y0, []), (.iload 4, y0, []), (.iconst 1, y0, []), (.iadd, y0, []), (.iaload, y0, [21]), (.aload_n 0, y0, []), (.iload 4, y0, []), (.iconst 2, y0, []), (.iadd, y0, []), (.iaload, y0, [21]), (.aload_n 0, y0, []), (.iload 4, y0, []), (.iconst 3, y0, []), (.iadd, y0, []), (.iaload, y0, [21]), (.aload_n 0, y0, []), (.iload 4, y0, []), (.iconst 4, y0, []), (.iadd, y0, []), (.iaload, y0, [21]), (.invokevirtual 245, yX10_foretold, [10, 4]), (.istore 6, y0, []), (.aload_n 2, y0, []), (.invokevirtual 146, yX10_thrown, [10, 0]), (.iload 5, y0, []), (.if_icmp .eq 5, y0, [185, 7])],
  [(.iconst 0, y0, []), (.ireturn, y0, [1])],
  [(.iload 5, y0, []), (.ifCond .ne 15, y0, [188])],
  [(.aload_n 3, y0, []), (.iconst 0, y0, []), (.laload, y0, []), (.iload 6, y0, []), (.i2l, y0, [7]), (.lcmp, y0, []), (.ifCond .eq 5, y0, [188])],
  [(.iconst 0, y0, []), (.ireturn, y0, [1])],
  [(.goto 596, y0, [239])],
  [(.aload_n 1, y0, []), (.aload_n 0, y0, []), (.iload 4, y0, []), (.iconst 1, y0, []), (.iadd, y0, []), (.iaload, y0, [21]), (.aload_n 0, y0, []), (.iload 4, y0, []), (.iconst 2, y0, []), (.iadd, y0, []), (.iaload, y0, [21]), (.aload_n 3, y0, []), (.invokestatic 246, yL_differ, [4, 3]), (.istore 5, y0, []), (.aload_n 2, y0, []), (.aload_n 0, y0, []), (.iload 4, y0, []), (.iconst 1, y0, []), (.iadd, y0, []), (.iaload, y0, [21]), (.aload_n 0, y0, []), (.iload 4, y0, []), (.iconst 2, y0, []), (.iadd, y0, []), (.iaload, y0, [21]), (.invokevirtual 248, yX10_differ, [10, 2]), (.istore 6, y0, []), (.aload_n 2, y0, []), (.invokevirtual 146, yX10_thrown, [10, 0]), (.iload 5, y0, []), (.if_icmp .eq 5, y0, [191, 7])],
  [(.iconst 0, y0, []), (.ireturn, y0, [1])],
  [(.iload 5, y0, []), (.ifCond .ne 15, y0, [194])],
  [(.aload_n 3, y0, []), (.iconst 0, y0, []), (.laload, y0, []), (.iload 6, y0, []), (.i2l, y0, [7]), (.lcmp, y0, []), (.ifCond .eq 5, y0, [194])],
  [(.iconst 0, y0, []), (.ireturn, y0, [1])],
  [(.goto 528, y0, [239])],
  [(.aload_n 1, y0, []), (.aload_n 0, y0, []), (.iload 4, y0, []), (.iconst 1, y0, []), (.iadd, y0, []), (.iaload, y0, [21]), (.aload_n 0, y0, []), (.iload 4, y0, []), (.iconst 2, y0, []), (.iadd, y0, []), (.iaload, y0, [21]), (.aload_n 0, y0, []), (.iload 4, y0, []), (.iconst 3, y0, []), (.iadd, y0, []), (.iaload, y0, [21]), (.aload_n 3, y0, []), (.invokestatic 249, yL_group, [5, 3]), (.istore 5, y0, []), (.aload_n 2, y0, []), (.aload_n 0, y0, []), (.iload 4, y0, []), (.iconst 1, y0, []), (.iadd, y0, []), (.iaload, y0, [21]), (.aload_n 0, y0, []), (.iload 4, y0, []), (.iconst 2, y0, []), (.iadd, y0, []), (.iaload, y0, [21]), (.aload_n 0, y0, []), (.iload 4, y0, []), (.iconst 3, y0, []), (.iadd, y0, []), (.iaload, y0, [21]), (.invokevirtual 251, yX10_group, [10, 3]), (.istore 6, y0, []), (.aload_n 2, y0, []), (.invokevirtual 146, yX10_thrown, [10, 0]), (.iload 5, y0, []), (.if_icmp .eq 5, y0, [197, 7])],
  [(.iconst 0, y0, []), (.ireturn, y0, [1])],
  [(.iload 5, y0, []), (.ifCond .ne 15, y0, [200])],
  [(.aload_n 3, y0, []), (.iconst 0, y0, []), (.laload, y0, []), (.iload 6, y0, []), (.i2l, y0, [7]), (.lcmp, y0, []), (.ifCond .eq 5, y0, [200])],
  [(.iconst 0, y0, []), (.ireturn, y0, [1])],
  [(.goto 448, y0, [239])],
  [(.aload_n 1, y0, []), (.aload_n 0, y0, []), (.iload 4, y0, []), (.iconst 1, y0, []), (.iadd, y0, []), (.iaload, y0, [21]), (.aload_n 3, y0, []), (.invokestatic 252, yL_widest, [3, 3]), (.istore 5, y0, []), (.aload_n 2, y0, []), (.aload_n 0, y0, []), (.iload 4, y0, []), (.iconst 1, y0, []), (.iadd, y0, []), (.iaload, y0, [21]), (.invokevirtual 254, yX10_widest, [10, 1]), (.istore 6, y0, []), (.aload_n 2, y0, []), (.invokevirtual 146, yX10_thrown, [10, 0]), (.iload 5, y0, []), (.if_icmp .eq 5, y0, [203, 7])],
  [(.iconst 0, y0, []), (.ireturn, y0, [1])],
  [(.iload 5, y0, []), (.ifCond .ne 15, y0, [206])],
  [(.aload_n 3, y0, []), (.iconst 0, y0, []), (.laload, y0, []), (.iload 6, y0, []), (.i2l, y0, [7]), (.lcmp, y0, []), (.ifCond .eq 5, y0, [206])],
  [(.iconst 0, y0, []), (.ireturn, y0, [1])],
  [(.goto 392, y0, [239])],
  [(.aload_n 1, y0, []), (.aload_n 0, y0, []), (.iload 4, y0, []), (.iconst 1, y0, []), (.iadd, y0, []), (.iaload, y0, [21]), (.aload_n 0, y0, []), (.iload 4, y0, []), (.iconst 2, y0, []), (.iadd, y0, []), (.iaload, y0, [21]), (.aload_n 3, y0, []), (.invokestatic 255, yL_heaviest, [4, 3]), (.istore 5, y0, []), (.aload_n 2, y0, []), (.aload_n 0, y0, []), (.iload 4, y0, []), (.iconst 1, y0, []), (.iadd, y0, []), (.iaload, y0, [21]), (.aload_n 0, y0, []), (.iload 4, y0, []), (.iconst 2, y0, []), (.iadd, y0, []), (.iaload, y0, [21]), (.invokevirtual 257, yX10_heaviest, [10, 2]), (.istore 6, y0, []), (.aload_n 2, y0, []), (.invokevirtual 146, yX10_thrown, [10, 0]), (.iload 5, y0, []), (.if_icmp .eq 5, y0, [209, 7])],
  [(.iconst 0, y0, []), (.ireturn, y0, [1])],
  [(.iload 5, y0, []), (.ifCond .ne 15, y0, [212])],
  [(.aload_n 3, y0, []), (.iconst 0, y0, []), (.laload, y0, []), (.iload 6, y0, []), (.i2l, y0, [7]), (.lcmp, y0, []), (.ifCond .eq 5, y0, [212])],
  [(.iconst 0, y0, []), (.ireturn, y0, [1])],
  [(.goto 324, y0, [239])],
  [(.aload_n 1, y0, []), (.aload_n 0, y0, []), (.iload 4, y0, []), (.iconst 1, y0, []), (.iadd, y0, []), (.iaload, y0, [21]), (.aload_n 0, y0, []), (.iload 4, y0, []), (.iconst 2, y0, []), (.iadd, y0, []), (.iaload, y0, [21]), (.aload_n 3, y0, []), (.invokestatic 258, yL_ordered, [4, 3]), (.istore 5, y0, []), (.aload_n 2, y0, []), (.aload_n 0, y0, []), (.iload 4, y0, []), (.iconst 1, y0, []), (.iadd, y0, []), (.iaload, y0, [21]), (.aload_n 0, y0, []), (.iload 4, y0, []), (.iconst 2, y0, []), (.iadd, y0, []), (.iaload, y0, [21]), (.invokevirtual 260, yX10_ordered, [10, 2]), (.istore 6, y0, []), (.aload_n 2, y0, []), (.invokevirtual 146, yX10_thrown, [10, 0]), (.iload 5, y0, []), (.if_icmp .eq 5, y0, [215, 7])],
  [(.iconst 0, y0, []), (.ireturn, y0, [1])],
  [(.iload 5, y0, []), (.ifCond .ne 15, y0, [218])],
  [(.aload_n 3, y0, []), (.iconst 0, y0, []), (.laload, y0, []), (.iload 6, y0, []), (.i2l, y0, [7]), (.lcmp, y0, []), (.ifCond .eq 5, y0, [218])],
  [(.iconst 0, y0, []), (.ireturn, y0, [1])],
  [(.goto 256, y0, [239])],
  [(.aload_n 1, y0, []), (.aload_n 0, y0, []), (.iload 4, y0, []), (.iconst 1, y0, []), (.iadd, y0, []), (.iaload, y0, [21]), (.aload_n 0, y0, []), (.iload 4, y0, []), (.iconst 2, y0, []), (.iadd, y0, []), (.iaload, y0, [21]), (.aload_n 3, y0, []), (.invokestatic 261, yL_readings, [4, 3]), (.istore 5, y0, []), (.aload_n 2, y0, []), (.aload_n 0, y0, []), (.iload 4, y0, []), (.iconst 1, y0, []), (.iadd, y0, []), (.iaload, y0, [21]), (.aload_n 0, y0, []), (.iload 4, y0, []), (.iconst 2, y0, []), (.iadd, y0, []), (.iaload, y0, [21]), (.invokevirtual 263, yX10_readings, [10, 2]), (.istore 6, y0, []), (.aload_n 2, y0, []), (.invokevirtual 146, yX10_thrown, [10, 0]), (.iload 5, y0, []), (.if_icmp .eq 5, y0, [221, 7])],
  [(.iconst 0, y0, []), (.ireturn, y0, [1])],
  [(.iload 5, y0, []), (.ifCond .ne 15, y0, [224])],
  [(.aload_n 3, y0, []), (.iconst 0, y0, []), (.laload, y0, []), (.iload 6, y0, []), (.i2l, y0, [7]), (.lcmp, y0, []), (.ifCond .eq 5, y0, [224])],
  [(.iconst 0, y0, []), (.ireturn, y0, [1])],
  [(.goto 188, y0, [239])],
  [(.aload_n 1, y0, []), (.aload_n 0, y0, []), (.iload 4, y0, []), (.iconst 1, y0, []), (.iadd, y0, []), (.iaload, y0, [21]), (.aload_n 0, y0, []), (.iload 4, y0, []), (.iconst 2, y0, []), (.iadd, y0, []), (.iaload, y0, [21]), (.aload_n 0, y0, []), (.iload 4, y0, []), (.iconst 3, y0, []), (.iadd, y0, []), (.iaload, y0, [21]), (.aload_n 3, y0, []), (.invokestatic 264, yL_thrift, [5, 3]), (.istore 5, y0, []), (.aload_n 2, y0, []), (.aload_n 0, y0, []), (.iload 4, y0, []), (.iconst 1, y0, []), (.iadd, y0, []), (.iaload, y0, [21]), (.aload_n 0, y0, []), (.iload 4, y0, []), (.iconst 2, y0, []), (.iadd, y0, []), (.iaload, y0, [21]), (.aload_n 0, y0, []), (.iload 4, y0, []), (.iconst 3, y0, []), (.iadd, y0, []), (.iaload, y0, [21]), (.invokevirtual 266, yX10_thrift, [10, 3]), (.istore 6, y0, []), (.aload_n 2, y0, []), (.invokevirtual 146, yX10_thrown, [10, 0]), (.iload 5, y0, []), (.if_icmp .eq 5, y0, [227, 7])],
  [(.iconst 0, y0, []), (.ireturn, y0, [1])],
  [(.iload 5, y0, []), (.ifCond .ne 15, y0, [230])],
  [(.aload_n 3, y0, []), (.iconst 0, y0, []), (.laload, y0, []), (.iload 6, y0, []), (.i2l, y0, [7]), (.lcmp, y0, []), (.ifCond .eq 5, y0, [230])],
  [(.iconst 0, y0, []), (.ireturn, y0, [1])],
  [(.goto 108, y0, [239])],
  [(.aload_n 1, y0, []), (.aload_n 0, y0, []), (.iload 4, y0, []), (.iconst 1, y0, []), (.iadd, y0, []), (.iaload, y0, [21]), (.aload_n 0, y0, []), (.iload 4, y0, []), (.iconst 2, y0, []), (.iadd, y0, []), (.iaload, y0, [21]), (.aload_n 0, y0, []), (.iload 4, y0, []), (.iconst 3, y0, []), (.iadd, y0, []), (.iaload, y0, [21]), (.aload_n 3, y0, []), (.invokestatic 267, yL_swift, [5, 3]), (.istore 5, y0, []), (.aload_n 2, y0, []), (.aload_n 0, y0, []), (.iload 4, y0, []), (.iconst 1, y0, []), (.iadd, y0, []), (.iaload, y0, [21]), (.aload_n 0, y0, []), (.iload 4, y0, []), (.iconst 2, y0, []), (.iadd, y0, []), (.iaload, y0, [21]), (.aload_n 0, y0, []), (.iload 4, y0, []), (.iconst 3, y0, []), (.iadd, y0, []), (.iaload, y0, [21]), (.invokevirtual 269, yX10_swift, [10, 3]), (.istore 6, y0, []), (.aload_n 2, y0, []), (.invokevirtual 146, yX10_thrown, [10, 0]), (.iload 5, y0, []), (.if_icmp .eq 5, y0, [233, 7])],
  [(.iconst 0, y0, []), (.ireturn, y0, [1])],
  [(.iload 5, y0, []), (.ifCond .ne 15, y0, [236])],
  [(.aload_n 3, y0, []), (.iconst 0, y0, []), (.laload, y0, []), (.iload 6, y0, []), (.i2l, y0, [7]), (.lcmp, y0, []), (.ifCond .eq 5, y0, [236])],
  [(.iconst 0, y0, []), (.ireturn, y0, [1])],
  [(.goto 28, y0, [239])],
  [(.aload_n 1, y0, []), (.aload_n 0, y0, []), (.iload 4, y0, []), (.iconst 1, y0, []), (.iadd, y0, []), (.iaload, y0, [21]), (.invokevirtual 270, yX9_status, [9, 1]), (.aload_n 2, y0, []), (.aload_n 0, y0, []), (.iload 4, y0, []), (.iconst 1, y0, []), (.iadd, y0, []), (.iaload, y0, [21]), (.invokevirtual 273, yX10_status, [10, 1]), (.if_icmp .eq 5, y0, [239, 7])],
  [(.iconst 0, y0, []), (.ireturn, y0, [1])],
  [(.iinc 4 6, y0, []), (.goto (-3046), y0, [1])],
  [(.iconst 1, y0, []), (.ireturn, y0, [1])]]
def pL_law : List Nat := [0, 23, 33, 220, 291, 293, 327, 329, 334, 344, 346, 349, 419, 421, 426, 436, 438, 441, 523, 525, 530, 540, 542, 545, 579, 581, 586, 596, 598, 601, 612, 614, 660, 662, 667, 677, 679, 682, 728, 730, 735, 745, 747, 750, 761, 763, 833, 835, 840, 850, 852, 855, 889, 891, 896, 906, 908, 911, 945, 947, 952, 962, 964, 967, 1013, 1015, 1020, 1030, 1032, 1035, 1081, 1083, 1088, 1098, 1100, 1103, 1173, 1175, 1180, 1190, 1192, 1195, 1265, 1267, 1272, 1282, 1284, 1287, 1333, 1335, 1340, 1350, 1352, 1355, 1401, 1403, 1408, 1418, 1420, 1423, 1469, 1471, 1476, 1484, 1488, 1489, 1493, 1495, 1498, 1544, 1546, 1551, 1561, 1563, 1566, 1612, 1614, 1619, 1629, 1631, 1634, 1680, 1682, 1687, 1697, 1699, 1702, 1772, 1774, 1779, 1789, 1791, 1794, 1840, 1842, 1847, 1855, 1859, 1860, 1864, 1866, 1869, 1903, 1905, 1910, 1920, 1922, 1925, 1971, 1973, 1978, 1988, 1990, 1993, 2039, 2041, 2046, 2056, 2058, 2061, 2119, 2121, 2126, 2136, 2138, 2141, 2199, 2201, 2206, 2216, 2218, 2221, 2267, 2269, 2274, 2284, 2286, 2289, 2359, 2361, 2366, 2376, 2378, 2381, 2451, 2453, 2458, 2468, 2470, 2473, 2519, 2521, 2526, 2536, 2538, 2541, 2599, 2601, 2606, 2616, 2618, 2621, 2655, 2657, 2662, 2672, 2674, 2677, 2723, 2725, 2730, 2740, 2742, 2745, 2791, 2793, 2798, 2808, 2810, 2813, 2859, 2861, 2866, 2876, 2878, 2881, 2939, 2941, 2946, 2956, 2958, 2961, 3019, 3021, 3026, 3036, 3038, 3041, 3064, 3066, 3072, 3074]
def spL_law : Nat × Instr × Nat := (40, (.tableswitch 3026 0 40 #[180, 253, 309, 401, 505, 561, 574, 642, 710, 723, 815, 871, 927, 995, 1063, 1155, 1247, 1315, 1383, 1458, 1526, 1594, 1662, 1754, 1829, 1885, 1953, 2021, 2101, 2181, 2249, 2341, 2433, 2501, 2581, 2637, 2705, 2773, 2841, 2921, 3001], 180))
theorem dsL_law : decode code spL_law.1 = .ok spL_law.2 := by decide +kernel
theorem csL_law : ab_cksS spL_law 11 (some .boolean) false 7 pL_law (fun _ => true) 0 0 (code.data.toList.drop 0) bL_law = true := by decide +kernel
theorem kL_law : ab_cks code 11 (some .boolean) false 7 pL_law (fun _ => true) 0 bL_law = true := ab_cksS_ok (cc := code) dsL_law bL_law 0 0 csL_law
