def y0 : MethodName := ⟨"", "", ""⟩
def bX0_init : List (List ab_I) := [[(.aload_n 0, y0, []), (.invokespecial 3, y0, [0, 319]), (.aload_n 0, y0, []), (.bipush 6, y0, []), (.anewarray 9, y0, [0]), (.putfield 11, y0, [0, 1]), (.aload_n 0, y0, []), (.new 9, y0, [2, 1]), (.dup, y0, []), (.invokespecial 17, yX2_init, [0]), (.putfield 18, y0, [0, 2]), (.aload_n 0, y0, []), (.iconst 3, y0, []), (.newarray .int, y0, []), (.putfield 22, y0, [0, 3]), (.aload_n 0, y0, []), (.aload_n 1, y0, []), (.putfield 26, y0, [0, 0]), (.iconst 0, y0, []), (.istore_n 2, y0, [])],
  [(.iload_n 2, y0, []), (.aload_n 0, y0, []), (.getfield 11, y0, [0, 1]), (.arraylength, y0, [1, 0]), (.if_icmp .ge 22, y0, [3])],
  [(.aload_n 0, y0, []), (.getfield 11, y0, [0, 1]), (.iload_n 2, y0, []), (.new 9, y0, [2, 1]), (.dup, y0, []), (.invokespecial 17, yX2_init, [0]), (.aastore, y0, [0]), (.iinc 2 1, y0, []), (.goto (-25), y0, [1])],
  [(.return_, y0, [])]]
def pX0_init : List Nat := [0, 38, 47, 66, 67]
theorem kX0_init : ab_cks cX0_init 0 none true 3 pX0_init (fun _ => true) 0 bX0_init = true := by decide +kernel
theorem eX0_init {d mc ms : Nat} {av : List ab_V} {σ : ab_H} {post : ab_O → ab_H → Prop} (hav : (av.all ab_n1 && Nat.ble av.length 3) = true) (h : ∀ At, ab_rule bX0_init d mc ms post At → At 0 (av.map some ++ List.replicate (3 - av.length) none) [] σ 0 0) : ab_call d mc ms yX0_init av σ post :=
  ab_entry (o := 0) (ini := true) (ret := none) (maxL := 3) (ab_w_in (i := 318) (by decide +kernel)) (by decide +kernel) (by decide) (by decide +kernel) (by decide +kernel) rfl kX0_init hav h
def bX0_answerTo : List (List ab_I) := [[(.iconst 0, y0, []), (.istore_n 2, y0, [])],
  [(.iload_n 2, y0, []), (.aload_n 0, y0, []), (.getfield 22, y0, [0, 3]), (.arraylength, y0, [0, 0]), (.if_icmp .ge 16, y0, [3])],
  [(.aload_n 0, y0, []), (.getfield 22, y0, [0, 3]), (.iload_n 2, y0, []), (.iconst 0, y0, []), (.iastore, y0, []), (.iinc 2 1, y0, []), (.goto (-19), y0, [1])],
  [(.iconst 0, y0, []), (.istore_n 2, y0, []), (.iconst 0, y0, []), (.istore_n 3, y0, [])],
  [(.iload_n 3, y0, []), (.aload_n 1, y0, []), (.getfield 30, y0, [5, 5]), (.if_icmp .ge 128, y0, [15])],
  [(.aload_n 1, y0, []), (.getfield 36, y0, [5, 2]), (.iload_n 3, y0, []), (.iaload, y0, []), (.istore 4, y0, []), (.iload 4, y0, []), (.bipush 11, y0, []), (.if_icmp .ne 23, y0, [8])],
  [(.iload_n 2, y0, []), (.iconst 1, y0, []), (.if_icmp .lt 18, y0, [8])],
  [(.aload_n 0, y0, []), (.aload_n 0, y0, []), (.getfield 11, y0, [0, 1]), (.iload_n 2, y0, []), (.iconst 1, y0, []), (.isub, y0, []), (.aaload, y0, [0]), (.invokevirtual 39, yX0_turnAround, [0, 1]), (.goto 87, y0, [14])],
  [(.iload 4, y0, []), (.bipush 7, y0, []), (.if_icmp .lt 44, y0, [12])],
  [(.iload 4, y0, []), (.bipush 10, y0, []), (.if_icmp .gt 37, y0, [12])],
  [(.iload_n 2, y0, []), (.iconst 2, y0, []), (.if_icmp .lt 32, y0, [12])],
  [(.iinc 2 (-1), y0, []), (.aload_n 0, y0, []), (.iload 4, y0, []), (.bipush 7, y0, []), (.isub, y0, []), (.aload_n 0, y0, []), (.getfield 11, y0, [0, 1]), (.iload_n 2, y0, []), (.iconst 1, y0, []), (.isub, y0, []), (.aaload, y0, [0]), (.aload_n 0, y0, []), (.getfield 11, y0, [0, 1]), (.iload_n 2, y0, []), (.aaload, y0, [0]), (.invokevirtual 43, yX0_join, [0, 3]), (.goto 39, y0, [14])],
  [(.iload_n 2, y0, []), (.aload_n 0, y0, []), (.getfield 11, y0, [0, 1]), (.arraylength, y0, [1, 0]), (.if_icmp .ge 30, y0, [14])],
  [(.aload_n 0, y0, []), (.iload 4, y0, []), (.aload_n 1, y0, []), (.getfield 47, y0, [5, 3]), (.iload_n 3, y0, []), (.iaload, y0, []), (.aload_n 1, y0, []), (.getfield 50, y0, [5, 4]), (.iload_n 3, y0, []), (.iaload, y0, []), (.aload_n 0, y0, []), (.getfield 11, y0, [0, 1]), (.iload_n 2, y0, []), (.aaload, y0, [0]), (.invokevirtual 53, yX0_makeLeaf, [0, 4]), (.iinc 2 1, y0, [])],
  [(.iinc 3 1, y0, []), (.goto (-130), y0, [4])],
  [(.aload_n 0, y0, []), (.iconst 0, y0, []), (.aload_n 0, y0, []), (.getfield 11, y0, [0, 1]), (.iconst 0, y0, []), (.aaload, y0, [0]), (.aload_n 0, y0, []), (.aload_n 0, y0, []), (.getfield 26, y0, [0, 0]), (.invokevirtual 57, yX6_live, [6, 0]), (.invokevirtual 63, yX0_read, [0, 1]), (.invokevirtual 43, yX0_join, [0, 3]), (.aload_n 0, y0, []), (.getfield 11, y0, [0, 1]), (.iconst 0, y0, []), (.aaload, y0, [0]), (.areturn, y0, [])]]
def pX0_answerTo : List Nat := [0, 2, 11, 24, 28, 36, 51, 56, 71, 78, 85, 90, 119, 128, 155, 161, 190]
theorem kX0_answerTo : ab_cks cX0_answerTo 0 (some (.object "AlignedRuns$Bitmap")) false 5 pX0_answerTo (fun _ => true) 0 bX0_answerTo = true := by decide +kernel
theorem eX0_answerTo {d mc ms : Nat} {av : List ab_V} {σ : ab_H} {post : ab_O → ab_H → Prop} (hav : (av.all ab_n1 && Nat.ble av.length 5) = true) (h : ∀ At, ab_rule bX0_answerTo d mc ms post At → At 0 (av.map some ++ List.replicate (5 - av.length) none) [] σ 0 0) : ab_call d mc ms yX0_answerTo av σ post :=
  ab_entry (o := 0) (ini := false) (ret := (some (.object "AlignedRuns$Bitmap"))) (maxL := 5) (ab_w_in (i := 886) (by decide +kernel)) (by decide +kernel) (by decide) (by decide +kernel) (by decide +kernel) rfl kX0_answerTo hav h
def bX0_makeLeaf : List (List ab_I) := [[(.iload_n 1, y0, []), (.lookupswitch 94 #[(0, 35), (4, 54), (14, 73)], y0, [4, 1, 2, 3])],
  [(.aload_n 0, y0, []), (.aload_n 0, y0, []), (.getfield 26, y0, [0, 0]), (.getfield 67, y0, [6, 0]), (.iload_n 2, y0, []), (.aaload, y0, [1]), (.iload_n 3, y0, []), (.aload 4, y0, []), (.invokevirtual 70, yX0_makeUpTo, [0, 3]), (.goto 65, y0, [8])],
  [(.aload_n 0, y0, []), (.aload_n 0, y0, []), (.getfield 26, y0, [0, 0]), (.getfield 67, y0, [6, 0]), (.iload_n 2, y0, []), (.aaload, y0, [1]), (.iload_n 3, y0, []), (.aload 4, y0, []), (.invokevirtual 74, yX0_makeEqual, [0, 3]), (.goto 46, y0, [8])],
  [(.aload 4, y0, []), (.aload_n 0, y0, []), (.aload_n 0, y0, []), (.getfield 26, y0, [0, 0]), (.getfield 77, y0, [6, 1]), (.iload_n 3, y0, []), (.aaload, y0, [0]), (.invokevirtual 63, yX0_read, [0, 1]), (.invokevirtual 80, yX2_copyFrom, [2, 1]), (.goto 25, y0, [8])],
  [(.aload 4, y0, []), (.iload_n 1, y0, []), (.bipush 12, y0, []), (.if_icmp .ne 13, y0, [6])],
  [(.aload_n 0, y0, []), (.getfield 26, y0, [0, 0]), (.getfield 83, y0, [6, 8]), (.goto 4, y0, [7])],
  [(.iconst 0, y0, [])],
  [(.invokevirtual 86, yX2_fillTo, [2, 1])],
  [(.return_, y0, [])]]
def pX0_makeLeaf : List Nat := [0, 36, 55, 74, 95, 103, 113, 114, 117, 118]
theorem kX0_makeLeaf : ab_cks cX0_makeLeaf 0 none false 5 pX0_makeLeaf (fun _ => true) 0 bX0_makeLeaf = true := by decide +kernel
theorem eX0_makeLeaf {d mc ms : Nat} {av : List ab_V} {σ : ab_H} {post : ab_O → ab_H → Prop} (hav : (av.all ab_n1 && Nat.ble av.length 5) = true) (h : ∀ At, ab_rule bX0_makeLeaf d mc ms post At → At 0 (av.map some ++ List.replicate (5 - av.length) none) [] σ 0 0) : ab_call d mc ms yX0_makeLeaf av σ post :=
  ab_entry (o := 0) (ini := false) (ret := none) (maxL := 5) (ab_w_in (i := 918) (by decide +kernel)) (by decide +kernel) (by decide) (by decide +kernel) (by decide +kernel) rfl kX0_makeLeaf hav h
def bX0_makeUpTo : List (List ab_I) := [[(.aload_n 1, y0, []), (.getfield 90, y0, [3, 0]), (.ifCond .eq 13, y0, [2])],
  [(.aload_n 0, y0, []), (.aload_n 1, y0, []), (.iload_n 2, y0, []), (.aload_n 3, y0, []), (.invokevirtual 96, yX0_makeUpToByRange, [0, 3]), (.goto 10, y0, [3])],
  [(.aload_n 0, y0, []), (.aload_n 1, y0, []), (.iload_n 2, y0, []), (.aload_n 3, y0, []), (.invokevirtual 99, yX0_makeUpToByEqual, [0, 3])],
  [(.return_, y0, [])]]
def pX0_makeUpTo : List Nat := [0, 7, 17, 24, 25]
theorem kX0_makeUpTo : ab_cks cX0_makeUpTo 0 none false 4 pX0_makeUpTo (fun _ => true) 0 bX0_makeUpTo = true := by decide +kernel
theorem eX0_makeUpTo {d mc ms : Nat} {av : List ab_V} {σ : ab_H} {post : ab_O → ab_H → Prop} (hav : (av.all ab_n1 && Nat.ble av.length 4) = true) (h : ∀ At, ab_rule bX0_makeUpTo d mc ms post At → At 0 (av.map some ++ List.replicate (4 - av.length) none) [] σ 0 0) : ab_call d mc ms yX0_makeUpTo av σ post :=
  ab_entry (o := 0) (ini := false) (ret := none) (maxL := 4) (ab_w_in (i := 922) (by decide +kernel)) (by decide +kernel) (by decide) (by decide +kernel) (by decide +kernel) rfl kX0_makeUpTo hav h
def bX0_makeUpToByRange : List (List ab_I) := [[(.aload_n 1, y0, []), (.iconst 0, y0, []), (.iload_n 2, y0, []), (.invokevirtual 102, yX3_digitOf, [3, 2]), (.istore 4, y0, []), (.aload_n 1, y0, []), (.iconst 0, y0, []), (.iload 4, y0, []), (.invokevirtual 106, yX3_isTop, [3, 2]), (.ifCond .eq 17, y0, [2])],
  [(.aload_n 3, y0, []), (.aload_n 0, y0, []), (.getfield 26, y0, [0, 0]), (.getfield 83, y0, [6, 8]), (.invokevirtual 86, yX2_fillTo, [2, 1]), (.goto 18, y0, [3])],
  [(.aload_n 3, y0, []), (.aload_n 0, y0, []), (.aload_n 1, y0, []), (.iconst 0, y0, []), (.iload 4, y0, []), (.invokevirtual 110, yX3_bitmapAt, [3, 2]), (.invokevirtual 63, yX0_read, [0, 1]), (.invokevirtual 80, yX2_copyFrom, [2, 1])],
  [(.iconst 1, y0, []), (.istore 5, y0, [])],
  [(.iload 5, y0, []), (.aload_n 1, y0, []), (.getfield 114, y0, [3, 2]), (.if_icmp .ge 72, y0, [10])],
  [(.aload_n 1, y0, []), (.iload 5, y0, []), (.iload_n 2, y0, []), (.invokevirtual 102, yX3_digitOf, [3, 2]), (.istore 4, y0, []), (.aload_n 1, y0, []), (.iload 5, y0, []), (.iload 4, y0, []), (.invokevirtual 106, yX3_isTop, [3, 2]), (.ifCond .ne 21, y0, [7])],
  [(.aload_n 0, y0, []), (.iconst 0, y0, []), (.aload_n 3, y0, []), (.aload_n 0, y0, []), (.aload_n 1, y0, []), (.iload 5, y0, []), (.iload 4, y0, []), (.invokevirtual 110, yX3_bitmapAt, [3, 2]), (.invokevirtual 63, yX0_read, [0, 1]), (.invokevirtual 43, yX0_join, [0, 3])],
  [(.iload 4, y0, []), (.ifCond .eq 23, y0, [9])],
  [(.aload_n 0, y0, []), (.iconst 1, y0, []), (.aload_n 3, y0, []), (.aload_n 0, y0, []), (.aload_n 1, y0, []), (.iload 5, y0, []), (.iload 4, y0, []), (.iconst 1, y0, []), (.isub, y0, []), (.invokevirtual 110, yX3_bitmapAt, [3, 2]), (.invokevirtual 63, yX0_read, [0, 1]), (.invokevirtual 43, yX0_join, [0, 3])],
  [(.iinc 5 1, y0, []), (.goto (-75), y0, [4])],
  [(.return_, y0, [])]]
def pX0_makeUpToByRange : List Nat := [0, 18, 32, 47, 50, 59, 79, 97, 102, 122, 128, 129]
theorem kX0_makeUpToByRange : ab_cks cX0_makeUpToByRange 0 none false 6 pX0_makeUpToByRange (fun _ => true) 0 bX0_makeUpToByRange = true := by decide +kernel
theorem eX0_makeUpToByRange {d mc ms : Nat} {av : List ab_V} {σ : ab_H} {post : ab_O → ab_H → Prop} (hav : (av.all ab_n1 && Nat.ble av.length 6) = true) (h : ∀ At, ab_rule bX0_makeUpToByRange d mc ms post At → At 0 (av.map some ++ List.replicate (6 - av.length) none) [] σ 0 0) : ab_call d mc ms yX0_makeUpToByRange av σ post :=
  ab_entry (o := 0) (ini := false) (ret := none) (maxL := 6) (ab_w_in (i := 926) (by decide +kernel)) (by decide +kernel) (by decide) (by decide +kernel) (by decide +kernel) rfl kX0_makeUpToByRange hav h
def bX0_makeUpToByEqual : List (List ab_I) := [[(.aload_n 1, y0, []), (.iconst 0, y0, []), (.iload_n 2, y0, []), (.invokevirtual 102, yX3_digitOf, [3, 2]), (.istore 4, y0, []), (.aload_n 3, y0, []), (.aload_n 0, y0, []), (.aload_n 1, y0, []), (.iconst 0, y0, []), (.iconst 0, y0, []), (.invokevirtual 110, yX3_bitmapAt, [3, 2]), (.invokevirtual 63, yX0_read, [0, 1]), (.invokevirtual 80, yX2_copyFrom, [2, 1]), (.iconst 1, y0, []), (.istore 5, y0, [])],
  [(.iload 5, y0, []), (.iload 4, y0, []), (.if_icmp .gt 26, y0, [3])],
  [(.aload_n 0, y0, []), (.iconst 1, y0, []), (.aload_n 3, y0, []), (.aload_n 0, y0, []), (.aload_n 1, y0, []), (.iconst 0, y0, []), (.iload 5, y0, []), (.invokevirtual 110, yX3_bitmapAt, [3, 2]), (.invokevirtual 63, yX0_read, [0, 1]), (.invokevirtual 43, yX0_join, [0, 3]), (.iinc 5 1, y0, []), (.goto (-27), y0, [1])],
  [(.iconst 1, y0, []), (.istore 5, y0, [])],
  [(.iload 5, y0, []), (.aload_n 1, y0, []), (.getfield 114, y0, [3, 2]), (.if_icmp .ge 70, y0, [9])],
  [(.aload_n 1, y0, []), (.iload 5, y0, []), (.iload_n 2, y0, []), (.invokevirtual 102, yX3_digitOf, [3, 2]), (.istore 4, y0, []), (.aload_n 0, y0, []), (.iconst 0, y0, []), (.aload_n 3, y0, []), (.aload_n 0, y0, []), (.aload_n 1, y0, []), (.iload 5, y0, []), (.iload 4, y0, []), (.invokevirtual 110, yX3_bitmapAt, [3, 2]), (.invokevirtual 63, yX0_read, [0, 1]), (.invokevirtual 43, yX0_join, [0, 3]), (.iconst 0, y0, []), (.istore 6, y0, [])],
  [(.iload 6, y0, []), (.iload 4, y0, []), (.if_icmp .ge 27, y0, [8])],
  [(.aload_n 0, y0, []), (.iconst 1, y0, []), (.aload_n 3, y0, []), (.aload_n 0, y0, []), (.aload_n 1, y0, []), (.iload 5, y0, []), (.iload 6, y0, []), (.invokevirtual 110, yX3_bitmapAt, [3, 2]), (.invokevirtual 63, yX0_read, [0, 1]), (.invokevirtual 43, yX0_join, [0, 3]), (.iinc 6 1, y0, []), (.goto (-28), y0, [6])],
  [(.iinc 5 1, y0, []), (.goto (-73), y0, [4])],
  [(.return_, y0, [])]]
def pX0_makeUpToByEqual : List Nat := [0, 25, 32, 55, 58, 67, 97, 104, 128, 134, 135]
theorem kX0_makeUpToByEqual : ab_cks cX0_makeUpToByEqual 0 none false 7 pX0_makeUpToByEqual (fun _ => true) 0 bX0_makeUpToByEqual = true := by decide +kernel
theorem eX0_makeUpToByEqual {d mc ms : Nat} {av : List ab_V} {σ : ab_H} {post : ab_O → ab_H → Prop} (hav : (av.all ab_n1 && Nat.ble av.length 7) = true) (h : ∀ At, ab_rule bX0_makeUpToByEqual d mc ms post At → At 0 (av.map some ++ List.replicate (7 - av.length) none) [] σ 0 0) : ab_call d mc ms yX0_makeUpToByEqual av σ post :=
  ab_entry (o := 0) (ini := false) (ret := none) (maxL := 7) (ab_w_in (i := 948) (by decide +kernel)) (by decide +kernel) (by decide) (by decide +kernel) (by decide +kernel) rfl kX0_makeUpToByEqual hav h
def bX0_makeEqual : List (List ab_I) := [[(.aload_n 0, y0, []), (.aload_n 1, y0, []), (.iconst 0, y0, []), (.aload_n 1, y0, []), (.iconst 0, y0, []), (.iload_n 2, y0, []), (.invokevirtual 102, yX3_digitOf, [3, 2]), (.aload_n 3, y0, []), (.invokevirtual 117, yX0_makeDigit, [0, 4]), (.iconst 1, y0, []), (.istore 4, y0, [])],
  [(.iload 4, y0, []), (.aload_n 1, y0, []), (.getfield 114, y0, [3, 2]), (.if_icmp .ge 37, y0, [3])],
  [(.aload_n 0, y0, []), (.aload_n 1, y0, []), (.iload 4, y0, []), (.aload_n 1, y0, []), (.iload 4, y0, []), (.iload_n 2, y0, []), (.invokevirtual 102, yX3_digitOf, [3, 2]), (.aload_n 0, y0, []), (.getfield 18, y0, [0, 2]), (.invokevirtual 117, yX0_makeDigit, [0, 4]), (.aload_n 0, y0, []), (.iconst 0, y0, []), (.aload_n 3, y0, []), (.aload_n 0, y0, []), (.getfield 18, y0, [0, 2]), (.invokevirtual 43, yX0_join, [0, 3]), (.iinc 4 1, y0, []), (.goto (-40), y0, [1])],
  [(.return_, y0, [])]]
def pX0_makeEqual : List Nat := [0, 16, 25, 59, 60]
theorem kX0_makeEqual : ab_cks cX0_makeEqual 0 none false 5 pX0_makeEqual (fun _ => true) 0 bX0_makeEqual = true := by decide +kernel
theorem eX0_makeEqual {d mc ms : Nat} {av : List ab_V} {σ : ab_H} {post : ab_O → ab_H → Prop} (hav : (av.all ab_n1 && Nat.ble av.length 5) = true) (h : ∀ At, ab_rule bX0_makeEqual d mc ms post At → At 0 (av.map some ++ List.replicate (5 - av.length) none) [] σ 0 0) : ab_call d mc ms yX0_makeEqual av σ post :=
  ab_entry (o := 0) (ini := false) (ret := none) (maxL := 5) (ab_w_in (i := 952) (by decide +kernel)) (by decide +kernel) (by decide) (by decide +kernel) (by decide +kernel) rfl kX0_makeEqual hav h
def bX0_makeDigit : List (List ab_I) := [[(.aload_n 1, y0, []), (.getfield 90, y0, [3, 0]), (.ifCond .eq 7, y0, [2])],
  [(.iload_n 3, y0, []), (.ifCond .ne 21, y0, [3])],
  [(.aload 4, y0, []), (.aload_n 0, y0, []), (.aload_n 1, y0, []), (.iload_n 2, y0, []), (.iload_n 3, y0, []), (.invokevirtual 110, yX3_bitmapAt, [3, 2]), (.invokevirtual 63, yX0_read, [0, 1]), (.invokevirtual 80, yX2_copyFrom, [2, 1]), (.goto 72, y0, [6])],
  [(.aload_n 1, y0, []), (.iload_n 2, y0, []), (.iload_n 3, y0, []), (.invokevirtual 106, yX3_isTop, [3, 2]), (.ifCond .eq 29, y0, [5])],
  [(.aload 4, y0, []), (.aload_n 0, y0, []), (.aload_n 1, y0, []), (.iload_n 2, y0, []), (.iload_n 3, y0, []), (.iconst 1, y0, []), (.isub, y0, []), (.invokevirtual 110, yX3_bitmapAt, [3, 2]), (.invokevirtual 63, yX0_read, [0, 1]), (.invokevirtual 80, yX2_copyFrom, [2, 1]), (.aload_n 0, y0, []), (.aload 4, y0, []), (.invokevirtual 39, yX0_turnAround, [0, 1]), (.goto 37, y0, [6])],
  [(.aload 4, y0, []), (.aload_n 0, y0, []), (.aload_n 1, y0, []), (.iload_n 2, y0, []), (.iload_n 3, y0, []), (.invokevirtual 110, yX3_bitmapAt, [3, 2]), (.invokevirtual 63, yX0_read, [0, 1]), (.invokevirtual 80, yX2_copyFrom, [2, 1]), (.aload_n 0, y0, []), (.iconst 2, y0, []), (.aload 4, y0, []), (.aload_n 0, y0, []), (.aload_n 1, y0, []), (.iload_n 2, y0, []), (.iload_n 3, y0, []), (.iconst 1, y0, []), (.isub, y0, []), (.invokevirtual 110, yX3_bitmapAt, [3, 2]), (.invokevirtual 63, yX0_read, [0, 1]), (.invokevirtual 43, yX0_join, [0, 3])],
  [(.return_, y0, [])]]
def pX0_makeDigit : List Nat := [0, 7, 11, 29, 38, 64, 98, 99]
theorem kX0_makeDigit : ab_cks cX0_makeDigit 0 none false 5 pX0_makeDigit (fun _ => true) 0 bX0_makeDigit = true := by decide +kernel
theorem eX0_makeDigit {d mc ms : Nat} {av : List ab_V} {σ : ab_H} {post : ab_O → ab_H → Prop} (hav : (av.all ab_n1 && Nat.ble av.length 5) = true) (h : ∀ At, ab_rule bX0_makeDigit d mc ms post At → At 0 (av.map some ++ List.replicate (5 - av.length) none) [] σ 0 0) : ab_call d mc ms yX0_makeDigit av σ post :=
  ab_entry (o := 0) (ini := false) (ret := none) (maxL := 5) (ab_w_in (i := 956) (by decide +kernel)) (by decide +kernel) (by decide) (by decide +kernel) (by decide +kernel) rfl kX0_makeDigit hav h
def bX0_read : List (List ab_I) := [[(.aload_n 0, y0, []), (.getfield 22, y0, [0, 3]), (.iconst 0, y0, []), (.dup2, y0, []), (.iaload, y0, []), (.iconst 1, y0, []), (.iadd, y0, []), (.iastore, y0, []), (.aload_n 1, y0, []), (.areturn, y0, [])]]
def pX0_read : List Nat := [0, 12]
theorem kX0_read : ab_cks cX0_read 0 (some (.object "AlignedRuns$Bitmap")) false 2 pX0_read (fun _ => true) 0 bX0_read = true := by decide +kernel
theorem eX0_read {d mc ms : Nat} {av : List ab_V} {σ : ab_H} {post : ab_O → ab_H → Prop} (hav : (av.all ab_n1 && Nat.ble av.length 2) = true) (h : ∀ At, ab_rule bX0_read d mc ms post At → At 0 (av.map some ++ List.replicate (2 - av.length) none) [] σ 0 0) : ab_call d mc ms yX0_read av σ post :=
  ab_entry (o := 0) (ini := false) (ret := (some (.object "AlignedRuns$Bitmap"))) (maxL := 2) (ab_w_in (i := 937) (by decide +kernel)) (by decide +kernel) (by decide) (by decide +kernel) (by decide +kernel) rfl kX0_read hav h
def bX0_join : List (List ab_I) := [[(.aload_n 0, y0, []), (.getfield 22, y0, [0, 3]), (.iconst 1, y0, []), (.dup2, y0, []), (.iaload, y0, []), (.iconst 1, y0, []), (.iadd, y0, []), (.iastore, y0, []), (.aload_n 0, y0, []), (.getfield 22, y0, [0, 3]), (.iconst 2, y0, []), (.dup2, y0, []), (.iaload, y0, []), (.aload_n 2, y0, []), (.aload_n 3, y0, []), (.aload_n 0, y0, []), (.getfield 26, y0, [0, 0]), (.invokevirtual 121, yX6_groupsUsed, [6, 0]), (.invokevirtual 125, yX2_stepsWith, [2, 2]), (.iadd, y0, []), (.iastore, y0, []), (.aload_n 2, y0, []), (.iload_n 1, y0, []), (.aload_n 2, y0, []), (.aload_n 3, y0, []), (.invokevirtual 129, yX2_becomeLogic, [2, 3]), (.return_, y0, [])]]
def pX0_join : List Nat := [0, 39]
theorem kX0_join : ab_cks cX0_join 0 none false 4 pX0_join (fun _ => true) 0 bX0_join = true := by decide +kernel
theorem eX0_join {d mc ms : Nat} {av : List ab_V} {σ : ab_H} {post : ab_O → ab_H → Prop} (hav : (av.all ab_n1 && Nat.ble av.length 4) = true) (h : ∀ At, ab_rule bX0_join d mc ms post At → At 0 (av.map some ++ List.replicate (4 - av.length) none) [] σ 0 0) : ab_call d mc ms yX0_join av σ post :=
  ab_entry (o := 0) (ini := false) (ret := none) (maxL := 4) (ab_w_in (i := 906) (by decide +kernel)) (by decide +kernel) (by decide) (by decide +kernel) (by decide +kernel) rfl kX0_join hav h
def bX0_turnAround : List (List ab_I) := [[(.aload_n 0, y0, []), (.getfield 22, y0, [0, 3]), (.iconst 1, y0, []), (.dup2, y0, []), (.iaload, y0, []), (.iconst 1, y0, []), (.iadd, y0, []), (.iastore, y0, []), (.aload_n 0, y0, []), (.getfield 22, y0, [0, 3]), (.iconst 2, y0, []), (.dup2, y0, []), (.iaload, y0, []), (.aload_n 1, y0, []), (.aload_n 0, y0, []), (.getfield 26, y0, [0, 0]), (.invokevirtual 121, yX6_groupsUsed, [6, 0]), (.invokevirtual 132, yX2_wordCount, [2, 1]), (.iadd, y0, []), (.iastore, y0, []), (.aload_n 1, y0, []), (.aload_n 0, y0, []), (.getfield 26, y0, [0, 0]), (.getfield 83, y0, [6, 8]), (.invokevirtual 136, yX2_turnOver, [2, 1]), (.return_, y0, [])]]
def pX0_turnAround : List Nat := [0, 42]
theorem kX0_turnAround : ab_cks cX0_turnAround 0 none false 2 pX0_turnAround (fun _ => true) 0 bX0_turnAround = true := by decide +kernel
theorem eX0_turnAround {d mc ms : Nat} {av : List ab_V} {σ : ab_H} {post : ab_O → ab_H → Prop} (hav : (av.all ab_n1 && Nat.ble av.length 2) = true) (h : ∀ At, ab_rule bX0_turnAround d mc ms post At → At 0 (av.map some ++ List.replicate (2 - av.length) none) [] σ 0 0) : ab_call d mc ms yX0_turnAround av σ post :=
  ab_entry (o := 0) (ini := false) (ret := none) (maxL := 2) (ab_w_in (i := 890) (by decide +kernel)) (by decide +kernel) (by decide) (by decide +kernel) (by decide +kernel) rfl kX0_turnAround hav h
def bX1_init : List (List ab_I) := [[(.aload_n 0, y0, []), (.invokespecial 3, y0, [0, 341]), (.aload_n 0, y0, []), (.iconst 4, y0, []), (.newarray .int, y0, []), (.putfield 9, y0, [1, 0]), (.aload_n 0, y0, []), (.iconst 4, y0, []), (.newarray .int, y0, []), (.putfield 15, y0, [1, 1]), (.return_, y0, [])]]
def pX1_init : List Nat := [0, 19]
theorem kX1_init : ab_cks cX1_init 1 none true 1 pX1_init (fun _ => true) 0 bX1_init = true := by decide +kernel
theorem eX1_init {d mc ms : Nat} {av : List ab_V} {σ : ab_H} {post : ab_O → ab_H → Prop} (hav : (av.all ab_n1 && Nat.ble av.length 1) = true) (h : ∀ At, ab_rule bX1_init d mc ms post At → At 0 (av.map some ++ List.replicate (1 - av.length) none) [] σ 0 0) : ab_call d mc ms yX1_init av σ post :=
  ab_entry (o := 1) (ini := true) (ret := none) (maxL := 1) (ab_w_in (i := 340) (by decide +kernel)) (by decide +kernel) (by decide) (by decide +kernel) (by decide +kernel) rfl kX1_init hav h
def bX1_findFewestBitmaps : List (List ab_I) := [[(.aload_n 0, y0, []), (.iload_n 1, y0, []), (.invokevirtual 18, yX1_start, [1, 1]), (.aload_n 0, y0, []), (.iload_n 2, y0, []), (.putfield 22, y0, [1, 3]), (.aload_n 0, y0, []), (.iconst 0, y0, []), (.iconst 1, y0, []), (.iconst 0, y0, []), (.invokevirtual 26, yX1_tryFewer, [1, 3]), (.return_, y0, [])]]
def pX1_findFewestBitmaps : List Nat := [0, 18]
theorem kX1_findFewestBitmaps : ab_cks cX1_findFewestBitmaps 1 none false 3 pX1_findFewestBitmaps (fun _ => true) 0 bX1_findFewestBitmaps = true := by decide +kernel
theorem eX1_findFewestBitmaps {d mc ms : Nat} {av : List ab_V} {σ : ab_H} {post : ab_O → ab_H → Prop} (hav : (av.all ab_n1 && Nat.ble av.length 3) = true) (h : ∀ At, ab_rule bX1_findFewestBitmaps d mc ms post At → At 0 (av.map some ++ List.replicate (3 - av.length) none) [] σ 0 0) : ab_call d mc ms yX1_findFewestBitmaps av σ post :=
  ab_entry (o := 1) (ini := false) (ret := none) (maxL := 3) (ab_w_in (i := 1343) (by decide +kernel)) (by decide +kernel) (by decide) (by decide +kernel) (by decide +kernel) rfl kX1_findFewestBitmaps hav h
def bX1_findFewestReadings : List (List ab_I) := [[(.aload_n 0, y0, []), (.iload_n 1, y0, []), (.invokevirtual 18, yX1_start, [1, 1]), (.aload_n 0, y0, []), (.iload_n 2, y0, []), (.putfield 30, y0, [1, 4]), (.iconst 1, y0, []), (.istore_n 3, y0, [])],
  [(.iload_n 3, y0, []), (.iconst 4, y0, []), (.if_icmp .gt 22, y0, [3])],
  [(.aload_n 0, y0, []), (.iload_n 3, y0, []), (.putfield 22, y0, [1, 3]), (.aload_n 0, y0, []), (.iconst 0, y0, []), (.iconst 1, y0, []), (.iconst 0, y0, []), (.iconst 0, y0, []), (.invokevirtual 33, yX1_trySwifter, [1, 4]), (.iinc 3 1, y0, []), (.goto (-21), y0, [1])],
  [(.return_, y0, [])]]
def pX1_findFewestReadings : List Nat := [0, 12, 17, 36, 37]
theorem kX1_findFewestReadings : ab_cks cX1_findFewestReadings 1 none false 4 pX1_findFewestReadings (fun _ => true) 0 bX1_findFewestReadings = true := by decide +kernel
theorem eX1_findFewestReadings {d mc ms : Nat} {av : List ab_V} {σ : ab_H} {post : ab_O → ab_H → Prop} (hav : (av.all ab_n1 && Nat.ble av.length 4) = true) (h : ∀ At, ab_rule bX1_findFewestReadings d mc ms post At → At 0 (av.map some ++ List.replicate (4 - av.length) none) [] σ 0 0) : ab_call d mc ms yX1_findFewestReadings av σ post :=
  ab_entry (o := 1) (ini := false) (ret := none) (maxL := 4) (ab_w_in (i := 1376) (by decide +kernel)) (by decide +kernel) (by decide) (by decide +kernel) (by decide +kernel) rfl kX1_findFewestReadings hav h
def bX1_tell : List (List ab_I) := [[(.iload_n 1, y0, []), (.aload_n 0, y0, []), (.getfield 37, y0, [1, 5]), (.if_icmp .gt 10, y0, [2])],
  [(.aload_n 0, y0, []), (.getfield 37, y0, [1, 5]), (.ifCond .ne 5, y0, [3])],
  [(.iconst (-1), y0, []), (.ireturn, y0, [])],
  [(.iload_n 1, y0, []), (.ifCond .ne 10, y0, [5])],
  [(.aload_n 0, y0, []), (.getfield 40, y0, [1, 6]), (.goto 11, y0, [6])],
  [(.aload_n 0, y0, []), (.getfield 15, y0, [1, 1]), (.iload_n 1, y0, []), (.iconst 1, y0, []), (.isub, y0, []), (.iaload, y0, [])],
  [(.ireturn, y0, [])]]
def pX1_tell : List Nat := [0, 8, 15, 17, 21, 28, 36, 37]
theorem kX1_tell : ab_cks cX1_tell 1 (some .int) false 2 pX1_tell (fun _ => true) 0 bX1_tell = true := by decide +kernel
theorem eX1_tell {d mc ms : Nat} {av : List ab_V} {σ : ab_H} {post : ab_O → ab_H → Prop} (hav : (av.all ab_n1 && Nat.ble av.length 2) = true) (h : ∀ At, ab_rule bX1_tell d mc ms post At → At 0 (av.map some ++ List.replicate (2 - av.length) none) [] σ 0 0) : ab_call d mc ms yX1_tell av σ post :=
  ab_entry (o := 1) (ini := false) (ret := (some .int)) (maxL := 2) (ab_w_in (i := 1365) (by decide +kernel)) (by decide +kernel) (by decide) (by decide +kernel) (by decide +kernel) rfl kX1_tell hav h
def bX1_start : List (List ab_I) := [[(.aload_n 0, y0, []), (.iload_n 1, y0, []), (.putfield 43, y0, [1, 2]), (.aload_n 0, y0, []), (.iconst 0, y0, []), (.putfield 37, y0, [1, 5]), (.aload_n 0, y0, []), (.ldc 46, y0, [1000000]), (.putfield 40, y0, [1, 6]), (.return_, y0, [])]]
def pX1_start : List Nat := [0, 17]
theorem kX1_start : ab_cks cX1_start 1 none false 2 pX1_start (fun _ => true) 0 bX1_start = true := by decide +kernel
theorem eX1_start {d mc ms : Nat} {av : List ab_V} {σ : ab_H} {post : ab_O → ab_H → Prop} (hav : (av.all ab_n1 && Nat.ble av.length 2) = true) (h : ∀ At, ab_rule bX1_start d mc ms post At → At 0 (av.map some ++ List.replicate (2 - av.length) none) [] σ 0 0) : ab_call d mc ms yX1_start av σ post :=
  ab_entry (o := 1) (ini := false) (ret := none) (maxL := 2) (ab_w_in (i := 1347) (by decide +kernel)) (by decide +kernel) (by decide) (by decide +kernel) (by decide +kernel) rfl kX1_start hav h
def bX1_tryFewer : List (List ab_I) := [[(.aload_n 0, y0, []), (.getfield 22, y0, [1, 3]), (.iload_n 1, y0, []), (.isub, y0, []), (.iconst 1, y0, []), (.isub, y0, []), (.istore 4, y0, []), (.iconst 2, y0, []), (.istore 5, y0, [])],
  [(.iload 5, y0, []), (.sipush 200, y0, []), (.if_icmp .gt 50, y0, [4])],
  [(.iload_n 3, y0, []), (.iload 5, y0, []), (.iadd, y0, []), (.iconst 1, y0, []), (.isub, y0, []), (.iload 4, y0, []), (.iadd, y0, []), (.aload_n 0, y0, []), (.getfield 40, y0, [1, 6]), (.if_icmp .ge 34, y0, [4])],
  [(.aload_n 0, y0, []), (.getfield 9, y0, [1, 0]), (.iload_n 1, y0, []), (.iload 5, y0, []), (.iastore, y0, []), (.aload_n 0, y0, []), (.iload_n 1, y0, []), (.iconst 1, y0, []), (.iadd, y0, []), (.iload_n 2, y0, []), (.iload 5, y0, []), (.imul, y0, []), (.iload_n 3, y0, []), (.iload 5, y0, []), (.iadd, y0, []), (.iconst 1, y0, []), (.isub, y0, []), (.invokevirtual 47, yX1_goOnFewer, [1, 3]), (.iinc 5 1, y0, []), (.goto (-52), y0, [1])],
  [(.return_, y0, [])]]
def pX1_tryFewer : List Nat := [0, 13, 21, 37, 68, 69]
theorem kX1_tryFewer : ab_cks cX1_tryFewer 1 none false 6 pX1_tryFewer (fun _ => true) 0 bX1_tryFewer = true := by decide +kernel
theorem eX1_tryFewer {d mc ms : Nat} {av : List ab_V} {σ : ab_H} {post : ab_O → ab_H → Prop} (hav : (av.all ab_n1 && Nat.ble av.length 6) = true) (h : ∀ At, ab_rule bX1_tryFewer d mc ms post At → At 0 (av.map some ++ List.replicate (6 - av.length) none) [] σ 0 0) : ab_call d mc ms yX1_tryFewer av σ post :=
  ab_entry (o := 1) (ini := false) (ret := none) (maxL := 6) (ab_w_in (i := 1352) (by decide +kernel)) (by decide +kernel) (by decide) (by decide +kernel) (by decide +kernel) rfl kX1_tryFewer hav h
def bX1_goOnFewer : List (List ab_I) := [[(.iload_n 1, y0, []), (.aload_n 0, y0, []), (.getfield 22, y0, [1, 3]), (.if_icmp .ge 13, y0, [2])],
  [(.aload_n 0, y0, []), (.iload_n 1, y0, []), (.iload_n 2, y0, []), (.iload_n 3, y0, []), (.invokevirtual 26, yX1_tryFewer, [1, 3]), (.goto 9, y0, [3])],
  [(.aload_n 0, y0, []), (.iload_n 2, y0, []), (.iload_n 3, y0, []), (.invokevirtual 50, yX1_compareBest, [1, 2])],
  [(.return_, y0, [])]]
def pX1_goOnFewer : List Nat := [0, 8, 18, 24, 25]
theorem kX1_goOnFewer : ab_cks cX1_goOnFewer 1 none false 4 pX1_goOnFewer (fun _ => true) 0 bX1_goOnFewer = true := by decide +kernel
theorem eX1_goOnFewer {d mc ms : Nat} {av : List ab_V} {σ : ab_H} {post : ab_O → ab_H → Prop} (hav : (av.all ab_n1 && Nat.ble av.length 4) = true) (h : ∀ At, ab_rule bX1_goOnFewer d mc ms post At → At 0 (av.map some ++ List.replicate (4 - av.length) none) [] σ 0 0) : ab_call d mc ms yX1_goOnFewer av σ post :=
  ab_entry (o := 1) (ini := false) (ret := none) (maxL := 4) (ab_w_in (i := 1356) (by decide +kernel)) (by decide +kernel) (by decide) (by decide +kernel) (by decide +kernel) rfl kX1_goOnFewer hav h
def bX1_trySwifter : List (List ab_I) := [[(.aload_n 0, y0, []), (.getfield 22, y0, [1, 3]), (.iload_n 1, y0, []), (.isub, y0, []), (.iconst 1, y0, []), (.isub, y0, []), (.istore 5, y0, []), (.aload_n 0, y0, []), (.getfield 30, y0, [1, 4]), (.iload_n 3, y0, []), (.isub, y0, []), (.iload 5, y0, []), (.isub, y0, []), (.iconst 1, y0, []), (.iadd, y0, []), (.istore 6, y0, []), (.iconst 2, y0, []), (.istore 7, y0, [])],
  [(.iload 7, y0, []), (.iload 6, y0, []), (.if_icmp .gt 58, y0, [5])],
  [(.iload 4, y0, []), (.aload_n 0, y0, []), (.iload_n 1, y0, []), (.iload_n 2, y0, []), (.iload 7, y0, []), (.invokevirtual 54, yX1_readingsOf, [1, 3]), (.iadd, y0, []), (.istore 8, y0, []), (.iload 8, y0, []), (.aload_n 0, y0, []), (.getfield 40, y0, [1, 6]), (.if_icmp .ge 30, y0, [4])],
  [(.aload_n 0, y0, []), (.getfield 9, y0, [1, 0]), (.iload_n 1, y0, []), (.iload 7, y0, []), (.iastore, y0, []), (.aload_n 0, y0, []), (.iload_n 1, y0, []), (.iconst 1, y0, []), (.iadd, y0, []), (.iload_n 2, y0, []), (.iload 7, y0, []), (.imul, y0, []), (.iload_n 3, y0, []), (.iload 7, y0, []), (.iadd, y0, []), (.iconst 1, y0, []), (.isub, y0, []), (.iload 8, y0, []), (.invokevirtual 58, yX1_goOnSwifter, [1, 4])],
  [(.iinc 7 1, y0, []), (.goto (-59), y0, [1])],
  [(.return_, y0, [])]]
def pX1_trySwifter : List Nat := [0, 26, 33, 55, 82, 88, 89]
theorem kX1_trySwifter : ab_cks cX1_trySwifter 1 none false 9 pX1_trySwifter (fun _ => true) 0 bX1_trySwifter = true := by decide +kernel
theorem eX1_trySwifter {d mc ms : Nat} {av : List ab_V} {σ : ab_H} {post : ab_O → ab_H → Prop} (hav : (av.all ab_n1 && Nat.ble av.length 9) = true) (h : ∀ At, ab_rule bX1_trySwifter d mc ms post At → At 0 (av.map some ++ List.replicate (9 - av.length) none) [] σ 0 0) : ab_call d mc ms yX1_trySwifter av σ post :=
  ab_entry (o := 1) (ini := false) (ret := none) (maxL := 9) (ab_w_in (i := 1380) (by decide +kernel)) (by decide +kernel) (by decide) (by decide +kernel) (by decide +kernel) rfl kX1_trySwifter hav h
def bX1_goOnSwifter : List (List ab_I) := [[(.iload_n 1, y0, []), (.aload_n 0, y0, []), (.getfield 22, y0, [1, 3]), (.if_icmp .ge 15, y0, [2])],
  [(.aload_n 0, y0, []), (.iload_n 1, y0, []), (.iload_n 2, y0, []), (.iload_n 3, y0, []), (.iload 4, y0, []), (.invokevirtual 33, yX1_trySwifter, [1, 4]), (.goto 10, y0, [3])],
  [(.aload_n 0, y0, []), (.iload_n 2, y0, []), (.iload 4, y0, []), (.invokevirtual 50, yX1_compareBest, [1, 2])],
  [(.return_, y0, [])]]
def pX1_goOnSwifter : List Nat := [0, 8, 20, 27, 28]
theorem kX1_goOnSwifter : ab_cks cX1_goOnSwifter 1 none false 5 pX1_goOnSwifter (fun _ => true) 0 bX1_goOnSwifter = true := by decide +kernel
theorem eX1_goOnSwifter {d mc ms : Nat} {av : List ab_V} {σ : ab_H} {post : ab_O → ab_H → Prop} (hav : (av.all ab_n1 && Nat.ble av.length 5) = true) (h : ∀ At, ab_rule bX1_goOnSwifter d mc ms post At → At 0 (av.map some ++ List.replicate (5 - av.length) none) [] σ 0 0) : ab_call d mc ms yX1_goOnSwifter av σ post :=
  ab_entry (o := 1) (ini := false) (ret := none) (maxL := 5) (ab_w_in (i := 1394) (by decide +kernel)) (by decide +kernel) (by decide) (by decide +kernel) (by decide +kernel) rfl kX1_goOnSwifter hav h
def bX1_compareBest : List (List ab_I) := [[(.iload_n 1, y0, []), (.aload_n 0, y0, []), (.getfield 43, y0, [1, 2]), (.if_icmp .lt 41, y0, [3])],
  [(.iload_n 2, y0, []), (.aload_n 0, y0, []), (.getfield 40, y0, [1, 6]), (.if_icmp .ge 33, y0, [3])],
  [(.aload_n 0, y0, []), (.iload_n 2, y0, []), (.putfield 40, y0, [1, 6]), (.aload_n 0, y0, []), (.aload_n 0, y0, []), (.getfield 22, y0, [1, 3]), (.putfield 37, y0, [1, 5]), (.aload_n 0, y0, []), (.getfield 9, y0, [1, 0]), (.iconst 0, y0, []), (.aload_n 0, y0, []), (.getfield 15, y0, [1, 1]), (.iconst 0, y0, []), (.aload_n 0, y0, []), (.getfield 22, y0, [1, 3]), (.invokestatic 61, y0, [0, 2])],
  [(.return_, y0, [])]]
def pX1_compareBest : List Nat := [0, 8, 16, 46, 47]
theorem kX1_compareBest : ab_cks cX1_compareBest 1 none false 3 pX1_compareBest (fun _ => true) 0 bX1_compareBest = true := by decide +kernel
theorem eX1_compareBest {d mc ms : Nat} {av : List ab_V} {σ : ab_H} {post : ab_O → ab_H → Prop} (hav : (av.all ab_n1 && Nat.ble av.length 3) = true) (h : ∀ At, ab_rule bX1_compareBest d mc ms post At → At 0 (av.map some ++ List.replicate (3 - av.length) none) [] σ 0 0) : ab_call d mc ms yX1_compareBest av σ post :=
  ab_entry (o := 1) (ini := false) (ret := none) (maxL := 3) (ab_w_in (i := 1360) (by decide +kernel)) (by decide +kernel) (by decide) (by decide +kernel) (by decide +kernel) rfl kX1_compareBest hav h
def bX1_readingsOf : List (List ab_I) := [[(.aload_n 0, y0, []), (.getfield 43, y0, [1, 2]), (.iconst 1, y0, []), (.isub, y0, []), (.istore 4, y0, []), (.iload 4, y0, []), (.aload_n 0, y0, []), (.iload_n 3, y0, []), (.iconst 1, y0, []), (.isub, y0, []), (.iload_n 2, y0, []), (.iload_n 3, y0, []), (.invokevirtual 67, yX1_numbersWith, [1, 3]), (.isub, y0, []), (.istore 5, y0, []), (.iload_n 1, y0, []), (.ifCond .le 18, y0, [2])],
  [(.iload 5, y0, []), (.iload 4, y0, []), (.aload_n 0, y0, []), (.iconst 0, y0, []), (.iload_n 2, y0, []), (.iload_n 3, y0, []), (.invokevirtual 67, yX1_numbersWith, [1, 3]), (.isub, y0, []), (.iadd, y0, []), (.istore 5, y0, [])],
  [(.iload 5, y0, []), (.ireturn, y0, [])]]
def pX1_readingsOf : List Nat := [0, 26, 41, 44]
theorem kX1_readingsOf : ab_cks cX1_readingsOf 1 (some .int) false 6 pX1_readingsOf (fun _ => true) 0 bX1_readingsOf = true := by decide +kernel
theorem eX1_readingsOf {d mc ms : Nat} {av : List ab_V} {σ : ab_H} {post : ab_O → ab_H → Prop} (hav : (av.all ab_n1 && Nat.ble av.length 6) = true) (h : ∀ At, ab_rule bX1_readingsOf d mc ms post At → At 0 (av.map some ++ List.replicate (6 - av.length) none) [] σ 0 0) : ab_call d mc ms yX1_readingsOf av σ post :=
  ab_entry (o := 1) (ini := false) (ret := (some .int)) (maxL := 6) (ab_w_in (i := 1384) (by decide +kernel)) (by decide +kernel) (by decide) (by decide +kernel) (by decide +kernel) rfl kX1_readingsOf hav h
def bX1_numbersWith : List (List ab_I) := [[(.aload_n 0, y0, []), (.getfield 43, y0, [1, 2]), (.iconst 1, y0, []), (.isub, y0, []), (.istore 4, y0, []), (.iload_n 2, y0, []), (.iload_n 3, y0, []), (.imul, y0, []), (.istore 5, y0, []), (.iload 4, y0, []), (.iload 5, y0, []), (.irem, y0, []), (.iload_n 1, y0, []), (.iload_n 2, y0, []), (.imul, y0, []), (.isub, y0, []), (.istore 6, y0, []), (.iload 4, y0, []), (.iload 5, y0, []), (.idiv, y0, []), (.iload_n 2, y0, []), (.imul, y0, []), (.iconst 0, y0, []), (.iload_n 2, y0, []), (.iload 6, y0, []), (.invokestatic 70, y0, [0, 1]), (.invokestatic 76, y0, [0, 0]), (.iadd, y0, []), (.ireturn, y0, [])]]
def pX1_numbersWith : List Nat := [0, 43]
theorem kX1_numbersWith : ab_cks cX1_numbersWith 1 (some .int) false 7 pX1_numbersWith (fun _ => true) 0 bX1_numbersWith = true := by decide +kernel
theorem eX1_numbersWith {d mc ms : Nat} {av : List ab_V} {σ : ab_H} {post : ab_O → ab_H → Prop} (hav : (av.all ab_n1 && Nat.ble av.length 7) = true) (h : ∀ At, ab_rule bX1_numbersWith d mc ms post At → At 0 (av.map some ++ List.replicate (7 - av.length) none) [] σ 0 0) : ab_call d mc ms yX1_numbersWith av σ post :=
  ab_entry (o := 1) (ini := false) (ret := (some .int)) (maxL := 7) (ab_w_in (i := 1388) (by decide +kernel)) (by decide +kernel) (by decide) (by decide +kernel) (by decide +kernel) rfl kX1_numbersWith hav h
def bX2_init : List (List ab_I) := [[(.aload_n 0, y0, []), (.invokespecial 3, y0, [0, 210]), (.aload_n 0, y0, []), (.bipush 100, y0, []), (.newarray .int, y0, []), (.putfield 9, y0, [2, 0]), (.return_, y0, [])]]
def pX2_init : List Nat := [0, 13]
theorem kX2_init : ab_cks cX2_init 2 none true 1 pX2_init (fun _ => true) 0 bX2_init = true := by decide +kernel
theorem eX2_init {d mc ms : Nat} {av : List ab_V} {σ : ab_H} {post : ab_O → ab_H → Prop} (hav : (av.all ab_n1 && Nat.ble av.length 1) = true) (h : ∀ At, ab_rule bX2_init d mc ms post At → At 0 (av.map some ++ List.replicate (1 - av.length) none) [] σ 0 0) : ab_call d mc ms yX2_init av σ post :=
  ab_entry (o := 2) (ini := true) (ret := none) (maxL := 1) (ab_w_in (i := 209) (by decide +kernel)) (by decide +kernel) (by decide) (by decide +kernel) (by decide +kernel) rfl kX2_init hav h
def bX2_contains : List (List ab_I) := [[(.iload_n 1, y0, []), (.ifCond .lt 34, y0, [4])],
  [(.iload_n 1, y0, []), (.sipush 1500, y0, []), (.if_icmp .ge 27, y0, [4])],
  [(.aload_n 0, y0, []), (.getfield 9, y0, [2, 0]), (.iload_n 1, y0, []), (.bipush 15, y0, []), (.idiv, y0, []), (.iaload, y0, []), (.iload_n 1, y0, []), (.bipush 15, y0, []), (.irem, y0, []), (.ishr, y0, []), (.iconst 1, y0, []), (.iand, y0, []), (.iconst 1, y0, []), (.if_icmp .ne 7, y0, [4])],
  [(.iconst 1, y0, []), (.goto 4, y0, [5])],
  [(.iconst 0, y0, [])],
  [(.ireturn, y0, [1])]]
def pX2_contains : List Nat := [0, 4, 11, 31, 35, 36, 37]
theorem kX2_contains : ab_cks cX2_contains 2 (some .boolean) false 2 pX2_contains (fun _ => true) 0 bX2_contains = true := by decide +kernel
theorem eX2_contains {d mc ms : Nat} {av : List ab_V} {σ : ab_H} {post : ab_O → ab_H → Prop} (hav : (av.all ab_n1 && Nat.ble av.length 2) = true) (h : ∀ At, ab_rule bX2_contains d mc ms post At → At 0 (av.map some ++ List.replicate (2 - av.length) none) [] σ 0 0) : ab_call d mc ms yX2_contains av σ post :=
  ab_entry (o := 2) (ini := false) (ret := (some .boolean)) (maxL := 2) (ab_w_in (i := 447) (by decide +kernel)) (by decide +kernel) (by decide) (by decide +kernel) (by decide +kernel) rfl kX2_contains hav h
def bX2_put : List (List ab_I) := [[(.iload_n 1, y0, []), (.ifCond .lt 57, y0, [6])],
  [(.iload_n 1, y0, []), (.sipush 1500, y0, []), (.if_icmp .ge 50, y0, [6])],
  [(.iconst 1, y0, []), (.iload_n 1, y0, []), (.bipush 15, y0, []), (.irem, y0, []), (.ishl, y0, []), (.istore_n 3, y0, []), (.iload_n 1, y0, []), (.bipush 15, y0, []), (.idiv, y0, []), (.istore 4, y0, []), (.aload_n 0, y0, []), (.getfield 9, y0, [2, 0]), (.iload 4, y0, []), (.iload_n 2, y0, []), (.ifCond .eq 15, y0, [4])],
  [(.aload_n 0, y0, []), (.getfield 9, y0, [2, 0]), (.iload 4, y0, []), (.iaload, y0, []), (.iload_n 3, y0, []), (.ior, y0, []), (.goto 14, y0, [5])],
  [(.aload_n 0, y0, []), (.getfield 9, y0, [2, 0]), (.iload 4, y0, []), (.iaload, y0, []), (.iload_n 3, y0, []), (.iconst (-1), y0, []), (.ixor, y0, []), (.iand, y0, [])],
  [(.iastore, y0, [])],
  [(.return_, y0, [])]]
def pX2_put : List Nat := [0, 4, 11, 34, 46, 57, 58, 59]
theorem kX2_put : ab_cks cX2_put 2 none false 5 pX2_put (fun _ => true) 0 bX2_put = true := by decide +kernel
theorem eX2_put {d mc ms : Nat} {av : List ab_V} {σ : ab_H} {post : ab_O → ab_H → Prop} (hav : (av.all ab_n1 && Nat.ble av.length 5) = true) (h : ∀ At, ab_rule bX2_put d mc ms post At → At 0 (av.map some ++ List.replicate (5 - av.length) none) [] σ 0 0) : ab_call d mc ms yX2_put av σ post :=
  ab_entry (o := 2) (ini := false) (ret := none) (maxL := 5) (ab_w_in (i := 476) (by decide +kernel)) (by decide +kernel) (by decide) (by decide +kernel) (by decide +kernel) rfl kX2_put hav h
def bX2_copyFrom : List (List ab_I) := [[(.aload_n 1, y0, []), (.getfield 9, y0, [2, 0]), (.iconst 0, y0, []), (.aload_n 0, y0, []), (.getfield 9, y0, [2, 0]), (.iconst 0, y0, []), (.bipush 100, y0, []), (.invokestatic 15, y0, [0, 2]), (.return_, y0, [])]]
def pX2_copyFrom : List Nat := [0, 16]
theorem kX2_copyFrom : ab_cks cX2_copyFrom 2 none false 2 pX2_copyFrom (fun _ => true) 0 bX2_copyFrom = true := by decide +kernel
theorem eX2_copyFrom {d mc ms : Nat} {av : List ab_V} {σ : ab_H} {post : ab_O → ab_H → Prop} (hav : (av.all ab_n1 && Nat.ble av.length 2) = true) (h : ∀ At, ab_rule bX2_copyFrom d mc ms post At → At 0 (av.map some ++ List.replicate (2 - av.length) none) [] σ 0 0) : ab_call d mc ms yX2_copyFrom av σ post :=
  ab_entry (o := 2) (ini := false) (ret := none) (maxL := 2) (ab_w_in (i := 941) (by decide +kernel)) (by decide +kernel) (by decide) (by decide +kernel) (by decide +kernel) rfl kX2_copyFrom hav h
def bX2_fillTo : List (List ab_I) := [[(.iconst 0, y0, []), (.istore_n 2, y0, [])],
  [(.iload_n 2, y0, []), (.bipush 100, y0, []), (.if_icmp .ge 20, y0, [3])],
  [(.aload_n 0, y0, []), (.getfield 9, y0, [2, 0]), (.iload_n 2, y0, []), (.iload_n 2, y0, []), (.iload_n 1, y0, []), (.invokestatic 21, yX2_rowsOfGroup, [2]), (.iastore, y0, []), (.iinc 2 1, y0, []), (.goto (-20), y0, [1])],
  [(.return_, y0, [])]]
def pX2_fillTo : List Nat := [0, 2, 8, 25, 26]
theorem kX2_fillTo : ab_cks cX2_fillTo 2 none false 3 pX2_fillTo (fun _ => true) 0 bX2_fillTo = true := by decide +kernel
theorem eX2_fillTo {d mc ms : Nat} {av : List ab_V} {σ : ab_H} {post : ab_O → ab_H → Prop} (hav : (av.all ab_n1 && Nat.ble av.length 3) = true) (h : ∀ At, ab_rule bX2_fillTo d mc ms post At → At 0 (av.map some ++ List.replicate (3 - av.length) none) [] σ 0 0) : ab_call d mc ms yX2_fillTo av σ post :=
  ab_entry (o := 2) (ini := false) (ret := none) (maxL := 3) (ab_w_in (i := 480) (by decide +kernel)) (by decide +kernel) (by decide) (by decide +kernel) (by decide +kernel) rfl kX2_fillTo hav h
def bX2_turnOver : List (List ab_I) := [[(.iconst 0, y0, []), (.istore_n 2, y0, [])],
  [(.iload_n 2, y0, []), (.bipush 100, y0, []), (.if_icmp .ge 29, y0, [3])],
  [(.aload_n 0, y0, []), (.getfield 9, y0, [2, 0]), (.iload_n 2, y0, []), (.aload_n 0, y0, []), (.getfield 9, y0, [2, 0]), (.iload_n 2, y0, []), (.iaload, y0, []), (.iconst (-1), y0, []), (.ixor, y0, []), (.iload_n 2, y0, []), (.iload_n 1, y0, []), (.invokestatic 21, yX2_rowsOfGroup, [2]), (.iand, y0, []), (.iastore, y0, []), (.iinc 2 1, y0, []), (.goto (-29), y0, [1])],
  [(.return_, y0, [])]]
def pX2_turnOver : List Nat := [0, 2, 8, 34, 35]
theorem kX2_turnOver : ab_cks cX2_turnOver 2 none false 3 pX2_turnOver (fun _ => true) 0 bX2_turnOver = true := by decide +kernel
theorem eX2_turnOver {d mc ms : Nat} {av : List ab_V} {σ : ab_H} {post : ab_O → ab_H → Prop} (hav : (av.all ab_n1 && Nat.ble av.length 3) = true) (h : ∀ At, ab_rule bX2_turnOver d mc ms post At → At 0 (av.map some ++ List.replicate (3 - av.length) none) [] σ 0 0) : ab_call d mc ms yX2_turnOver av σ post :=
  ab_entry (o := 2) (ini := false) (ret := none) (maxL := 3) (ab_w_in (i := 902) (by decide +kernel)) (by decide +kernel) (by decide) (by decide +kernel) (by decide +kernel) rfl kX2_turnOver hav h
def bX2_rowsOfGroup : List (List ab_I) := [[(.iconst 0, y0, []), (.bipush 15, y0, []), (.iload_n 1, y0, []), (.iload_n 0, y0, []), (.bipush 15, y0, []), (.imul, y0, []), (.isub, y0, []), (.invokestatic 25, y0, [0, 1]), (.invokestatic 30, y0, [0, 0]), (.istore_n 2, y0, []), (.iconst 1, y0, []), (.iload_n 2, y0, []), (.ishl, y0, []), (.iconst 1, y0, []), (.isub, y0, []), (.ireturn, y0, [])]]
def pX2_rowsOfGroup : List Nat := [0, 22]
theorem kX2_rowsOfGroup : ab_cks cX2_rowsOfGroup 2 (some .int) false 3 pX2_rowsOfGroup (fun _ => true) 0 bX2_rowsOfGroup = true := by decide +kernel
theorem eX2_rowsOfGroup {d mc ms : Nat} {av : List ab_V} {σ : ab_H} {post : ab_O → ab_H → Prop} (hav : (av.all ab_n1 && Nat.ble av.length 3) = true) (h : ∀ At, ab_rule bX2_rowsOfGroup d mc ms post At → At 0 (av.map some ++ List.replicate (3 - av.length) none) [] σ 0 0) : ab_call d mc ms yX2_rowsOfGroup av σ post :=
  ab_entry (o := 2) (ini := false) (ret := (some .int)) (maxL := 3) (ab_w_in (i := 483) (by decide +kernel)) (by decide +kernel) (by decide) (by decide +kernel) (by decide +kernel) rfl kX2_rowsOfGroup hav h
def bX2_becomeLogic : List (List ab_I) := [[(.iconst 0, y0, []), (.istore 4, y0, [])],
  [(.iload 4, y0, []), (.bipush 100, y0, []), (.if_icmp .ge 114, y0, [8])],
  [(.aload_n 2, y0, []), (.getfield 9, y0, [2, 0]), (.iload 4, y0, []), (.iaload, y0, []), (.istore 5, y0, []), (.aload_n 3, y0, []), (.getfield 9, y0, [2, 0]), (.iload 4, y0, []), (.iaload, y0, []), (.istore 6, y0, []), (.iload_n 1, y0, []), (.tableswitch 72 0 2 #[27, 42, 57], y0, [6, 3, 4, 5])],
  [(.aload_n 0, y0, []), (.getfield 9, y0, [2, 0]), (.iload 4, y0, []), (.iload 5, y0, []), (.iload 6, y0, []), (.iand, y0, []), (.iastore, y0, []), (.goto 47, y0, [7])],
  [(.aload_n 0, y0, []), (.getfield 9, y0, [2, 0]), (.iload 4, y0, []), (.iload 5, y0, []), (.iload 6, y0, []), (.ior, y0, []), (.iastore, y0, []), (.goto 32, y0, [7])],
  [(.aload_n 0, y0, []), (.getfield 9, y0, [2, 0]), (.iload 4, y0, []), (.iload 5, y0, []), (.iload 6, y0, []), (.ixor, y0, []), (.iastore, y0, []), (.goto 17, y0, [7])],
  [(.aload_n 0, y0, []), (.getfield 9, y0, [2, 0]), (.iload 4, y0, []), (.iload 5, y0, []), (.iload 6, y0, []), (.iconst (-1), y0, []), (.ixor, y0, []), (.iand, y0, []), (.iastore, y0, [])],
  [(.iinc 4 1, y0, []), (.goto (-115), y0, [1])],
  [(.return_, y0, [])]]
def pX2_becomeLogic : List Nat := [0, 3, 10, 56, 71, 86, 101, 115, 121, 122]
theorem kX2_becomeLogic : ab_cks cX2_becomeLogic 2 none false 7 pX2_becomeLogic (fun _ => true) 0 bX2_becomeLogic = true := by decide +kernel
theorem eX2_becomeLogic {d mc ms : Nat} {av : List ab_V} {σ : ab_H} {post : ab_O → ab_H → Prop} (hav : (av.all ab_n1 && Nat.ble av.length 7) = true) (h : ∀ At, ab_rule bX2_becomeLogic d mc ms post At → At 0 (av.map some ++ List.replicate (7 - av.length) none) [] σ 0 0) : ab_call d mc ms yX2_becomeLogic av σ post :=
  ab_entry (o := 2) (ini := false) (ret := none) (maxL := 7) (ab_w_in (i := 914) (by decide +kernel)) (by decide +kernel) (by decide) (by decide +kernel) (by decide +kernel) rfl kX2_becomeLogic hav h
def bX2_stepsWith : List (List ab_I) := [[(.iconst 0, y0, []), (.istore_n 3, y0, []), (.iconst (-1), y0, []), (.istore 4, y0, []), (.iconst (-1), y0, []), (.istore 5, y0, []), (.iconst 0, y0, []), (.istore 6, y0, [])],
  [(.iload 6, y0, []), (.iload_n 2, y0, []), (.if_icmp .ge 58, y0, [6])],
  [(.aload_n 0, y0, []), (.getfield 9, y0, [2, 0]), (.iload 6, y0, []), (.iaload, y0, []), (.istore 7, y0, []), (.aload_n 1, y0, []), (.getfield 9, y0, [2, 0]), (.iload 6, y0, []), (.iaload, y0, []), (.istore 8, y0, []), (.iload 7, y0, []), (.iload 4, y0, []), (.invokestatic 33, yX2_startsWord, [2]), (.ifCond .ne 13, y0, [4])],
  [(.iload 8, y0, []), (.iload 5, y0, []), (.invokestatic 33, yX2_startsWord, [2]), (.ifCond .eq 6, y0, [5])],
  [(.iinc 3 1, y0, [])],
  [(.iload 7, y0, []), (.istore 4, y0, []), (.iload 8, y0, []), (.istore 5, y0, []), (.iinc 6 1, y0, []), (.goto (-58), y0, [1])],
  [(.iload_n 3, y0, []), (.ireturn, y0, [])]]
def pX2_stepsWith : List Nat := [0, 11, 17, 45, 55, 58, 72, 74]
theorem kX2_stepsWith : ab_cks cX2_stepsWith 2 (some .int) false 9 pX2_stepsWith (fun _ => true) 0 bX2_stepsWith = true := by decide +kernel
theorem eX2_stepsWith {d mc ms : Nat} {av : List ab_V} {σ : ab_H} {post : ab_O → ab_H → Prop} (hav : (av.all ab_n1 && Nat.ble av.length 9) = true) (h : ∀ At, ab_rule bX2_stepsWith d mc ms post At → At 0 (av.map some ++ List.replicate (9 - av.length) none) [] σ 0 0) : ab_call d mc ms yX2_stepsWith av σ post :=
  ab_entry (o := 2) (ini := false) (ret := (some .int)) (maxL := 9) (ab_w_in (i := 910) (by decide +kernel)) (by decide +kernel) (by decide) (by decide +kernel) (by decide +kernel) rfl kX2_stepsWith hav h
def bX2_startsWord : List (List ab_I) := [[(.iload_n 0, y0, []), (.iload_n 1, y0, []), (.if_icmp .ne 14, y0, [3])],
  [(.iload_n 0, y0, []), (.ifCond .eq 14, y0, [4])],
  [(.iload_n 0, y0, []), (.sipush 32767, y0, []), (.if_icmp .eq 7, y0, [4])],
  [(.iconst 1, y0, []), (.goto 4, y0, [5])],
  [(.iconst 0, y0, [])],
  [(.ireturn, y0, [1])]]
def pX2_startsWord : List Nat := [0, 5, 9, 16, 20, 21, 22]
theorem kX2_startsWord : ab_cks cX2_startsWord 2 (some .boolean) false 2 pX2_startsWord (fun _ => true) 0 bX2_startsWord = true := by decide +kernel
theorem eX2_startsWord {d mc ms : Nat} {av : List ab_V} {σ : ab_H} {post : ab_O → ab_H → Prop} (hav : (av.all ab_n1 && Nat.ble av.length 2) = true) (h : ∀ At, ab_rule bX2_startsWord d mc ms post At → At 0 (av.map some ++ List.replicate (2 - av.length) none) [] σ 0 0) : ab_call d mc ms yX2_startsWord av σ post :=
  ab_entry (o := 2) (ini := false) (ret := (some .boolean)) (maxL := 2) (ab_w_in (i := 898) (by decide +kernel)) (by decide +kernel) (by decide) (by decide +kernel) (by decide +kernel) rfl kX2_startsWord hav h
def bX2_wordCount : List (List ab_I) := [[(.iconst 0, y0, []), (.istore_n 2, y0, []), (.iconst (-1), y0, []), (.istore_n 3, y0, []), (.iconst 0, y0, []), (.istore 4, y0, [])],
  [(.iload 4, y0, []), (.iload_n 1, y0, []), (.if_icmp .ge 34, y0, [5])],
  [(.aload_n 0, y0, []), (.getfield 9, y0, [2, 0]), (.iload 4, y0, []), (.iaload, y0, []), (.iload_n 3, y0, []), (.invokestatic 33, yX2_startsWord, [2]), (.ifCond .eq 6, y0, [4])],
  [(.iinc 2 1, y0, [])],
  [(.aload_n 0, y0, []), (.getfield 9, y0, [2, 0]), (.iload 4, y0, []), (.iaload, y0, []), (.istore_n 3, y0, []), (.iinc 4 1, y0, []), (.goto (-34), y0, [1])],
  [(.iload_n 2, y0, []), (.ireturn, y0, [])]]
def pX2_wordCount : List Nat := [0, 7, 13, 27, 30, 44, 46]
theorem kX2_wordCount : ab_cks cX2_wordCount 2 (some .int) false 5 pX2_wordCount (fun _ => true) 0 bX2_wordCount = true := by decide +kernel
theorem eX2_wordCount {d mc ms : Nat} {av : List ab_V} {σ : ab_H} {post : ab_O → ab_H → Prop} (hav : (av.all ab_n1 && Nat.ble av.length 5) = true) (h : ∀ At, ab_rule bX2_wordCount d mc ms post At → At 0 (av.map some ++ List.replicate (5 - av.length) none) [] σ 0 0) : ab_call d mc ms yX2_wordCount av σ post :=
  ab_entry (o := 2) (ini := false) (ret := (some .int)) (maxL := 5) (ab_w_in (i := 895) (by decide +kernel)) (by decide +kernel) (by decide) (by decide +kernel) (by decide +kernel) rfl kX2_wordCount hav h
def bX2_literalCount : List (List ab_I) := [[(.iconst 0, y0, []), (.istore_n 2, y0, []), (.iconst 0, y0, []), (.istore_n 3, y0, [])],
  [(.iload_n 3, y0, []), (.iload_n 1, y0, []), (.if_icmp .ge 33, y0, [6])],
  [(.aload_n 0, y0, []), (.getfield 9, y0, [2, 0]), (.iload_n 3, y0, []), (.iaload, y0, []), (.ifCond .eq 18, y0, [5])],
  [(.aload_n 0, y0, []), (.getfield 9, y0, [2, 0]), (.iload_n 3, y0, []), (.iaload, y0, []), (.sipush 32767, y0, []), (.if_icmp .eq 6, y0, [5])],
  [(.iinc 2 1, y0, [])],
  [(.iinc 3 1, y0, []), (.goto (-32), y0, [1])],
  [(.iload_n 2, y0, []), (.ireturn, y0, [])]]
def pX2_literalCount : List Nat := [0, 4, 9, 18, 30, 33, 39, 41]
theorem kX2_literalCount : ab_cks cX2_literalCount 2 (some .int) false 4 pX2_literalCount (fun _ => true) 0 bX2_literalCount = true := by decide +kernel
theorem eX2_literalCount {d mc ms : Nat} {av : List ab_V} {σ : ab_H} {post : ab_O → ab_H → Prop} (hav : (av.all ab_n1 && Nat.ble av.length 4) = true) (h : ∀ At, ab_rule bX2_literalCount d mc ms post At → At 0 (av.map some ++ List.replicate (4 - av.length) none) [] σ 0 0) : ab_call d mc ms yX2_literalCount av σ post :=
  ab_entry (o := 2) (ini := false) (ret := (some .int)) (maxL := 4) (ab_w_in (i := 1068) (by decide +kernel)) (by decide +kernel) (by decide) (by decide +kernel) (by decide +kernel) rfl kX2_literalCount hav h
def bX2_wordAt : List (List ab_I) := [[(.iconst 0, y0, []), (.istore_n 3, y0, []), (.iconst (-1), y0, []), (.istore 4, y0, []), (.iconst 0, y0, []), (.istore 5, y0, [])],
  [(.iload 5, y0, []), (.iload_n 2, y0, []), (.if_icmp .ge 49, y0, [7])],
  [(.aload_n 0, y0, []), (.getfield 9, y0, [2, 0]), (.iload 5, y0, []), (.iaload, y0, []), (.iload 4, y0, []), (.invokestatic 33, yX2_startsWord, [2]), (.ifCond .eq 19, y0, [6])],
  [(.iload_n 3, y0, []), (.iload_n 1, y0, []), (.if_icmp .ne 11, y0, [5])],
  [(.aload_n 0, y0, []), (.iload 5, y0, []), (.iload_n 2, y0, []), (.invokevirtual 37, yX2_wordFrom, [2, 2]), (.ireturn, y0, [])],
  [(.iinc 3 1, y0, [])],
  [(.aload_n 0, y0, []), (.getfield 9, y0, [2, 0]), (.iload 5, y0, []), (.iaload, y0, []), (.istore 4, y0, []), (.iinc 5 1, y0, []), (.goto (-49), y0, [1])],
  [(.iconst (-1), y0, []), (.ireturn, y0, [])]]
def pX2_wordAt : List Nat := [0, 8, 14, 29, 34, 42, 45, 60, 62]
theorem kX2_wordAt : ab_cks cX2_wordAt 2 (some .int) false 6 pX2_wordAt (fun _ => true) 0 bX2_wordAt = true := by decide +kernel
theorem eX2_wordAt {d mc ms : Nat} {av : List ab_V} {σ : ab_H} {post : ab_O → ab_H → Prop} (hav : (av.all ab_n1 && Nat.ble av.length 6) = true) (h : ∀ At, ab_rule bX2_wordAt d mc ms post At → At 0 (av.map some ++ List.replicate (6 - av.length) none) [] σ 0 0) : ab_call d mc ms yX2_wordAt av σ post :=
  ab_entry (o := 2) (ini := false) (ret := (some .int)) (maxL := 6) (ab_w_in (i := 1107) (by decide +kernel)) (by decide +kernel) (by decide) (by decide +kernel) (by decide +kernel) rfl kX2_wordAt hav h
def bX2_wordFrom : List (List ab_I) := [[(.aload_n 0, y0, []), (.getfield 9, y0, [2, 0]), (.iload_n 1, y0, []), (.iaload, y0, []), (.istore_n 3, y0, []), (.iload_n 3, y0, []), (.ifCond .eq 12, y0, [3])],
  [(.iload_n 3, y0, []), (.sipush 32767, y0, []), (.if_icmp .eq 5, y0, [3])],
  [(.iload_n 3, y0, []), (.ireturn, y0, [])],
  [(.ldc 40, y0, [32768]), (.iload_n 3, y0, []), (.sipush 32767, y0, []), (.if_icmp .ne 9, y0, [5])],
  [(.sipush 16384, y0, []), (.goto 4, y0, [6])],
  [(.iconst 0, y0, [])],
  [(.iadd, y0, []), (.aload_n 0, y0, []), (.iload_n 1, y0, []), (.iload_n 2, y0, []), (.invokevirtual 41, yX2_groupsOfWordAt, [2, 2]), (.iadd, y0, []), (.ireturn, y0, [])]]
def pX2_wordFrom : List Nat := [0, 11, 18, 20, 29, 35, 36, 45]
theorem kX2_wordFrom : ab_cks cX2_wordFrom 2 (some .int) false 4 pX2_wordFrom (fun _ => true) 0 bX2_wordFrom = true := by decide +kernel
theorem eX2_wordFrom {d mc ms : Nat} {av : List ab_V} {σ : ab_H} {post : ab_O → ab_H → Prop} (hav : (av.all ab_n1 && Nat.ble av.length 4) = true) (h : ∀ At, ab_rule bX2_wordFrom d mc ms post At → At 0 (av.map some ++ List.replicate (4 - av.length) none) [] σ 0 0) : ab_call d mc ms yX2_wordFrom av σ post :=
  ab_entry (o := 2) (ini := false) (ret := (some .int)) (maxL := 4) (ab_w_in (i := 1111) (by decide +kernel)) (by decide +kernel) (by decide) (by decide +kernel) (by decide +kernel) rfl kX2_wordFrom hav h
def bX2_groupsOfWordAt : List (List ab_I) := [[(.aload_n 0, y0, []), (.getfield 9, y0, [2, 0]), (.iload_n 1, y0, []), (.iaload, y0, []), (.istore_n 3, y0, []), (.iload_n 3, y0, []), (.ifCond .eq 12, y0, [3])],
  [(.iload_n 3, y0, []), (.sipush 32767, y0, []), (.if_icmp .eq 5, y0, [3])],
  [(.iconst 1, y0, []), (.ireturn, y0, [])],
  [(.iload_n 1, y0, []), (.istore 4, y0, [])],
  [(.iload 4, y0, []), (.ifCond .le 22, y0, [7])],
  [(.aload_n 0, y0, []), (.getfield 9, y0, [2, 0]), (.iload 4, y0, []), (.iconst 1, y0, []), (.isub, y0, []), (.iaload, y0, []), (.iload_n 3, y0, []), (.if_icmp .ne 9, y0, [7])],
  [(.iinc 4 (-1), y0, []), (.goto (-21), y0, [4])],
  [(.iload_n 1, y0, []), (.iconst 1, y0, []), (.iadd, y0, []), (.istore 5, y0, [])],
  [(.iload 5, y0, []), (.iload_n 2, y0, []), (.if_icmp .ge 20, y0, [11])],
  [(.aload_n 0, y0, []), (.getfield 9, y0, [2, 0]), (.iload 5, y0, []), (.iaload, y0, []), (.iload_n 3, y0, []), (.if_icmp .ne 9, y0, [11])],
  [(.iinc 5 1, y0, []), (.goto (-20), y0, [8])],
  [(.iload 5, y0, []), (.iload 4, y0, []), (.isub, y0, []), (.ireturn, y0, [])]]
def pX2_groupsOfWordAt : List Nat := [0, 11, 18, 20, 23, 28, 41, 47, 52, 58, 69, 75, 81]
theorem kX2_groupsOfWordAt : ab_cks cX2_groupsOfWordAt 2 (some .int) false 6 pX2_groupsOfWordAt (fun _ => true) 0 bX2_groupsOfWordAt = true := by decide +kernel
theorem eX2_groupsOfWordAt {d mc ms : Nat} {av : List ab_V} {σ : ab_H} {post : ab_O → ab_H → Prop} (hav : (av.all ab_n1 && Nat.ble av.length 6) = true) (h : ∀ At, ab_rule bX2_groupsOfWordAt d mc ms post At → At 0 (av.map some ++ List.replicate (6 - av.length) none) [] σ 0 0) : ab_call d mc ms yX2_groupsOfWordAt av σ post :=
  ab_entry (o := 2) (ini := false) (ret := (some .int)) (maxL := 6) (ab_w_in (i := 1116) (by decide +kernel)) (by decide +kernel) (by decide) (by decide +kernel) (by decide +kernel) rfl kX2_groupsOfWordAt hav h
def bX2_widestFill : List (List ab_I) := [[(.iconst 0, y0, []), (.istore_n 2, y0, []), (.iconst 0, y0, []), (.istore_n 3, y0, []), (.iconst (-1), y0, []), (.istore 4, y0, []), (.iconst 0, y0, []), (.istore 5, y0, [])],
  [(.iload 5, y0, []), (.iload_n 1, y0, []), (.if_icmp .ge 61, y0, [10])],
  [(.aload_n 0, y0, []), (.getfield 9, y0, [2, 0]), (.iload 5, y0, []), (.iaload, y0, []), (.istore 6, y0, []), (.iload 6, y0, []), (.ifCond .eq 16, y0, [5])],
  [(.iload 6, y0, []), (.sipush 32767, y0, []), (.if_icmp .eq 8, y0, [5])],
  [(.iconst 0, y0, []), (.istore_n 3, y0, []), (.goto 18, y0, [9])],
  [(.iload 6, y0, []), (.iload 4, y0, []), (.if_icmp .ne 9, y0, [7])],
  [(.iload_n 3, y0, []), (.iconst 1, y0, []), (.iadd, y0, []), (.goto 4, y0, [8])],
  [(.iconst 1, y0, [])],
  [(.istore_n 3, y0, [])],
  [(.iload_n 2, y0, []), (.iload_n 3, y0, []), (.invokestatic 30, y0, [0, 0]), (.istore_n 2, y0, []), (.iload 6, y0, []), (.istore 4, y0, []), (.iinc 5 1, y0, []), (.goto (-61), y0, [1])],
  [(.iload_n 2, y0, []), (.ireturn, y0, [])]]
def pX2_widestFill : List Nat := [0, 10, 16, 30, 38, 43, 50, 56, 57, 58, 74, 76]
theorem kX2_widestFill : ab_cks cX2_widestFill 2 (some .int) false 7 pX2_widestFill (fun _ => true) 0 bX2_widestFill = true := by decide +kernel
theorem eX2_widestFill {d mc ms : Nat} {av : List ab_V} {σ : ab_H} {post : ab_O → ab_H → Prop} (hav : (av.all ab_n1 && Nat.ble av.length 7) = true) (h : ∀ At, ab_rule bX2_widestFill d mc ms post At → At 0 (av.map some ++ List.replicate (7 - av.length) none) [] σ 0 0) : ab_call d mc ms yX2_widestFill av σ post :=
  ab_entry (o := 2) (ini := false) (ret := (some .int)) (maxL := 7) (ab_w_in (i := 1285) (by decide +kernel)) (by decide +kernel) (by decide) (by decide +kernel) (by decide +kernel) rfl kX2_widestFill hav h
def bX2_measure : List (List ab_I) := [[(.iload_n 1, y0, []), (.tableswitch 88 0 6 #[43, 48, 54, 60, 72, 78, 83], y0, [8, 1, 2, 3, 4, 5, 6, 7])],
  [(.aload_n 0, y0, []), (.invokevirtual 44, yX2_count, [2, 0]), (.ireturn, y0, [])],
  [(.aload_n 0, y0, []), (.iload_n 2, y0, []), (.invokevirtual 48, yX2_wordCount, [2, 1]), (.ireturn, y0, [])],
  [(.aload_n 0, y0, []), (.iload_n 2, y0, []), (.invokevirtual 52, yX2_literalCount, [2, 1]), (.ireturn, y0, [])],
  [(.aload_n 0, y0, []), (.iload_n 2, y0, []), (.invokevirtual 48, yX2_wordCount, [2, 1]), (.aload_n 0, y0, []), (.iload_n 2, y0, []), (.invokevirtual 52, yX2_literalCount, [2, 1]), (.isub, y0, []), (.ireturn, y0, [])],
  [(.aload_n 0, y0, []), (.iconst 0, y0, []), (.invokevirtual 55, yX2_firstRowFrom, [2, 1]), (.ireturn, y0, [])],
  [(.aload_n 0, y0, []), (.invokevirtual 58, yX2_lastRow, [2, 0]), (.ireturn, y0, [])],
  [(.aload_n 0, y0, []), (.invokevirtual 61, yX2_stretchCount, [2, 0]), (.ireturn, y0, [])],
  [(.aload_n 0, y0, []), (.invokevirtual 64, yX2_longestStretch, [2, 0]), (.ireturn, y0, [])]]
def pX2_measure : List Nat := [0, 44, 49, 55, 61, 73, 79, 84, 89, 94]
theorem kX2_measure : ab_cks cX2_measure 2 (some .int) false 3 pX2_measure (fun _ => true) 0 bX2_measure = true := by decide +kernel
theorem eX2_measure {d mc ms : Nat} {av : List ab_V} {σ : ab_H} {post : ab_O → ab_H → Prop} (hav : (av.all ab_n1 && Nat.ble av.length 3) = true) (h : ∀ At, ab_rule bX2_measure d mc ms post At → At 0 (av.map some ++ List.replicate (3 - av.length) none) [] σ 0 0) : ab_call d mc ms yX2_measure av σ post :=
  ab_entry (o := 2) (ini := false) (ret := (some .int)) (maxL := 3) (ab_w_in (i := 1062) (by decide +kernel)) (by decide +kernel) (by decide) (by decide +kernel) (by decide +kernel) rfl kX2_measure hav h
def bX2_count : List (List ab_I) := [[(.iconst 0, y0, []), (.istore_n 1, y0, []), (.iconst 0, y0, []), (.istore_n 2, y0, [])],
  [(.iload_n 2, y0, []), (.bipush 100, y0, []), (.if_icmp .ge 21, y0, [3])],
  [(.iload_n 1, y0, []), (.aload_n 0, y0, []), (.getfield 9, y0, [2, 0]), (.iload_n 2, y0, []), (.iaload, y0, []), (.invokestatic 67, yJ6_bitCount_0f7a4, [1]), (.iadd, y0, []), (.istore_n 1, y0, []), (.iinc 2 1, y0, []), (.goto (-21), y0, [1])],
  [(.iload_n 1, y0, []), (.ireturn, y0, [])]]
def pX2_count : List Nat := [0, 4, 10, 28, 30]
theorem kX2_count : ab_cks cX2_count 2 (some .int) false 3 pX2_count (fun _ => true) 0 bX2_count = true := by decide +kernel
theorem eX2_count {d mc ms : Nat} {av : List ab_V} {σ : ab_H} {post : ab_O → ab_H → Prop} (hav : (av.all ab_n1 && Nat.ble av.length 3) = true) (h : ∀ At, ab_rule bX2_count d mc ms post At → At 0 (av.map some ++ List.replicate (3 - av.length) none) [] σ 0 0) : ab_call d mc ms yX2_count av σ post :=
  ab_entry (o := 2) (ini := false) (ret := (some .int)) (maxL := 3) (ab_w_in (i := 429) (by decide +kernel)) (by decide +kernel) (by decide) (by decide +kernel) (by decide +kernel) rfl kX2_count hav h
def bX2_countBelow : List (List ab_I) := [[(.iconst 0, y0, []), (.istore_n 2, y0, []), (.iconst 0, y0, []), (.istore_n 3, y0, [])],
  [(.iload_n 3, y0, []), (.bipush 100, y0, []), (.if_icmp .ge 27, y0, [3])],
  [(.iload_n 2, y0, []), (.aload_n 0, y0, []), (.getfield 9, y0, [2, 0]), (.iload_n 3, y0, []), (.iaload, y0, []), (.iload_n 3, y0, []), (.iload_n 1, y0, []), (.invokestatic 21, yX2_rowsOfGroup, [2]), (.iand, y0, []), (.invokestatic 67, yJ6_bitCount_0f7a4, [1]), (.iadd, y0, []), (.istore_n 2, y0, []), (.iinc 3 1, y0, []), (.goto (-27), y0, [1])],
  [(.iload_n 2, y0, []), (.ireturn, y0, [])]]
def pX2_countBelow : List Nat := [0, 4, 10, 34, 36]
theorem kX2_countBelow : ab_cks cX2_countBelow 2 (some .int) false 4 pX2_countBelow (fun _ => true) 0 bX2_countBelow = true := by decide +kernel
theorem eX2_countBelow {d mc ms : Nat} {av : List ab_V} {σ : ab_H} {post : ab_O → ab_H → Prop} (hav : (av.all ab_n1 && Nat.ble av.length 4) = true) (h : ∀ At, ab_rule bX2_countBelow d mc ms post At → At 0 (av.map some ++ List.replicate (4 - av.length) none) [] σ 0 0) : ab_call d mc ms yX2_countBelow av σ post :=
  ab_entry (o := 2) (ini := false) (ret := (some .int)) (maxL := 4) (ab_w_in (i := 1152) (by decide +kernel)) (by decide +kernel) (by decide) (by decide +kernel) (by decide +kernel) rfl kX2_countBelow hav h
def bX2_nthRow : List (List ab_I) := [[(.iload_n 1, y0, []), (.ifCond .ge 5, y0, [2])],
  [(.iconst (-1), y0, []), (.ireturn, y0, [])],
  [(.iload_n 1, y0, []), (.istore_n 2, y0, []), (.iconst 0, y0, []), (.istore_n 3, y0, [])],
  [(.iload_n 3, y0, []), (.bipush 100, y0, []), (.if_icmp .ge 38, y0, [7])],
  [(.aload_n 0, y0, []), (.getfield 9, y0, [2, 0]), (.iload_n 3, y0, []), (.iaload, y0, []), (.invokestatic 67, yJ6_bitCount_0f7a4, [1]), (.istore 4, y0, []), (.iload_n 2, y0, []), (.iload 4, y0, []), (.if_icmp .ge 10, y0, [6])],
  [(.aload_n 0, y0, []), (.iload_n 3, y0, []), (.iload_n 2, y0, []), (.invokevirtual 72, yX2_nthOfGroup, [2, 2]), (.ireturn, y0, [])],
  [(.iload_n 2, y0, []), (.iload 4, y0, []), (.isub, y0, []), (.istore_n 2, y0, []), (.iinc 3 1, y0, []), (.goto (-38), y0, [3])],
  [(.iconst (-1), y0, []), (.ireturn, y0, [])]]
def pX2_nthRow : List Nat := [0, 4, 6, 10, 16, 33, 40, 51, 53]
theorem kX2_nthRow : ab_cks cX2_nthRow 2 (some .int) false 5 pX2_nthRow (fun _ => true) 0 bX2_nthRow = true := by decide +kernel
theorem eX2_nthRow {d mc ms : Nat} {av : List ab_V} {σ : ab_H} {post : ab_O → ab_H → Prop} (hav : (av.all ab_n1 && Nat.ble av.length 5) = true) (h : ∀ At, ab_rule bX2_nthRow d mc ms post At → At 0 (av.map some ++ List.replicate (5 - av.length) none) [] σ 0 0) : ab_call d mc ms yX2_nthRow av σ post :=
  ab_entry (o := 2) (ini := false) (ret := (some .int)) (maxL := 5) (ab_w_in (i := 1163) (by decide +kernel)) (by decide +kernel) (by decide) (by decide +kernel) (by decide +kernel) rfl kX2_nthRow hav h
def bX2_nthOfGroup : List (List ab_I) := [[(.aload_n 0, y0, []), (.getfield 9, y0, [2, 0]), (.iload_n 1, y0, []), (.iaload, y0, []), (.istore_n 3, y0, []), (.iconst 0, y0, []), (.istore 4, y0, [])],
  [(.iload 4, y0, []), (.iload_n 2, y0, []), (.if_icmp .ge 15, y0, [3])],
  [(.iload_n 3, y0, []), (.iload_n 3, y0, []), (.iconst 1, y0, []), (.isub, y0, []), (.iand, y0, []), (.istore_n 3, y0, []), (.iinc 4 1, y0, []), (.goto (-15), y0, [1])],
  [(.iload_n 1, y0, []), (.bipush 15, y0, []), (.imul, y0, []), (.iload_n 3, y0, []), (.invokestatic 75, yJ6_numberOfTrailingZeros_0f7a4, [1]), (.iadd, y0, []), (.ireturn, y0, [])]]
def pX2_nthOfGroup : List Nat := [0, 10, 16, 28, 38]
theorem kX2_nthOfGroup : ab_cks cX2_nthOfGroup 2 (some .int) false 5 pX2_nthOfGroup (fun _ => true) 0 bX2_nthOfGroup = true := by decide +kernel
theorem eX2_nthOfGroup {d mc ms : Nat} {av : List ab_V} {σ : ab_H} {post : ab_O → ab_H → Prop} (hav : (av.all ab_n1 && Nat.ble av.length 5) = true) (h : ∀ At, ab_rule bX2_nthOfGroup d mc ms post At → At 0 (av.map some ++ List.replicate (5 - av.length) none) [] σ 0 0) : ab_call d mc ms yX2_nthOfGroup av σ post :=
  ab_entry (o := 2) (ini := false) (ret := (some .int)) (maxL := 5) (ab_w_in (i := 1167) (by decide +kernel)) (by decide +kernel) (by decide) (by decide +kernel) (by decide +kernel) rfl kX2_nthOfGroup hav h
def bX2_firstRowFrom : List (List ab_I) := [[(.iconst 0, y0, []), (.istore_n 2, y0, [])],
  [(.iload_n 2, y0, []), (.bipush 100, y0, []), (.if_icmp .ge 38, y0, [5])],
  [(.aload_n 0, y0, []), (.getfield 9, y0, [2, 0]), (.iload_n 2, y0, []), (.iaload, y0, []), (.iload_n 2, y0, []), (.iload_n 1, y0, []), (.invokestatic 21, yX2_rowsOfGroup, [2]), (.iconst (-1), y0, []), (.ixor, y0, []), (.iand, y0, []), (.istore_n 3, y0, []), (.iload_n 3, y0, []), (.ifCond .eq 13, y0, [4])],
  [(.iload_n 2, y0, []), (.bipush 15, y0, []), (.imul, y0, []), (.iload_n 3, y0, []), (.invokestatic 75, yJ6_numberOfTrailingZeros_0f7a4, [1]), (.iadd, y0, []), (.ireturn, y0, [])],
  [(.iinc 2 1, y0, []), (.goto (-38), y0, [1])],
  [(.iconst (-1), y0, []), (.ireturn, y0, [])]]
def pX2_firstRowFrom : List Nat := [0, 2, 8, 27, 37, 43, 45]
theorem kX2_firstRowFrom : ab_cks cX2_firstRowFrom 2 (some .int) false 4 pX2_firstRowFrom (fun _ => true) 0 bX2_firstRowFrom = true := by decide +kernel
theorem eX2_firstRowFrom {d mc ms : Nat} {av : List ab_V} {σ : ab_H} {post : ab_O → ab_H → Prop} (hav : (av.all ab_n1 && Nat.ble av.length 4) = true) (h : ∀ At, ab_rule bX2_firstRowFrom d mc ms post At → At 0 (av.map some ++ List.replicate (4 - av.length) none) [] σ 0 0) : ab_call d mc ms yX2_firstRowFrom av σ post :=
  ab_entry (o := 2) (ini := false) (ret := (some .int)) (maxL := 4) (ab_w_in (i := 1072) (by decide +kernel)) (by decide +kernel) (by decide) (by decide +kernel) (by decide +kernel) rfl kX2_firstRowFrom hav h
def bX2_lastRow : List (List ab_I) := [[(.bipush 99, y0, []), (.istore_n 1, y0, [])],
  [(.iload_n 1, y0, []), (.ifCond .lt 36, y0, [5])],
  [(.aload_n 0, y0, []), (.getfield 9, y0, [2, 0]), (.iload_n 1, y0, []), (.iaload, y0, []), (.ifCond .eq 21, y0, [4])],
  [(.iload_n 1, y0, []), (.bipush 15, y0, []), (.imul, y0, []), (.bipush 31, y0, []), (.iadd, y0, []), (.aload_n 0, y0, []), (.getfield 9, y0, [2, 0]), (.iload_n 1, y0, []), (.iaload, y0, []), (.invokestatic 78, yJ6_numberOfLeadingZeros_0f7a4, [1]), (.isub, y0, []), (.ireturn, y0, [])],
  [(.iinc 1 (-1), y0, []), (.goto (-34), y0, [1])],
  [(.iconst (-1), y0, []), (.ireturn, y0, [])]]
def pX2_lastRow : List Nat := [0, 3, 7, 16, 34, 40, 42]
theorem kX2_lastRow : ab_cks cX2_lastRow 2 (some .int) false 2 pX2_lastRow (fun _ => true) 0 bX2_lastRow = true := by decide +kernel
theorem eX2_lastRow {d mc ms : Nat} {av : List ab_V} {σ : ab_H} {post : ab_O → ab_H → Prop} (hav : (av.all ab_n1 && Nat.ble av.length 2) = true) (h : ∀ At, ab_rule bX2_lastRow d mc ms post At → At 0 (av.map some ++ List.replicate (2 - av.length) none) [] σ 0 0) : ab_call d mc ms yX2_lastRow av σ post :=
  ab_entry (o := 2) (ini := false) (ret := (some .int)) (maxL := 2) (ab_w_in (i := 1080) (by decide +kernel)) (by decide +kernel) (by decide) (by decide +kernel) (by decide +kernel) rfl kX2_lastRow hav h
def bX2_stretchCount : List (List ab_I) := [[(.iconst 0, y0, []), (.istore_n 1, y0, []), (.iconst 0, y0, []), (.istore_n 2, y0, []), (.iconst 0, y0, []), (.istore_n 3, y0, [])],
  [(.iload_n 3, y0, []), (.sipush 1500, y0, []), (.if_icmp .ge 31, y0, [6])],
  [(.aload_n 0, y0, []), (.iload_n 3, y0, []), (.invokevirtual 81, yX2_contains, [2, 1]), (.istore 4, y0, []), (.iload 4, y0, []), (.ifCond .eq 10, y0, [5])],
  [(.iload_n 2, y0, []), (.ifCond .ne 6, y0, [5])],
  [(.iinc 1 1, y0, [])],
  [(.iload 4, y0, []), (.istore_n 2, y0, []), (.iinc 3 1, y0, []), (.goto (-32), y0, [1])],
  [(.iload_n 1, y0, []), (.ireturn, y0, [])]]
def pX2_stretchCount : List Nat := [0, 6, 13, 25, 29, 32, 41, 43]
theorem kX2_stretchCount : ab_cks cX2_stretchCount 2 (some .int) false 5 pX2_stretchCount (fun _ => true) 0 bX2_stretchCount = true := by decide +kernel
theorem eX2_stretchCount {d mc ms : Nat} {av : List ab_V} {σ : ab_H} {post : ab_O → ab_H → Prop} (hav : (av.all ab_n1 && Nat.ble av.length 5) = true) (h : ∀ At, ab_rule bX2_stretchCount d mc ms post At → At 0 (av.map some ++ List.replicate (5 - av.length) none) [] σ 0 0) : ab_call d mc ms yX2_stretchCount av σ post :=
  ab_entry (o := 2) (ini := false) (ret := (some .int)) (maxL := 5) (ab_w_in (i := 1087) (by decide +kernel)) (by decide +kernel) (by decide) (by decide +kernel) (by decide +kernel) rfl kX2_stretchCount hav h
def bX2_longestStretch : List (List ab_I) := [[(.iconst 0, y0, []), (.istore_n 1, y0, []), (.iconst 0, y0, []), (.istore_n 2, y0, []), (.iconst 0, y0, []), (.istore_n 3, y0, [])],
  [(.iload_n 3, y0, []), (.sipush 1500, y0, []), (.if_icmp .ge 31, y0, [6])],
  [(.aload_n 0, y0, []), (.iload_n 3, y0, []), (.invokevirtual 81, yX2_contains, [2, 1]), (.ifCond .eq 9, y0, [4])],
  [(.iload_n 2, y0, []), (.iconst 1, y0, []), (.iadd, y0, []), (.goto 4, y0, [5])],
  [(.iconst 0, y0, [])],
  [(.istore_n 2, y0, []), (.iload_n 1, y0, []), (.iload_n 2, y0, []), (.invokestatic 30, y0, [0, 0]), (.istore_n 1, y0, []), (.iinc 3 1, y0, []), (.goto (-32), y0, [1])],
  [(.iload_n 1, y0, []), (.ireturn, y0, [])]]
def pX2_longestStretch : List Nat := [0, 6, 13, 21, 27, 28, 41, 43]
theorem kX2_longestStretch : ab_cks cX2_longestStretch 2 (some .int) false 4 pX2_longestStretch (fun _ => true) 0 bX2_longestStretch = true := by decide +kernel
theorem eX2_longestStretch {d mc ms : Nat} {av : List ab_V} {σ : ab_H} {post : ab_O → ab_H → Prop} (hav : (av.all ab_n1 && Nat.ble av.length 4) = true) (h : ∀ At, ab_rule bX2_longestStretch d mc ms post At → At 0 (av.map some ++ List.replicate (4 - av.length) none) [] σ 0 0) : ab_call d mc ms yX2_longestStretch av σ post :=
  ab_entry (o := 2) (ini := false) (ret := (some .int)) (maxL := 4) (ab_w_in (i := 1091) (by decide +kernel)) (by decide +kernel) (by decide) (by decide +kernel) (by decide +kernel) rfl kX2_longestStretch hav h
def bX2_keepRowsOf : List (List ab_I) := [[(.iconst 0, y0, []), (.istore_n 3, y0, []), (.iconst 0, y0, []), (.istore 4, y0, [])],
  [(.iload 4, y0, []), (.iload_n 2, y0, []), (.if_icmp .ge 32, y0, [5])],
  [(.aload_n 1, y0, []), (.iload 4, y0, []), (.invokevirtual 81, yX2_contains, [2, 1]), (.ifCond .eq 17, y0, [4])],
  [(.aload_n 0, y0, []), (.iload_n 3, y0, []), (.aload_n 0, y0, []), (.iload 4, y0, []), (.invokevirtual 81, yX2_contains, [2, 1]), (.invokevirtual 85, yX2_put, [2, 2]), (.iinc 3 1, y0, [])],
  [(.iinc 4 1, y0, []), (.goto (-32), y0, [1])],
  [(.iload_n 3, y0, []), (.istore 4, y0, [])],
  [(.iload 4, y0, []), (.iload_n 2, y0, []), (.if_icmp .ge 16, y0, [8])],
  [(.aload_n 0, y0, []), (.iload 4, y0, []), (.iconst 0, y0, []), (.invokevirtual 85, yX2_put, [2, 2]), (.iinc 4 1, y0, []), (.goto (-16), y0, [6])],
  [(.return_, y0, [])]]
def pX2_keepRowsOf : List Nat := [0, 5, 11, 20, 34, 40, 43, 49, 62, 63]
theorem kX2_keepRowsOf : ab_cks cX2_keepRowsOf 2 none false 5 pX2_keepRowsOf (fun _ => true) 0 bX2_keepRowsOf = true := by decide +kernel
theorem eX2_keepRowsOf {d mc ms : Nat} {av : List ab_V} {σ : ab_H} {post : ab_O → ab_H → Prop} (hav : (av.all ab_n1 && Nat.ble av.length 5) = true) (h : ∀ At, ab_rule bX2_keepRowsOf d mc ms post At → At 0 (av.map some ++ List.replicate (5 - av.length) none) [] σ 0 0) : ab_call d mc ms yX2_keepRowsOf av σ post :=
  ab_entry (o := 2) (ini := false) (ret := none) (maxL := 5) (ab_w_in (i := 471) (by decide +kernel)) (by decide +kernel) (by decide) (by decide +kernel) (by decide +kernel) rfl kX2_keepRowsOf hav h
def bX3_init : List (List ab_I) := [[(.aload_n 0, y0, []), (.invokespecial 3, y0, [0, 706]), (.aload_n 0, y0, []), (.iload_n 1, y0, []), (.putfield 9, y0, [3, 0]), (.aload_n 0, y0, []), (.iload_n 2, y0, []), (.putfield 15, y0, [3, 1]), (.aload_n 0, y0, []), (.iload_n 3, y0, []), (.putfield 19, y0, [3, 2]), (.aload_n 0, y0, []), (.iload_n 3, y0, []), (.newarray .int, y0, []), (.putfield 22, y0, [3, 3]), (.aload_n 0, y0, []), (.iload_n 3, y0, []), (.newarray .int, y0, []), (.putfield 26, y0, [3, 4]), (.aload_n 0, y0, []), (.iload_n 3, y0, []), (.newarray .int, y0, []), (.putfield 29, y0, [3, 5]), (.aload_n 0, y0, []), (.sipush 1500, y0, []), (.newarray .int, y0, []), (.putfield 32, y0, [3, 7]), (.iconst 1, y0, []), (.istore 5, y0, []), (.iconst 0, y0, []), (.istore 6, y0, []), (.iconst 0, y0, []), (.istore 7, y0, [])],
  [(.iload 7, y0, []), (.iload_n 3, y0, []), (.if_icmp .ge 73, y0, [6])],
  [(.aload_n 0, y0, []), (.getfield 22, y0, [3, 3]), (.iload 7, y0, []), (.aload 4, y0, []), (.iload 7, y0, []), (.iaload, y0, []), (.iastore, y0, []), (.aload_n 0, y0, []), (.getfield 26, y0, [3, 4]), (.iload 7, y0, []), (.iload 5, y0, []), (.iastore, y0, []), (.aload_n 0, y0, []), (.getfield 29, y0, [3, 5]), (.iload 7, y0, []), (.iload 6, y0, []), (.iastore, y0, []), (.iload 5, y0, []), (.aload 4, y0, []), (.iload 7, y0, []), (.iaload, y0, []), (.imul, y0, []), (.istore 5, y0, []), (.iload 6, y0, []), (.iload_n 1, y0, []), (.ifCond .eq 13, y0, [4])],
  [(.aload 4, y0, []), (.iload 7, y0, []), (.iaload, y0, []), (.iconst 1, y0, []), (.isub, y0, []), (.goto 8, y0, [5])],
  [(.aload 4, y0, []), (.iload 7, y0, []), (.iaload, y0, [])],
  [(.iadd, y0, []), (.istore 6, y0, []), (.iinc 7 1, y0, []), (.goto (-73), y0, [1])],
  [(.aload_n 0, y0, []), (.iload 6, y0, []), (.anewarray 35, y0, [0]), (.putfield 37, y0, [3, 6]), (.iconst 0, y0, []), (.istore 7, y0, [])],
  [(.iload 7, y0, []), (.iload 6, y0, []), (.if_icmp .ge 23, y0, [9])],
  [(.aload_n 0, y0, []), (.getfield 37, y0, [3, 6]), (.iload 7, y0, []), (.new 35, y0, [2, 1]), (.dup, y0, []), (.invokespecial 41, yX2_init, [0]), (.aastore, y0, [0]), (.iinc 7 1, y0, []), (.goto (-24), y0, [7])],
  [(.return_, y0, [])]]
def pX3_init : List Nat := [0, 58, 64, 110, 120, 125, 134, 146, 153, 173, 174]
theorem kX3_init : ab_cks cX3_init 3 none true 8 pX3_init (fun _ => true) 0 bX3_init = true := by decide +kernel
theorem eX3_init {d mc ms : Nat} {av : List ab_V} {σ : ab_H} {post : ab_O → ab_H → Prop} (hav : (av.all ab_n1 && Nat.ble av.length 8) = true) (h : ∀ At, ab_rule bX3_init d mc ms post At → At 0 (av.map some ++ List.replicate (8 - av.length) none) [] σ 0 0) : ab_call d mc ms yX3_init av σ post :=
  ab_entry (o := 3) (ini := true) (ret := none) (maxL := 8) (ab_w_in (i := 705) (by decide +kernel)) (by decide +kernel) (by decide) (by decide +kernel) (by decide +kernel) rfl kX3_init hav h
def bX3_hasComponent : List (List ab_I) := [[(.iload_n 1, y0, []), (.iconst 1, y0, []), (.if_icmp .lt 15, y0, [3])],
  [(.iload_n 1, y0, []), (.aload_n 0, y0, []), (.getfield 19, y0, [3, 2]), (.if_icmp .gt 7, y0, [3])],
  [(.iconst 1, y0, []), (.goto 4, y0, [4])],
  [(.iconst 0, y0, [])],
  [(.ireturn, y0, [1])]]
def pX3_hasComponent : List Nat := [0, 5, 13, 17, 18, 19]
theorem kX3_hasComponent : ab_cks cX3_hasComponent 3 (some .boolean) false 2 pX3_hasComponent (fun _ => true) 0 bX3_hasComponent = true := by decide +kernel
theorem eX3_hasComponent {d mc ms : Nat} {av : List ab_V} {σ : ab_H} {post : ab_O → ab_H → Prop} (hav : (av.all ab_n1 && Nat.ble av.length 2) = true) (h : ∀ At, ab_rule bX3_hasComponent d mc ms post At → At 0 (av.map some ++ List.replicate (2 - av.length) none) [] σ 0 0) : ab_call d mc ms yX3_hasComponent av σ post :=
  ab_entry (o := 3) (ini := false) (ret := (some .boolean)) (maxL := 2) (ab_w_in (i := 1045) (by decide +kernel)) (by decide +kernel) (by decide) (by decide +kernel) (by decide +kernel) rfl kX3_hasComponent hav h
def bX3_bitmapsOfPart : List (List ab_I) := [[(.aload_n 0, y0, []), (.getfield 9, y0, [3, 0]), (.ifCond .eq 14, y0, [2])],
  [(.aload_n 0, y0, []), (.getfield 22, y0, [3, 3]), (.iload_n 1, y0, []), (.iaload, y0, []), (.iconst 1, y0, []), (.isub, y0, []), (.goto 9, y0, [3])],
  [(.aload_n 0, y0, []), (.getfield 22, y0, [3, 3]), (.iload_n 1, y0, []), (.iaload, y0, [])],
  [(.ireturn, y0, [])]]
def pX3_bitmapsOfPart : List Nat := [0, 7, 18, 24, 25]
theorem kX3_bitmapsOfPart : ab_cks cX3_bitmapsOfPart 3 (some .int) false 2 pX3_bitmapsOfPart (fun _ => true) 0 bX3_bitmapsOfPart = true := by decide +kernel
theorem eX3_bitmapsOfPart {d mc ms : Nat} {av : List ab_V} {σ : ab_H} {post : ab_O → ab_H → Prop} (hav : (av.all ab_n1 && Nat.ble av.length 2) = true) (h : ∀ At, ab_rule bX3_bitmapsOfPart d mc ms post At → At 0 (av.map some ++ List.replicate (2 - av.length) none) [] σ 0 0) : ab_call d mc ms yX3_bitmapsOfPart av σ post :=
  ab_entry (o := 3) (ini := false) (ret := (some .int)) (maxL := 2) (ab_w_in (i := 463) (by decide +kernel)) (by decide +kernel) (by decide) (by decide +kernel) (by decide +kernel) rfl kX3_bitmapsOfPart hav h
def bX3_bitmapAt : List (List ab_I) := [[(.aload_n 0, y0, []), (.getfield 37, y0, [3, 6]), (.aload_n 0, y0, []), (.getfield 29, y0, [3, 5]), (.iload_n 1, y0, []), (.iaload, y0, []), (.iload_n 2, y0, []), (.iadd, y0, []), (.aaload, y0, [0]), (.areturn, y0, [])]]
def pX3_bitmapAt : List Nat := [0, 14]
theorem kX3_bitmapAt : ab_cks cX3_bitmapAt 3 (some (.object "AlignedRuns$Bitmap")) false 3 pX3_bitmapAt (fun _ => true) 0 bX3_bitmapAt = true := by decide +kernel
theorem eX3_bitmapAt {d mc ms : Nat} {av : List ab_V} {σ : ab_H} {post : ab_O → ab_H → Prop} (hav : (av.all ab_n1 && Nat.ble av.length 3) = true) (h : ∀ At, ab_rule bX3_bitmapAt d mc ms post At → At 0 (av.map some ++ List.replicate (3 - av.length) none) [] σ 0 0) : ab_call d mc ms yX3_bitmapAt av σ post :=
  ab_entry (o := 3) (ini := false) (ret := (some (.object "AlignedRuns$Bitmap"))) (maxL := 3) (ab_w_in (i := 467) (by decide +kernel)) (by decide +kernel) (by decide) (by decide +kernel) (by decide +kernel) rfl kX3_bitmapAt hav h
def bX3_digitOf : List (List ab_I) := [[(.iload_n 2, y0, []), (.aload_n 0, y0, []), (.getfield 26, y0, [3, 4]), (.iload_n 1, y0, []), (.iaload, y0, []), (.idiv, y0, []), (.aload_n 0, y0, []), (.getfield 22, y0, [3, 3]), (.iload_n 1, y0, []), (.iaload, y0, []), (.irem, y0, []), (.ireturn, y0, [])]]
def pX3_digitOf : List Nat := [0, 16]
theorem kX3_digitOf : ab_cks cX3_digitOf 3 (some .int) false 3 pX3_digitOf (fun _ => true) 0 bX3_digitOf = true := by decide +kernel
theorem eX3_digitOf {d mc ms : Nat} {av : List ab_V} {σ : ab_H} {post : ab_O → ab_H → Prop} (hav : (av.all ab_n1 && Nat.ble av.length 3) = true) (h : ∀ At, ab_rule bX3_digitOf d mc ms post At → At 0 (av.map some ++ List.replicate (3 - av.length) none) [] σ 0 0) : ab_call d mc ms yX3_digitOf av σ post :=
  ab_entry (o := 3) (ini := false) (ret := (some .int)) (maxL := 3) (ab_w_in (i := 459) (by decide +kernel)) (by decide +kernel) (by decide) (by decide +kernel) (by decide +kernel) rfl kX3_digitOf hav h
def bX3_isTop : List (List ab_I) := [[(.iload_n 2, y0, []), (.aload_n 0, y0, []), (.getfield 22, y0, [3, 3]), (.iload_n 1, y0, []), (.iaload, y0, []), (.iconst 1, y0, []), (.isub, y0, []), (.if_icmp .ne 7, y0, [2])],
  [(.iconst 1, y0, []), (.goto 4, y0, [3])],
  [(.iconst 0, y0, [])],
  [(.ireturn, y0, [1])]]
def pX3_isTop : List Nat := [0, 12, 16, 17, 18]
theorem kX3_isTop : ab_cks cX3_isTop 3 (some .boolean) false 3 pX3_isTop (fun _ => true) 0 bX3_isTop = true := by decide +kernel
theorem eX3_isTop {d mc ms : Nat} {av : List ab_V} {σ : ab_H} {post : ab_O → ab_H → Prop} (hav : (av.all ab_n1 && Nat.ble av.length 3) = true) (h : ∀ At, ab_rule bX3_isTop d mc ms post At → At 0 (av.map some ++ List.replicate (3 - av.length) none) [] σ 0 0) : ab_call d mc ms yX3_isTop av σ post :=
  ab_entry (o := 3) (ini := false) (ret := (some .boolean)) (maxL := 3) (ab_w_in (i := 931) (by decide +kernel)) (by decide +kernel) (by decide) (by decide +kernel) (by decide +kernel) rfl kX3_isTop hav h
def bX3_wordsOfPart : List (List ab_I) := [[(.iconst 0, y0, []), (.istore_n 3, y0, []), (.iconst 0, y0, []), (.istore 4, y0, [])],
  [(.iload 4, y0, []), (.aload_n 0, y0, []), (.iload_n 1, y0, []), (.invokevirtual 42, yX3_bitmapsOfPart, [3, 1]), (.if_icmp .ge 23, y0, [3])],
  [(.iload_n 3, y0, []), (.aload_n 0, y0, []), (.iload_n 1, y0, []), (.iload 4, y0, []), (.invokevirtual 46, yX3_bitmapAt, [3, 2]), (.iload_n 2, y0, []), (.invokevirtual 50, yX2_wordCount, [2, 1]), (.iadd, y0, []), (.istore_n 3, y0, []), (.iinc 4 1, y0, []), (.goto (-27), y0, [1])],
  [(.iload_n 3, y0, []), (.ireturn, y0, [])]]
def pX3_wordsOfPart : List Nat := [0, 5, 15, 35, 37]
theorem kX3_wordsOfPart : ab_cks cX3_wordsOfPart 3 (some .int) false 5 pX3_wordsOfPart (fun _ => true) 0 bX3_wordsOfPart = true := by decide +kernel
theorem eX3_wordsOfPart {d mc ms : Nat} {av : List ab_V} {σ : ab_H} {post : ab_O → ab_H → Prop} (hav : (av.all ab_n1 && Nat.ble av.length 5) = true) (h : ∀ At, ab_rule bX3_wordsOfPart d mc ms post At → At 0 (av.map some ++ List.replicate (5 - av.length) none) [] σ 0 0) : ab_call d mc ms yX3_wordsOfPart av σ post :=
  ab_entry (o := 3) (ini := false) (ret := (some .int)) (maxL := 5) (ab_w_in (i := 1021) (by decide +kernel)) (by decide +kernel) (by decide) (by decide +kernel) (by decide +kernel) rfl kX3_wordsOfPart hav h
def bX3_wordsOfColumn : List (List ab_I) := [[(.iconst 0, y0, []), (.istore_n 2, y0, []), (.iconst 0, y0, []), (.istore_n 3, y0, [])],
  [(.iload_n 3, y0, []), (.aload_n 0, y0, []), (.getfield 19, y0, [3, 2]), (.if_icmp .ge 18, y0, [3])],
  [(.iload_n 2, y0, []), (.aload_n 0, y0, []), (.iload_n 3, y0, []), (.iload_n 1, y0, []), (.invokevirtual 53, yX3_wordsOfPart, [3, 2]), (.iadd, y0, []), (.istore_n 2, y0, []), (.iinc 3 1, y0, []), (.goto (-20), y0, [1])],
  [(.iload_n 2, y0, []), (.ireturn, y0, [])]]
def pX3_wordsOfColumn : List Nat := [0, 4, 12, 27, 29]
theorem kX3_wordsOfColumn : ab_cks cX3_wordsOfColumn 3 (some .int) false 4 pX3_wordsOfColumn (fun _ => true) 0 bX3_wordsOfColumn = true := by decide +kernel
theorem eX3_wordsOfColumn {d mc ms : Nat} {av : List ab_V} {σ : ab_H} {post : ab_O → ab_H → Prop} (hav : (av.all ab_n1 && Nat.ble av.length 4) = true) (h : ∀ At, ab_rule bX3_wordsOfColumn d mc ms post At → At 0 (av.map some ++ List.replicate (4 - av.length) none) [] σ 0 0) : ab_call d mc ms yX3_wordsOfColumn av σ post :=
  ab_entry (o := 3) (ini := false) (ret := (some .int)) (maxL := 4) (ab_w_in (i := 1017) (by decide +kernel)) (by decide +kernel) (by decide) (by decide +kernel) (by decide +kernel) rfl kX3_wordsOfColumn hav h
def bX3_readingsUpTo : List (List ab_I) := [[(.iload_n 1, y0, []), (.aload_n 0, y0, []), (.getfield 15, y0, [3, 1]), (.iconst 1, y0, []), (.isub, y0, []), (.if_icmp .lt 5, y0, [2])],
  [(.iconst 0, y0, []), (.ireturn, y0, [])],
  [(.iconst 0, y0, []), (.istore_n 2, y0, []), (.iconst 0, y0, []), (.istore_n 3, y0, [])],
  [(.iload_n 3, y0, []), (.aload_n 0, y0, []), (.getfield 19, y0, [3, 2]), (.if_icmp .ge 69, y0, [15])],
  [(.aload_n 0, y0, []), (.iload_n 3, y0, []), (.iload_n 1, y0, []), (.invokevirtual 57, yX3_digitOf, [3, 2]), (.istore 4, y0, []), (.aload_n 0, y0, []), (.getfield 9, y0, [3, 0]), (.ifCond .eq 41, y0, [13])],
  [(.iload_n 2, y0, []), (.aload_n 0, y0, []), (.iload_n 3, y0, []), (.iload 4, y0, []), (.invokevirtual 60, yX3_isTop, [3, 2]), (.ifCond .eq 7, y0, [7])],
  [(.iconst 0, y0, []), (.goto 4, y0, [8])],
  [(.iconst 1, y0, [])],
  [(.iadd, y0, []), (.istore_n 2, y0, []), (.iload_n 2, y0, []), (.iload_n 3, y0, []), (.ifCond .le 12, y0, [11])],
  [(.iload 4, y0, []), (.ifCond .le 7, y0, [11])],
  [(.iconst 1, y0, []), (.goto 4, y0, [12])],
  [(.iconst 0, y0, [])],
  [(.iadd, y0, []), (.istore_n 2, y0, []), (.goto 10, y0, [14])],
  [(.iload_n 2, y0, []), (.iload 4, y0, []), (.iconst 1, y0, []), (.iadd, y0, []), (.iadd, y0, []), (.istore_n 2, y0, [])],
  [(.iinc 3 1, y0, []), (.goto (-71), y0, [3])],
  [(.iload_n 2, y0, []), (.ireturn, y0, [])]]
def pX3_readingsUpTo : List Nat := [0, 10, 12, 16, 24, 39, 50, 54, 55, 62, 67, 71, 72, 77, 84, 90, 92]
theorem kX3_readingsUpTo : ab_cks cX3_readingsUpTo 3 (some .int) false 5 pX3_readingsUpTo (fun _ => true) 0 bX3_readingsUpTo = true := by decide +kernel
theorem eX3_readingsUpTo {d mc ms : Nat} {av : List ab_V} {σ : ab_H} {post : ab_O → ab_H → Prop} (hav : (av.all ab_n1 && Nat.ble av.length 5) = true) (h : ∀ At, ab_rule bX3_readingsUpTo d mc ms post At → At 0 (av.map some ++ List.replicate (5 - av.length) none) [] σ 0 0) : ab_call d mc ms yX3_readingsUpTo av σ post :=
  ab_entry (o := 3) (ini := false) (ret := (some .int)) (maxL := 5) (ab_w_in (i := 1327) (by decide +kernel)) (by decide +kernel) (by decide) (by decide +kernel) (by decide +kernel) rfl kX3_readingsUpTo hav h
def bX3_gatherMasks : List (List ab_I) := [[(.iconst 0, y0, []), (.istore 6, y0, [])],
  [(.iload 6, y0, []), (.aload_n 0, y0, []), (.getfield 22, y0, [3, 3]), (.iload_n 1, y0, []), (.iaload, y0, []), (.if_icmp .ge 15, y0, [3])],
  [(.aload 5, y0, []), (.iload 6, y0, []), (.iconst 0, y0, []), (.iastore, y0, []), (.iinc 6 1, y0, []), (.goto (-20), y0, [1])],
  [(.iconst 0, y0, []), (.istore 6, y0, [])],
  [(.iload 6, y0, []), (.bipush 15, y0, []), (.if_icmp .ge 44, y0, [8])],
  [(.iload_n 2, y0, []), (.bipush 15, y0, []), (.imul, y0, []), (.iload 6, y0, []), (.iadd, y0, []), (.istore 7, y0, []), (.iload 7, y0, []), (.iload_n 3, y0, []), (.if_icmp .ge 23, y0, [7])],
  [(.aload 5, y0, []), (.aload_n 0, y0, []), (.iload_n 1, y0, []), (.aload 4, y0, []), (.iload 7, y0, []), (.iaload, y0, []), (.invokevirtual 57, yX3_digitOf, [3, 2]), (.dup2, y0, []), (.iaload, y0, []), (.iconst 1, y0, []), (.iload 6, y0, []), (.ishl, y0, []), (.ior, y0, []), (.iastore, y0, [])],
  [(.iinc 6 1, y0, []), (.goto (-45), y0, [4])],
  [(.aload_n 0, y0, []), (.getfield 9, y0, [3, 0]), (.ifCond .eq 38, y0, [12])],
  [(.iconst 1, y0, []), (.istore 6, y0, [])],
  [(.iload 6, y0, []), (.aload_n 0, y0, []), (.getfield 22, y0, [3, 3]), (.iload_n 1, y0, []), (.iaload, y0, []), (.if_icmp .ge 24, y0, [12])],
  [(.aload 5, y0, []), (.iload 6, y0, []), (.dup2, y0, []), (.iaload, y0, []), (.aload 5, y0, []), (.iload 6, y0, []), (.iconst 1, y0, []), (.isub, y0, []), (.iaload, y0, []), (.ior, y0, []), (.iastore, y0, []), (.iinc 6 1, y0, []), (.goto (-29), y0, [10])],
  [(.return_, y0, [])]]
def pX3_gatherMasks : List Nat := [0, 3, 14, 26, 29, 36, 51, 71, 77, 84, 87, 98, 119, 120]
theorem kX3_gatherMasks : ab_cks cX3_gatherMasks 3 none false 8 pX3_gatherMasks (fun _ => true) 0 bX3_gatherMasks = true := by decide +kernel
theorem eX3_gatherMasks {d mc ms : Nat} {av : List ab_V} {σ : ab_H} {post : ab_O → ab_H → Prop} (hav : (av.all ab_n1 && Nat.ble av.length 8) = true) (h : ∀ At, ab_rule bX3_gatherMasks d mc ms post At → At 0 (av.map some ++ List.replicate (8 - av.length) none) [] σ 0 0) : ab_call d mc ms yX3_gatherMasks av σ post :=
  ab_entry (o := 3) (ini := false) (ret := none) (maxL := 8) (ab_w_in (i := 455) (by decide +kernel)) (by decide +kernel) (by decide) (by decide +kernel) (by decide +kernel) rfl kX3_gatherMasks hav h
def bX3_regroup : List (List ab_I) := [[(.iload_n 1, y0, []), (.istore 5, y0, [])],
  [(.iload 5, y0, []), (.iload_n 2, y0, []), (.if_icmp .ge 81, y0, [9])],
  [(.iconst 0, y0, []), (.istore 6, y0, [])],
  [(.iload 6, y0, []), (.aload_n 0, y0, []), (.getfield 19, y0, [3, 2]), (.if_icmp .ge 63, y0, [8])],
  [(.aload_n 0, y0, []), (.iload 6, y0, []), (.iload 5, y0, []), (.iload_n 3, y0, []), (.aload_n 0, y0, []), (.getfield 32, y0, [3, 7]), (.aload 4, y0, []), (.invokevirtual 64, yX3_gatherMasks, [3, 5]), (.iconst 0, y0, []), (.istore 7, y0, [])],
  [(.iload 7, y0, []), (.aload_n 0, y0, []), (.iload 6, y0, []), (.invokevirtual 42, yX3_bitmapsOfPart, [3, 1]), (.if_icmp .ge 28, y0, [7])],
  [(.aload_n 0, y0, []), (.iload 6, y0, []), (.iload 7, y0, []), (.invokevirtual 46, yX3_bitmapAt, [3, 2]), (.getfield 68, y0, [2, 0]), (.iload 5, y0, []), (.aload 4, y0, []), (.iload 7, y0, []), (.iaload, y0, []), (.iastore, y0, []), (.iinc 7 1, y0, []), (.goto (-33), y0, [5])],
  [(.iinc 6 1, y0, []), (.goto (-66), y0, [3])],
  [(.iinc 5 1, y0, []), (.goto (-81), y0, [1])],
  [(.return_, y0, [])]]
def pX3_regroup : List Nat := [0, 3, 9, 12, 21, 39, 50, 75, 81, 87, 88]
theorem kX3_regroup : ab_cks cX3_regroup 3 none false 8 pX3_regroup (fun _ => true) 0 bX3_regroup = true := by decide +kernel
theorem eX3_regroup {d mc ms : Nat} {av : List ab_V} {σ : ab_H} {post : ab_O → ab_H → Prop} (hav : (av.all ab_n1 && Nat.ble av.length 8) = true) (h : ∀ At, ab_rule bX3_regroup d mc ms post At → At 0 (av.map some ++ List.replicate (8 - av.length) none) [] σ 0 0) : ab_call d mc ms yX3_regroup av σ post :=
  ab_entry (o := 3) (ini := false) (ret := none) (maxL := 8) (ab_w_in (i := 451) (by decide +kernel)) (by decide +kernel) (by decide) (by decide +kernel) (by decide +kernel) rfl kX3_regroup hav h
def bX3_keepRowsOf : List (List ab_I) := [[(.iconst 0, y0, []), (.istore_n 3, y0, []), (.iconst 0, y0, []), (.istore 4, y0, [])],
  [(.iload 4, y0, []), (.iload_n 2, y0, []), (.if_icmp .ge 34, y0, [5])],
  [(.aload_n 1, y0, []), (.iload 4, y0, []), (.invokevirtual 71, yX2_contains, [2, 1]), (.ifCond .eq 19, y0, [4])],
  [(.aload_n 0, y0, []), (.getfield 32, y0, [3, 7]), (.iload_n 3, y0, []), (.aload_n 0, y0, []), (.getfield 32, y0, [3, 7]), (.iload 4, y0, []), (.iaload, y0, []), (.iastore, y0, []), (.iinc 3 1, y0, [])],
  [(.iinc 4 1, y0, []), (.goto (-34), y0, [1])],
  [(.return_, y0, [])]]
def pX3_keepRowsOf : List Nat := [0, 5, 11, 20, 36, 42, 43]
theorem kX3_keepRowsOf : ab_cks cX3_keepRowsOf 3 none false 5 pX3_keepRowsOf (fun _ => true) 0 bX3_keepRowsOf = true := by decide +kernel
theorem eX3_keepRowsOf {d mc ms : Nat} {av : List ab_V} {σ : ab_H} {post : ab_O → ab_H → Prop} (hav : (av.all ab_n1 && Nat.ble av.length 5) = true) (h : ∀ At, ab_rule bX3_keepRowsOf d mc ms post At → At 0 (av.map some ++ List.replicate (5 - av.length) none) [] σ 0 0) : ab_call d mc ms yX3_keepRowsOf av σ post :=
  ab_entry (o := 3) (ini := false) (ret := none) (maxL := 5) (ab_w_in (i := 443) (by decide +kernel)) (by decide +kernel) (by decide) (by decide +kernel) (by decide +kernel) rfl kX3_keepRowsOf hav h
def bX4_init : List (List ab_I) := [[(.aload_n 0, y0, []), (.invokespecial 3, y0, [0, 261]), (.aload_n 0, y0, []), (.iconst 4, y0, []), (.newarray .int, y0, []), (.putfield 9, y0, [4, 1]), (.aload_n 0, y0, []), (.aload_n 1, y0, []), (.putfield 15, y0, [4, 0]), (.return_, y0, [])]]
def pX4_init : List Nat := [0, 17]
theorem kX4_init : ab_cks cX4_init 4 none true 2 pX4_init (fun _ => true) 0 bX4_init = true := by decide +kernel
theorem eX4_init {d mc ms : Nat} {av : List ab_V} {σ : ab_H} {post : ab_O → ab_H → Prop} (hav : (av.all ab_n1 && Nat.ble av.length 2) = true) (h : ∀ At, ab_rule bX4_init d mc ms post At → At 0 (av.map some ++ List.replicate (2 - av.length) none) [] σ 0 0) : ab_call d mc ms yX4_init av σ post :=
  ab_entry (o := 4) (ini := true) (ret := none) (maxL := 2) (ab_w_in (i := 260) (by decide +kernel)) (by decide +kernel) (by decide) (by decide +kernel) (by decide +kernel) rfl kX4_init hav h
def bX4_readColumn : List (List ab_I) := [[(.aload_n 0, y0, []), (.getfield 15, y0, [4, 0]), (.ldc 19, y0, [0, 0]), (.invokevirtual 21, yX7_readName, [7, 1]), (.istore_n 1, y0, []), (.aload_n 0, y0, []), (.invokevirtual 27, yX4_readBases, [4, 0]), (.aload_n 0, y0, []), (.getfield 15, y0, [4, 0]), (.iconst 2, y0, []), (.sipush 200, y0, []), (.invokevirtual 30, yX7_readNumber, [7, 2]), (.istore_n 2, y0, []), (.aload_n 0, y0, []), (.getfield 15, y0, [4, 0]), (.invokevirtual 34, yX7_isSound, [7, 0]), (.ifCond .eq 26, y0, [3])],
  [(.aload_n 0, y0, []), (.getfield 38, y0, [4, 3]), (.iload_n 2, y0, []), (.if_icmp .ge 18, y0, [3])],
  [(.aload_n 0, y0, []), (.getfield 15, y0, [4, 0]), (.iconst 4, y0, []), (.aload_n 0, y0, []), (.getfield 15, y0, [4, 0]), (.getfield 42, y0, [7, 4]), (.invokevirtual 45, yX7_fail, [7, 2])],
  [(.aload_n 0, y0, []), (.getfield 15, y0, [4, 0]), (.invokevirtual 49, yX7_needEnd, [7, 0]), (.aload_n 0, y0, []), (.getfield 15, y0, [4, 0]), (.invokevirtual 34, yX7_isSound, [7, 0]), (.ifCond .eq 32, y0, [8])],
  [(.new 52, y0, [3, 0, 0, 0, 1, 1, 1, 1, 1]), (.dup, y0, []), (.iload_n 1, y0, []), (.iconst 1, y0, []), (.if_icmp .ne 7, y0, [6])],
  [(.iconst 1, y0, []), (.goto 4, y0, [7])],
  [(.iconst 0, y0, [])],
  [(.iload_n 2, y0, []), (.aload_n 0, y0, []), (.getfield 54, y0, [4, 2]), (.aload_n 0, y0, []), (.getfield 9, y0, [4, 1]), (.invokespecial 57, yX3_init, [4]), (.goto 4, y0, [9])],
  [(.aconst_null, y0, [])],
  [(.areturn, y0, [])]]
def pX4_readColumn : List Nat := [0, 36, 44, 59, 76, 85, 89, 90, 105, 106, 107]
theorem kX4_readColumn : ab_cks cX4_readColumn 4 (some (.object "AlignedRuns$Column")) false 3 pX4_readColumn (fun _ => true) 0 bX4_readColumn = true := by decide +kernel
theorem eX4_readColumn {d mc ms : Nat} {av : List ab_V} {σ : ab_H} {post : ab_O → ab_H → Prop} (hav : (av.all ab_n1 && Nat.ble av.length 3) = true) (h : ∀ At, ab_rule bX4_readColumn d mc ms post At → At 0 (av.map some ++ List.replicate (3 - av.length) none) [] σ 0 0) : ab_call d mc ms yX4_readColumn av σ post :=
  ab_entry (o := 4) (ini := false) (ret := (some (.object "AlignedRuns$Column"))) (maxL := 3) (ab_w_in (i := 610) (by decide +kernel)) (by decide +kernel) (by decide) (by decide +kernel) (by decide +kernel) rfl kX4_readColumn hav h
def bX4_readBases : List (List ab_I) := [[(.aload_n 0, y0, []), (.iconst 0, y0, []), (.putfield 54, y0, [4, 2]), (.aload_n 0, y0, []), (.iconst 1, y0, []), (.putfield 38, y0, [4, 3]), (.aload_n 0, y0, []), (.getfield 15, y0, [4, 0]), (.invokevirtual 34, yX7_isSound, [7, 0]), (.istore_n 1, y0, [])],
  [(.iload_n 1, y0, []), (.ifCond .eq 126, y0, [13])],
  [(.aload_n 0, y0, []), (.getfield 54, y0, [4, 2]), (.iconst 4, y0, []), (.if_icmp .gt 118, y0, [13])],
  [(.aload_n 0, y0, []), (.getfield 54, y0, [4, 2]), (.iconst 4, y0, []), (.if_icmp .ne 28, y0, [6])],
  [(.aload_n 0, y0, []), (.getfield 15, y0, [4, 0]), (.invokevirtual 60, yX7_isDigitNext, [7, 0]), (.ifCond .eq 18, y0, [6])],
  [(.aload_n 0, y0, []), (.getfield 15, y0, [4, 0]), (.iconst 3, y0, []), (.aload_n 0, y0, []), (.getfield 15, y0, [4, 0]), (.getfield 63, y0, [7, 3]), (.invokevirtual 45, yX7_fail, [7, 2])],
  [(.aload_n 0, y0, []), (.getfield 15, y0, [4, 0]), (.iconst 2, y0, []), (.sipush 200, y0, []), (.invokevirtual 30, yX7_readNumber, [7, 2]), (.istore_n 2, y0, []), (.aload_n 0, y0, []), (.getfield 15, y0, [4, 0]), (.invokevirtual 34, yX7_isSound, [7, 0]), (.ifCond .eq 11, y0, [8])],
  [(.aload_n 0, y0, []), (.getfield 54, y0, [4, 2]), (.iconst 4, y0, []), (.if_icmp .lt 4, y0, [9])],
  [(.return_, y0, [])],
  [(.aload_n 0, y0, []), (.getfield 9, y0, [4, 1]), (.aload_n 0, y0, []), (.getfield 54, y0, [4, 2]), (.iload_n 2, y0, []), (.iastore, y0, []), (.aload_n 0, y0, []), (.dup, y0, []), (.getfield 54, y0, [4, 2]), (.iconst 1, y0, []), (.iadd, y0, []), (.putfield 54, y0, [4, 2]), (.aload_n 0, y0, []), (.dup, y0, []), (.getfield 38, y0, [4, 3]), (.iload_n 2, y0, []), (.imul, y0, []), (.putfield 38, y0, [4, 3]), (.aload_n 0, y0, []), (.getfield 15, y0, [4, 0]), (.ldc 66, y0, [0, 1]), (.invokevirtual 21, yX7_readName, [7, 1]), (.ifCond .ne 7, y0, [11])],
  [(.iconst 1, y0, []), (.goto 4, y0, [12])],
  [(.iconst 0, y0, [])],
  [(.istore_n 1, y0, []), (.goto (-124), y0, [1])],
  [(.return_, y0, [])]]
def pX4_readBases : List Nat := [0, 18, 22, 30, 38, 48, 63, 85, 93, 94, 136, 140, 141, 145, 146]
theorem kX4_readBases : ab_cks cX4_readBases 4 none false 3 pX4_readBases (fun _ => true) 0 bX4_readBases = true := by decide +kernel
theorem eX4_readBases {d mc ms : Nat} {av : List ab_V} {σ : ab_H} {post : ab_O → ab_H → Prop} (hav : (av.all ab_n1 && Nat.ble av.length 3) = true) (h : ∀ At, ab_rule bX4_readBases d mc ms post At → At 0 (av.map some ++ List.replicate (3 - av.length) none) [] σ 0 0) : ab_call d mc ms yX4_readBases av σ post :=
  ab_entry (o := 4) (ini := false) (ret := none) (maxL := 3) (ab_w_in (i := 683) (by decide +kernel)) (by decide +kernel) (by decide) (by decide +kernel) (by decide +kernel) rfl kX4_readBases hav h
def bX5_init : List (List ab_I) := [[(.aload_n 0, y0, []), (.invokespecial 3, y0, [0, 290]), (.aload_n 0, y0, []), (.sipush 200, y0, []), (.newarray .int, y0, []), (.putfield 9, y0, [5, 2]), (.aload_n 0, y0, []), (.sipush 200, y0, []), (.newarray .int, y0, []), (.putfield 15, y0, [5, 3]), (.aload_n 0, y0, []), (.sipush 200, y0, []), (.newarray .int, y0, []), (.putfield 18, y0, [5, 4]), (.aload_n 0, y0, []), (.aload_n 1, y0, []), (.putfield 21, y0, [5, 0]), (.aload_n 0, y0, []), (.aload_n 2, y0, []), (.putfield 25, y0, [5, 1]), (.return_, y0, [])]]
def pX5_init : List Nat := [0, 42]
theorem kX5_init : ab_cks cX5_init 5 none true 3 pX5_init (fun _ => true) 0 bX5_init = true := by decide +kernel
theorem eX5_init {d mc ms : Nat} {av : List ab_V} {σ : ab_H} {post : ab_O → ab_H → Prop} (hav : (av.all ab_n1 && Nat.ble av.length 3) = true) (h : ∀ At, ab_rule bX5_init d mc ms post At → At 0 (av.map some ++ List.replicate (3 - av.length) none) [] σ 0 0) : ab_call d mc ms yX5_init av σ post :=
  ab_entry (o := 5) (ini := true) (ret := none) (maxL := 3) (ab_w_in (i := 289) (by decide +kernel)) (by decide +kernel) (by decide) (by decide +kernel) (by decide +kernel) rfl kX5_init hav h
def bX5_isRead : List (List ab_I) := [[(.aload_n 0, y0, []), (.iconst 0, y0, []), (.putfield 29, y0, [5, 5]), (.aload_n 0, y0, []), (.iconst 0, y0, []), (.invokevirtual 33, yX5_readCall, [5, 1]), (.aload_n 0, y0, []), (.getfield 21, y0, [5, 0]), (.invokevirtual 37, yX7_needEnd, [7, 0]), (.aload_n 0, y0, []), (.getfield 21, y0, [5, 0]), (.invokevirtual 42, yX7_isSound, [7, 0]), (.ireturn, y0, [1])]]
def pX5_isRead : List Nat := [0, 25]
theorem kX5_isRead : ab_cks cX5_isRead 5 (some .boolean) false 1 pX5_isRead (fun _ => true) 0 bX5_isRead = true := by decide +kernel
theorem eX5_isRead {d mc ms : Nat} {av : List ab_V} {σ : ab_H} {post : ab_O → ab_H → Prop} (hav : (av.all ab_n1 && Nat.ble av.length 1) = true) (h : ∀ At, ab_rule bX5_isRead d mc ms post At → At 0 (av.map some ++ List.replicate (1 - av.length) none) [] σ 0 0) : ab_call d mc ms yX5_isRead av σ post :=
  ab_entry (o := 5) (ini := false) (ret := (some .boolean)) (maxL := 1) (ab_w_in (i := 831) (by decide +kernel)) (by decide +kernel) (by decide) (by decide +kernel) (by decide +kernel) rfl kX5_isRead hav h
def bX5_becomeComparison : List (List ab_I) := [[(.aload_n 0, y0, []), (.iconst 0, y0, []), (.putfield 29, y0, [5, 5]), (.aload_n 0, y0, []), (.iload_n 1, y0, []), (.iload_n 2, y0, []), (.iload_n 3, y0, []), (.invokevirtual 46, yX5_noteComparison, [5, 3]), (.return_, y0, [])]]
def pX5_becomeComparison : List Nat := [0, 13]
theorem kX5_becomeComparison : ab_cks cX5_becomeComparison 5 none false 4 pX5_becomeComparison (fun _ => true) 0 bX5_becomeComparison = true := by decide +kernel
theorem eX5_becomeComparison {d mc ms : Nat} {av : List ab_V} {σ : ab_H} {post : ab_O → ab_H → Prop} (hav : (av.all ab_n1 && Nat.ble av.length 4) = true) (h : ∀ At, ab_rule bX5_becomeComparison d mc ms post At → At 0 (av.map some ++ List.replicate (4 - av.length) none) [] σ 0 0) : ab_call d mc ms yX5_becomeComparison av σ post :=
  ab_entry (o := 5) (ini := false) (ret := none) (maxL := 4) (ab_w_in (i := 1259) (by decide +kernel)) (by decide +kernel) (by decide) (by decide +kernel) (by decide +kernel) rfl kX5_becomeComparison hav h
def bX5_readCall : List (List ab_I) := [[(.aload_n 0, y0, []), (.getfield 21, y0, [5, 0]), (.ldc 50, y0, [0, 2]), (.invokevirtual 52, yX7_readName, [7, 1]), (.istore_n 2, y0, []), (.aload_n 0, y0, []), (.getfield 21, y0, [5, 0]), (.invokevirtual 42, yX7_isSound, [7, 0]), (.ifCond .eq 35, y0, [4])],
  [(.aload_n 0, y0, []), (.getfield 21, y0, [5, 0]), (.bipush 40, y0, []), (.invokevirtual 56, yX7_isNext, [7, 1]), (.ifCond .eq 23, y0, [4])],
  [(.iload_n 1, y0, []), (.iconst 5, y0, []), (.if_icmp .lt 18, y0, [4])],
  [(.aload_n 0, y0, []), (.getfield 21, y0, [5, 0]), (.iconst 3, y0, []), (.aload_n 0, y0, []), (.getfield 21, y0, [5, 0]), (.getfield 60, y0, [7, 3]), (.invokevirtual 63, yX7_fail, [7, 2])],
  [(.aload_n 0, y0, []), (.getfield 21, y0, [5, 0]), (.bipush 40, y0, []), (.invokevirtual 67, yX7_need, [7, 1]), (.aload_n 0, y0, []), (.getfield 21, y0, [5, 0]), (.invokevirtual 42, yX7_isSound, [7, 0]), (.ifCond .ne 4, y0, [6])],
  [(.return_, y0, [])],
  [(.iload_n 2, y0, []), (.bipush 6, y0, []), (.if_icmp .gt 11, y0, [8])],
  [(.aload_n 0, y0, []), (.iload_n 2, y0, []), (.invokevirtual 70, yX5_readComparison, [5, 1]), (.goto 61, y0, [16])],
  [(.iload_n 2, y0, []), (.bipush 10, y0, []), (.if_icmp .gt 14, y0, [10])],
  [(.aload_n 0, y0, []), (.iload_n 2, y0, []), (.iload_n 1, y0, []), (.iconst 1, y0, []), (.iadd, y0, []), (.invokevirtual 73, yX5_readJoined, [5, 2]), (.goto 44, y0, [16])],
  [(.iload_n 2, y0, []), (.bipush 11, y0, []), (.if_icmp .ne 13, y0, [12])],
  [(.aload_n 0, y0, []), (.iload_n 1, y0, []), (.iconst 1, y0, []), (.iadd, y0, []), (.invokevirtual 76, yX5_readTurned, [5, 1]), (.goto 28, y0, [16])],
  [(.aload_n 0, y0, []), (.iload_n 2, y0, []), (.iconst 0, y0, []), (.iload_n 2, y0, []), (.bipush 14, y0, []), (.if_icmp .ne 15, y0, [14])],
  [(.aload_n 0, y0, []), (.getfield 21, y0, [5, 0]), (.iconst 0, y0, []), (.iconst 5, y0, []), (.invokevirtual 79, yX7_readNumber, [7, 2]), (.goto 4, y0, [15])],
  [(.iconst 0, y0, [])],
  [(.invokevirtual 83, yX5_note, [5, 3])],
  [(.aload_n 0, y0, []), (.getfield 21, y0, [5, 0]), (.bipush 41, y0, []), (.invokevirtual 67, yX7_need, [7, 1]), (.return_, y0, [])]]
def pX5_readCall : List Nat := [0, 20, 32, 37, 52, 71, 72, 78, 86, 92, 103, 109, 119, 128, 140, 141, 144, 154]
theorem kX5_readCall : ab_cks cX5_readCall 5 none false 3 pX5_readCall (fun _ => true) 0 bX5_readCall = true := by decide +kernel
theorem eX5_readCall {d mc ms : Nat} {av : List ab_V} {σ : ab_H} {post : ab_O → ab_H → Prop} (hav : (av.all ab_n1 && Nat.ble av.length 3) = true) (h : ∀ At, ab_rule bX5_readCall d mc ms post At → At 0 (av.map some ++ List.replicate (3 - av.length) none) [] σ 0 0) : ab_call d mc ms yX5_readCall av σ post :=
  ab_entry (o := 5) (ini := false) (ret := none) (maxL := 3) (ab_w_in (i := 835) (by decide +kernel)) (by decide +kernel) (by decide) (by decide +kernel) (by decide +kernel) rfl kX5_readCall hav h
def bX5_readComparison : List (List ab_I) := [[(.aload_n 0, y0, []), (.getfield 21, y0, [5, 0]), (.iconst 0, y0, []), (.aload_n 0, y0, []), (.getfield 25, y0, [5, 1]), (.getfield 86, y0, [6, 7]), (.iconst 1, y0, []), (.isub, y0, []), (.invokevirtual 79, yX7_readNumber, [7, 2]), (.istore_n 2, y0, []), (.aload_n 0, y0, []), (.getfield 21, y0, [5, 0]), (.bipush 44, y0, []), (.invokevirtual 67, yX7_need, [7, 1]), (.aload_n 0, y0, []), (.getfield 21, y0, [5, 0]), (.iconst 0, y0, []), (.sipush 999, y0, []), (.invokevirtual 79, yX7_readNumber, [7, 2]), (.istore_n 3, y0, []), (.iload_n 3, y0, []), (.istore 4, y0, []), (.iload_n 1, y0, []), (.bipush 6, y0, []), (.if_icmp .ne 25, y0, [2])],
  [(.aload_n 0, y0, []), (.getfield 21, y0, [5, 0]), (.bipush 44, y0, []), (.invokevirtual 67, yX7_need, [7, 1]), (.aload_n 0, y0, []), (.getfield 21, y0, [5, 0]), (.iconst 0, y0, []), (.sipush 999, y0, []), (.invokevirtual 79, yX7_readNumber, [7, 2]), (.istore 4, y0, [])],
  [(.aload_n 0, y0, []), (.getfield 21, y0, [5, 0]), (.invokevirtual 42, yX7_isSound, [7, 0]), (.ifCond .ne 4, y0, [4])],
  [(.return_, y0, [])],
  [(.iload_n 1, y0, []), (.bipush 6, y0, []), (.if_icmp .ne 14, y0, [6])],
  [(.aload_n 0, y0, []), (.iload_n 2, y0, []), (.iload_n 3, y0, []), (.iload 4, y0, []), (.invokevirtual 91, yX5_noteBetween, [5, 3]), (.goto 10, y0, [7])],
  [(.aload_n 0, y0, []), (.iload_n 1, y0, []), (.iload_n 2, y0, []), (.iload_n 3, y0, []), (.invokevirtual 46, yX5_noteComparison, [5, 3])],
  [(.return_, y0, [])]]
def pX5_readComparison : List Nat := [0, 48, 70, 80, 81, 87, 98, 105, 106]
theorem kX5_readComparison : ab_cks cX5_readComparison 5 none false 5 pX5_readComparison (fun _ => true) 0 bX5_readComparison = true := by decide +kernel
theorem eX5_readComparison {d mc ms : Nat} {av : List ab_V} {σ : ab_H} {post : ab_O → ab_H → Prop} (hav : (av.all ab_n1 && Nat.ble av.length 5) = true) (h : ∀ At, ab_rule bX5_readComparison d mc ms post At → At 0 (av.map some ++ List.replicate (5 - av.length) none) [] σ 0 0) : ab_call d mc ms yX5_readComparison av σ post :=
  ab_entry (o := 5) (ini := false) (ret := none) (maxL := 5) (ab_w_in (i := 852) (by decide +kernel)) (by decide +kernel) (by decide) (by decide +kernel) (by decide +kernel) rfl kX5_readComparison hav h
def bX5_readJoined : List (List ab_I) := [[(.iload_n 1, y0, []), (.bipush 7, y0, []), (.if_icmp .eq 9, y0, [2])],
  [(.iload_n 1, y0, []), (.bipush 8, y0, []), (.if_icmp .ne 7, y0, [3])],
  [(.iconst 1, y0, []), (.goto 4, y0, [4])],
  [(.iconst 0, y0, [])],
  [(.istore_n 3, y0, []), (.iload_n 3, y0, []), (.ifCond .eq 7, y0, [6])],
  [(.iconst 4, y0, []), (.goto 4, y0, [7])],
  [(.iconst 2, y0, [])],
  [(.istore 4, y0, []), (.aload_n 0, y0, []), (.iload_n 2, y0, []), (.invokevirtual 33, yX5_readCall, [5, 1]), (.iconst 1, y0, []), (.istore 5, y0, [])],
  [(.iload 5, y0, []), (.iload 4, y0, []), (.if_icmp .ge 58, y0, [13])],
  [(.aload_n 0, y0, []), (.getfield 21, y0, [5, 0]), (.invokevirtual 42, yX7_isSound, [7, 0]), (.ifCond .eq 48, y0, [13])],
  [(.iload 5, y0, []), (.iconst 1, y0, []), (.if_icmp .eq 15, y0, [12])],
  [(.aload_n 0, y0, []), (.getfield 21, y0, [5, 0]), (.bipush 44, y0, []), (.invokevirtual 56, yX7_isNext, [7, 1]), (.ifCond .eq 30, y0, [13])],
  [(.aload_n 0, y0, []), (.getfield 21, y0, [5, 0]), (.bipush 44, y0, []), (.invokevirtual 67, yX7_need, [7, 1]), (.aload_n 0, y0, []), (.iload_n 2, y0, []), (.invokevirtual 33, yX5_readCall, [5, 1]), (.aload_n 0, y0, []), (.iload_n 1, y0, []), (.iconst 0, y0, []), (.iconst 0, y0, []), (.invokevirtual 83, yX5_note, [5, 3]), (.iinc 5 1, y0, []), (.goto (-59), y0, [8])],
  [(.iload_n 3, y0, []), (.ifCond .eq 40, y0, [17])],
  [(.aload_n 0, y0, []), (.getfield 21, y0, [5, 0]), (.invokevirtual 42, yX7_isSound, [7, 0]), (.ifCond .eq 30, y0, [17])],
  [(.aload_n 0, y0, []), (.getfield 21, y0, [5, 0]), (.bipush 44, y0, []), (.invokevirtual 56, yX7_isNext, [7, 1]), (.ifCond .eq 18, y0, [17])],
  [(.aload_n 0, y0, []), (.getfield 21, y0, [5, 0]), (.iconst 3, y0, []), (.aload_n 0, y0, []), (.getfield 21, y0, [5, 0]), (.getfield 60, y0, [7, 3]), (.invokevirtual 63, yX7_fail, [7, 2])],
  [(.return_, y0, [])]]
def pX5_readJoined : List Nat := [0, 6, 12, 16, 17, 22, 26, 27, 37, 44, 54, 60, 72, 99, 103, 113, 125, 140, 141]
theorem kX5_readJoined : ab_cks cX5_readJoined 5 none false 6 pX5_readJoined (fun _ => true) 0 bX5_readJoined = true := by decide +kernel
theorem eX5_readJoined {d mc ms : Nat} {av : List ab_V} {σ : ab_H} {post : ab_O → ab_H → Prop} (hav : (av.all ab_n1 && Nat.ble av.length 6) = true) (h : ∀ At, ab_rule bX5_readJoined d mc ms post At → At 0 (av.map some ++ List.replicate (6 - av.length) none) [] σ 0 0) : ab_call d mc ms yX5_readJoined av σ post :=
  ab_entry (o := 5) (ini := false) (ret := none) (maxL := 6) (ab_w_in (i := 877) (by decide +kernel)) (by decide +kernel) (by decide) (by decide +kernel) (by decide +kernel) rfl kX5_readJoined hav h
def bX5_readTurned : List (List ab_I) := [[(.aload_n 0, y0, []), (.iload_n 1, y0, []), (.invokevirtual 33, yX5_readCall, [5, 1]), (.aload_n 0, y0, []), (.bipush 11, y0, []), (.iconst 0, y0, []), (.iconst 0, y0, []), (.invokevirtual 83, yX5_note, [5, 3]), (.return_, y0, [])]]
def pX5_readTurned : List Nat := [0, 14]
theorem kX5_readTurned : ab_cks cX5_readTurned 5 none false 2 pX5_readTurned (fun _ => true) 0 bX5_readTurned = true := by decide +kernel
theorem eX5_readTurned {d mc ms : Nat} {av : List ab_V} {σ : ab_H} {post : ab_O → ab_H → Prop} (hav : (av.all ab_n1 && Nat.ble av.length 2) = true) (h : ∀ At, ab_rule bX5_readTurned d mc ms post At → At 0 (av.map some ++ List.replicate (2 - av.length) none) [] σ 0 0) : ab_call d mc ms yX5_readTurned av σ post :=
  ab_entry (o := 5) (ini := false) (ret := none) (maxL := 2) (ab_w_in (i := 881) (by decide +kernel)) (by decide +kernel) (by decide) (by decide +kernel) (by decide +kernel) rfl kX5_readTurned hav h
def bX5_noteComparison : List (List ab_I) := [[(.iload_n 1, y0, []), (.tableswitch 51 0 3 #[31, 40, 40, 31], y0, [3, 1, 2, 2, 1])],
  [(.aload_n 0, y0, []), (.iload_n 2, y0, []), (.iload_n 3, y0, []), (.invokevirtual 94, yX5_noteUpTo, [5, 2]), (.goto 20, y0, [4])],
  [(.aload_n 0, y0, []), (.iload_n 2, y0, []), (.iload_n 3, y0, []), (.iconst 1, y0, []), (.isub, y0, []), (.invokevirtual 94, yX5_noteUpTo, [5, 2]), (.goto 9, y0, [4])],
  [(.aload_n 0, y0, []), (.iload_n 2, y0, []), (.iload_n 3, y0, []), (.invokevirtual 97, yX5_noteEqual, [5, 2])],
  [(.iload_n 1, y0, []), (.iconst 2, y0, []), (.if_icmp .eq 13, y0, [7])],
  [(.iload_n 1, y0, []), (.iconst 3, y0, []), (.if_icmp .eq 8, y0, [7])],
  [(.iload_n 1, y0, []), (.iconst 5, y0, []), (.if_icmp .ne 11, y0, [8])],
  [(.aload_n 0, y0, []), (.bipush 11, y0, []), (.iconst 0, y0, []), (.iconst 0, y0, []), (.invokevirtual 83, yX5_note, [5, 3])],
  [(.return_, y0, [])]]
def pX5_noteComparison : List Nat := [0, 32, 41, 52, 58, 63, 68, 73, 81, 82]
theorem kX5_noteComparison : ab_cks cX5_noteComparison 5 none false 4 pX5_noteComparison (fun _ => true) 0 bX5_noteComparison = true := by decide +kernel
theorem eX5_noteComparison {d mc ms : Nat} {av : List ab_V} {σ : ab_H} {post : ab_O → ab_H → Prop} (hav : (av.all ab_n1 && Nat.ble av.length 4) = true) (h : ∀ At, ab_rule bX5_noteComparison d mc ms post At → At 0 (av.map some ++ List.replicate (4 - av.length) none) [] σ 0 0) : ab_call d mc ms yX5_noteComparison av σ post :=
  ab_entry (o := 5) (ini := false) (ret := none) (maxL := 4) (ab_w_in (i := 869) (by decide +kernel)) (by decide +kernel) (by decide) (by decide +kernel) (by decide +kernel) rfl kX5_noteComparison hav h
def bX5_noteBetween : List (List ab_I) := [[(.iload_n 2, y0, []), (.iload_n 3, y0, []), (.if_icmp .le 12, y0, [2])],
  [(.aload_n 0, y0, []), (.bipush 13, y0, []), (.iconst 0, y0, []), (.iconst 0, y0, []), (.invokevirtual 83, yX5_note, [5, 3]), (.return_, y0, [])],
  [(.aload_n 0, y0, []), (.iload_n 1, y0, []), (.iload_n 3, y0, []), (.invokevirtual 94, yX5_noteUpTo, [5, 2]), (.iload_n 2, y0, []), (.ifCond .le 19, y0, [4])],
  [(.aload_n 0, y0, []), (.iload_n 1, y0, []), (.iload_n 2, y0, []), (.iconst 1, y0, []), (.isub, y0, []), (.invokevirtual 94, yX5_noteUpTo, [5, 2]), (.aload_n 0, y0, []), (.bipush 10, y0, []), (.iconst 0, y0, []), (.iconst 0, y0, []), (.invokevirtual 83, yX5_note, [5, 3])],
  [(.return_, y0, [])]]
def pX5_noteBetween : List Nat := [0, 5, 14, 24, 40, 41]
theorem kX5_noteBetween : ab_cks cX5_noteBetween 5 none false 4 pX5_noteBetween (fun _ => true) 0 bX5_noteBetween = true := by decide +kernel
theorem eX5_noteBetween {d mc ms : Nat} {av : List ab_V} {σ : ab_H} {post : ab_O → ab_H → Prop} (hav : (av.all ab_n1 && Nat.ble av.length 4) = true) (h : ∀ At, ab_rule bX5_noteBetween d mc ms post At → At 0 (av.map some ++ List.replicate (4 - av.length) none) [] σ 0 0) : ab_call d mc ms yX5_noteBetween av σ post :=
  ab_entry (o := 5) (ini := false) (ret := none) (maxL := 4) (ab_w_in (i := 857) (by decide +kernel)) (by decide +kernel) (by decide) (by decide +kernel) (by decide +kernel) rfl kX5_noteBetween hav h
def bX5_noteUpTo : List (List ab_I) := [[(.iload_n 2, y0, []), (.ifCond .ge 14, y0, [2])],
  [(.aload_n 0, y0, []), (.bipush 13, y0, []), (.iconst 0, y0, []), (.iconst 0, y0, []), (.invokevirtual 83, yX5_note, [5, 3]), (.goto 39, y0, [5])],
  [(.iload_n 2, y0, []), (.aload_n 0, y0, []), (.getfield 25, y0, [5, 1]), (.getfield 100, y0, [6, 0]), (.iload_n 1, y0, []), (.aaload, y0, [1]), (.getfield 103, y0, [3, 1]), (.iconst 1, y0, []), (.isub, y0, []), (.if_icmp .lt 14, y0, [4])],
  [(.aload_n 0, y0, []), (.bipush 12, y0, []), (.iconst 0, y0, []), (.iconst 0, y0, []), (.invokevirtual 83, yX5_note, [5, 3]), (.goto 10, y0, [5])],
  [(.aload_n 0, y0, []), (.iconst 0, y0, []), (.iload_n 1, y0, []), (.iload_n 2, y0, []), (.invokevirtual 83, yX5_note, [5, 3])],
  [(.return_, y0, [])]]
def pX5_noteUpTo : List Nat := [0, 4, 15, 33, 44, 51, 52]
theorem kX5_noteUpTo : ab_cks cX5_noteUpTo 5 none false 3 pX5_noteUpTo (fun _ => true) 0 bX5_noteUpTo = true := by decide +kernel
theorem eX5_noteUpTo {d mc ms : Nat} {av : List ab_V} {σ : ab_H} {post : ab_O → ab_H → Prop} (hav : (av.all ab_n1 && Nat.ble av.length 3) = true) (h : ∀ At, ab_rule bX5_noteUpTo d mc ms post At → At 0 (av.map some ++ List.replicate (3 - av.length) none) [] σ 0 0) : ab_call d mc ms yX5_noteUpTo av σ post :=
  ab_entry (o := 5) (ini := false) (ret := none) (maxL := 3) (ab_w_in (i := 865) (by decide +kernel)) (by decide +kernel) (by decide) (by decide +kernel) (by decide +kernel) rfl kX5_noteUpTo hav h
def bX5_noteEqual : List (List ab_I) := [[(.aload_n 0, y0, []), (.iload_n 2, y0, []), (.aload_n 0, y0, []), (.getfield 25, y0, [5, 1]), (.getfield 100, y0, [6, 0]), (.iload_n 1, y0, []), (.aaload, y0, [1]), (.getfield 103, y0, [3, 1]), (.if_icmp .ge 7, y0, [2])],
  [(.iconst 4, y0, []), (.goto 5, y0, [3])],
  [(.bipush 13, y0, [])],
  [(.iload_n 1, y0, []), (.iload_n 2, y0, []), (.invokevirtual 83, yX5_note, [5, 3]), (.return_, y0, [])]]
def pX5_noteEqual : List Nat := [0, 17, 21, 23, 29]
theorem kX5_noteEqual : ab_cks cX5_noteEqual 5 none false 3 pX5_noteEqual (fun _ => true) 0 bX5_noteEqual = true := by decide +kernel
theorem eX5_noteEqual {d mc ms : Nat} {av : List ab_V} {σ : ab_H} {post : ab_O → ab_H → Prop} (hav : (av.all ab_n1 && Nat.ble av.length 3) = true) (h : ∀ At, ab_rule bX5_noteEqual d mc ms post At → At 0 (av.map some ++ List.replicate (3 - av.length) none) [] σ 0 0) : ab_call d mc ms yX5_noteEqual av σ post :=
  ab_entry (o := 5) (ini := false) (ret := none) (maxL := 3) (ab_w_in (i := 873) (by decide +kernel)) (by decide +kernel) (by decide) (by decide +kernel) (by decide +kernel) rfl kX5_noteEqual hav h
def bX5_note : List (List ab_I) := [[(.aload_n 0, y0, []), (.getfield 29, y0, [5, 5]), (.sipush 200, y0, []), (.if_icmp .ge 43, y0, [2])],
  [(.aload_n 0, y0, []), (.getfield 9, y0, [5, 2]), (.aload_n 0, y0, []), (.getfield 29, y0, [5, 5]), (.iload_n 1, y0, []), (.iastore, y0, []), (.aload_n 0, y0, []), (.getfield 15, y0, [5, 3]), (.aload_n 0, y0, []), (.getfield 29, y0, [5, 5]), (.iload_n 2, y0, []), (.iastore, y0, []), (.aload_n 0, y0, []), (.getfield 18, y0, [5, 4]), (.aload_n 0, y0, []), (.getfield 29, y0, [5, 5]), (.iload_n 3, y0, []), (.iastore, y0, []), (.aload_n 0, y0, []), (.dup, y0, []), (.getfield 29, y0, [5, 5]), (.iconst 1, y0, []), (.iadd, y0, []), (.putfield 29, y0, [5, 5])],
  [(.return_, y0, [])]]
def pX5_note : List Nat := [0, 10, 50, 51]
theorem kX5_note : ab_cks cX5_note 5 none false 4 pX5_note (fun _ => true) 0 bX5_note = true := by decide +kernel
theorem eX5_note {d mc ms : Nat} {av : List ab_V} {σ : ab_H} {post : ab_O → ab_H → Prop} (hav : (av.all ab_n1 && Nat.ble av.length 4) = true) (h : ∀ At, ab_rule bX5_note d mc ms post At → At 0 (av.map some ++ List.replicate (4 - av.length) none) [] σ 0 0) : ab_call d mc ms yX5_note av σ post :=
  ab_entry (o := 5) (ini := false) (ret := none) (maxL := 4) (ab_w_in (i := 861) (by decide +kernel)) (by decide +kernel) (by decide) (by decide +kernel) (by decide +kernel) rfl kX5_note hav h
def bX6_init : List (List ab_I) := [[(.aload_n 0, y0, []), (.invokespecial 3, y0, [0, 201]), (.aload_n 0, y0, []), (.iconst 4, y0, []), (.anewarray 9, y0, [1]), (.putfield 11, y0, [6, 0]), (.aload_n 0, y0, []), (.bipush 7, y0, []), (.anewarray 17, y0, [0]), (.putfield 19, y0, [6, 1]), (.aload_n 0, y0, []), (.new 17, y0, [2, 1]), (.dup, y0, []), (.invokespecial 23, yX2_init, [0]), (.putfield 24, y0, [6, 2]), (.aload_n 0, y0, []), (.sipush 200, y0, []), (.newarray .int, y0, []), (.putfield 28, y0, [6, 3]), (.aload_n 0, y0, []), (.sipush 1500, y0, []), (.newarray .int, y0, []), (.putfield 32, y0, [6, 4]), (.aload_n 0, y0, []), (.sipush 200, y0, []), (.newarray .int, y0, []), (.putfield 35, y0, [6, 5]), (.aload_n 0, y0, []), (.sipush 200, y0, []), (.newarray .int, y0, []), (.putfield 38, y0, [6, 6]), (.iconst 0, y0, []), (.istore_n 1, y0, [])],
  [(.iload_n 1, y0, []), (.aload_n 0, y0, []), (.getfield 19, y0, [6, 1]), (.arraylength, y0, [1, 0]), (.if_icmp .ge 22, y0, [3])],
  [(.aload_n 0, y0, []), (.getfield 19, y0, [6, 1]), (.iload_n 1, y0, []), (.new 17, y0, [2, 1]), (.dup, y0, []), (.invokespecial 23, yX2_init, [0]), (.aastore, y0, [0]), (.iinc 1 1, y0, []), (.goto (-25), y0, [1])],
  [(.return_, y0, [])]]
def pX6_init : List Nat := [0, 70, 79, 98, 99]
theorem kX6_init : ab_cks cX6_init 6 none true 2 pX6_init (fun _ => true) 0 bX6_init = true := by decide +kernel
theorem eX6_init {d mc ms : Nat} {av : List ab_V} {σ : ab_H} {post : ab_O → ab_H → Prop} (hav : (av.all ab_n1 && Nat.ble av.length 2) = true) (h : ∀ At, ab_rule bX6_init d mc ms post At → At 0 (av.map some ++ List.replicate (2 - av.length) none) [] σ 0 0) : ab_call d mc ms yX6_init av σ post :=
  ab_entry (o := 6) (ini := true) (ret := none) (maxL := 2) (ab_w_in (i := 200) (by decide +kernel)) (by decide +kernel) (by decide) (by decide +kernel) (by decide +kernel) rfl kX6_init hav h
def bX6_live : List (List ab_I) := [[(.aload_n 0, y0, []), (.getfield 19, y0, [6, 1]), (.bipush 6, y0, []), (.aaload, y0, [0]), (.areturn, y0, [])]]
def pX6_live : List Nat := [0, 8]
theorem kX6_live : ab_cks cX6_live 6 (some (.object "AlignedRuns$Bitmap")) false 1 pX6_live (fun _ => true) 0 bX6_live = true := by decide +kernel
theorem eX6_live {d mc ms : Nat} {av : List ab_V} {σ : ab_H} {post : ab_O → ab_H → Prop} (hav : (av.all ab_n1 && Nat.ble av.length 1) = true) (h : ∀ At, ab_rule bX6_live d mc ms post At → At 0 (av.map some ++ List.replicate (1 - av.length) none) [] σ 0 0) : ab_call d mc ms yX6_live av σ post :=
  ab_entry (o := 6) (ini := false) (ret := (some (.object "AlignedRuns$Bitmap"))) (maxL := 1) (ab_w_in (i := 425) (by decide +kernel)) (by decide +kernel) (by decide) (by decide +kernel) (by decide +kernel) rfl kX6_live hav h
def bX6_hasRow : List (List ab_I) := [[(.iload_n 1, y0, []), (.ifCond .lt 15, y0, [3])],
  [(.iload_n 1, y0, []), (.aload_n 0, y0, []), (.getfield 41, y0, [6, 8]), (.if_icmp .ge 7, y0, [3])],
  [(.iconst 1, y0, []), (.goto 4, y0, [4])],
  [(.iconst 0, y0, [])],
  [(.ireturn, y0, [1])]]
def pX6_hasRow : List Nat := [0, 4, 12, 16, 17, 18]
theorem kX6_hasRow : ab_cks cX6_hasRow 6 (some .boolean) false 2 pX6_hasRow (fun _ => true) 0 bX6_hasRow = true := by decide +kernel
theorem eX6_hasRow {d mc ms : Nat} {av : List ab_V} {σ : ab_H} {post : ab_O → ab_H → Prop} (hav : (av.all ab_n1 && Nat.ble av.length 2) = true) (h : ∀ At, ab_rule bX6_hasRow d mc ms post At → At 0 (av.map some ++ List.replicate (2 - av.length) none) [] σ 0 0) : ab_call d mc ms yX6_hasRow av σ post :=
  ab_entry (o := 6) (ini := false) (ret := (some .boolean)) (maxL := 2) (ab_w_in (i := 793) (by decide +kernel)) (by decide +kernel) (by decide) (by decide +kernel) (by decide +kernel) rfl kX6_hasRow hav h
def bX6_groupsUsed : List (List ab_I) := [[(.aload_n 0, y0, []), (.getfield 41, y0, [6, 8]), (.bipush 15, y0, []), (.iadd, y0, []), (.iconst 1, y0, []), (.isub, y0, []), (.bipush 15, y0, []), (.idiv, y0, []), (.ireturn, y0, [])]]
def pX6_groupsUsed : List Nat := [0, 13]
theorem kX6_groupsUsed : ab_cks cX6_groupsUsed 6 (some .int) false 1 pX6_groupsUsed (fun _ => true) 0 bX6_groupsUsed = true := by decide +kernel
theorem eX6_groupsUsed {d mc ms : Nat} {av : List ab_V} {σ : ab_H} {post : ab_O → ab_H → Prop} (hav : (av.all ab_n1 && Nat.ble av.length 1) = true) (h : ∀ At, ab_rule bX6_groupsUsed d mc ms post At → At 0 (av.map some ++ List.replicate (1 - av.length) none) [] σ 0 0) : ab_call d mc ms yX6_groupsUsed av σ post :=
  ab_entry (o := 6) (ini := false) (ret := (some .int)) (maxL := 1) (ab_w_in (i := 439) (by decide +kernel)) (by decide +kernel) (by decide) (by decide +kernel) (by decide +kernel) rfl kX6_groupsUsed hav h
def bX6_addColumn : List (List ab_I) := [[(.aload_n 0, y0, []), (.getfield 11, y0, [6, 0]), (.aload_n 0, y0, []), (.getfield 45, y0, [6, 7]), (.aload_n 1, y0, []), (.aastore, y0, [1]), (.aload_n 0, y0, []), (.dup, y0, []), (.getfield 45, y0, [6, 7]), (.iconst 1, y0, []), (.iadd, y0, []), (.putfield 45, y0, [6, 7]), (.aload_n 0, y0, []), (.getfield 45, y0, [6, 7]), (.iconst 1, y0, []), (.isub, y0, []), (.ireturn, y0, [])]]
def pX6_addColumn : List Nat := [0, 27]
theorem kX6_addColumn : ab_cks cX6_addColumn 6 (some .int) false 2 pX6_addColumn (fun _ => true) 0 bX6_addColumn = true := by decide +kernel
theorem eX6_addColumn {d mc ms : Nat} {av : List ab_V} {σ : ab_H} {post : ab_O → ab_H → Prop} (hav : (av.all ab_n1 && Nat.ble av.length 2) = true) (h : ∀ At, ab_rule bX6_addColumn d mc ms post At → At 0 (av.map some ++ List.replicate (2 - av.length) none) [] σ 0 0) : ab_call d mc ms yX6_addColumn av σ post :=
  ab_entry (o := 6) (ini := false) (ret := (some .int)) (maxL := 2) (ab_w_in (i := 754) (by decide +kernel)) (by decide +kernel) (by decide) (by decide +kernel) (by decide +kernel) rfl kX6_addColumn hav h
def bX6_bitmapCount : List (List ab_I) := [[(.iconst 0, y0, []), (.istore_n 1, y0, []), (.iconst 0, y0, []), (.istore_n 2, y0, [])],
  [(.iload_n 2, y0, []), (.aload_n 0, y0, []), (.getfield 45, y0, [6, 7]), (.if_icmp .ge 22, y0, [3])],
  [(.iload_n 1, y0, []), (.aload_n 0, y0, []), (.getfield 11, y0, [6, 0]), (.iload_n 2, y0, []), (.aaload, y0, [1]), (.getfield 48, y0, [3, 6]), (.arraylength, y0, [1, 0]), (.iadd, y0, []), (.istore_n 1, y0, []), (.iinc 2 1, y0, []), (.goto (-24), y0, [1])],
  [(.iload_n 1, y0, []), (.ireturn, y0, [])]]
def pX6_bitmapCount : List Nat := [0, 4, 12, 31, 33]
theorem kX6_bitmapCount : ab_cks cX6_bitmapCount 6 (some .int) false 3 pX6_bitmapCount (fun _ => true) 0 bX6_bitmapCount = true := by decide +kernel
theorem eX6_bitmapCount {d mc ms : Nat} {av : List ab_V} {σ : ab_H} {post : ab_O → ab_H → Prop} (hav : (av.all ab_n1 && Nat.ble av.length 3) = true) (h : ∀ At, ab_rule bX6_bitmapCount d mc ms post At → At 0 (av.map some ++ List.replicate (3 - av.length) none) [] σ 0 0) : ab_call d mc ms yX6_bitmapCount av σ post :=
  ab_entry (o := 6) (ini := false) (ret := (some .int)) (maxL := 3) (ab_w_in (i := 1009) (by decide +kernel)) (by decide +kernel) (by decide) (by decide +kernel) (by decide +kernel) rfl kX6_bitmapCount hav h
def bX6_wordsOfAll : List (List ab_I) := [[(.iconst 0, y0, []), (.istore_n 1, y0, []), (.iconst 0, y0, []), (.istore_n 2, y0, [])],
  [(.iload_n 2, y0, []), (.aload_n 0, y0, []), (.getfield 45, y0, [6, 7]), (.if_icmp .ge 25, y0, [3])],
  [(.iload_n 1, y0, []), (.aload_n 0, y0, []), (.getfield 11, y0, [6, 0]), (.iload_n 2, y0, []), (.aaload, y0, [1]), (.aload_n 0, y0, []), (.invokevirtual 51, yX6_groupsUsed, [6, 0]), (.invokevirtual 55, yX3_wordsOfColumn, [3, 1]), (.iadd, y0, []), (.istore_n 1, y0, []), (.iinc 2 1, y0, []), (.goto (-27), y0, [1])],
  [(.iload_n 1, y0, []), (.ireturn, y0, [])]]
def pX6_wordsOfAll : List Nat := [0, 4, 12, 34, 36]
theorem kX6_wordsOfAll : ab_cks cX6_wordsOfAll 6 (some .int) false 3 pX6_wordsOfAll (fun _ => true) 0 bX6_wordsOfAll = true := by decide +kernel
theorem eX6_wordsOfAll {d mc ms : Nat} {av : List ab_V} {σ : ab_H} {post : ab_O → ab_H → Prop} (hav : (av.all ab_n1 && Nat.ble av.length 3) = true) (h : ∀ At, ab_rule bX6_wordsOfAll d mc ms post At → At 0 (av.map some ++ List.replicate (3 - av.length) none) [] σ 0 0) : ab_call d mc ms yX6_wordsOfAll av σ post :=
  ab_entry (o := 6) (ini := false) (ret := (some .int)) (maxL := 3) (ab_w_in (i := 1013) (by decide +kernel)) (by decide +kernel) (by decide) (by decide +kernel) (by decide +kernel) rfl kX6_wordsOfAll hav h
def bX6_fits : List (List ab_I) := [[(.iconst 0, y0, []), (.istore_n 2, y0, [])],
  [(.iload_n 2, y0, []), (.aload_n 0, y0, []), (.getfield 45, y0, [6, 7]), (.if_icmp .ge 32, y0, [6])],
  [(.aload_n 1, y0, []), (.iload_n 2, y0, []), (.iaload, y0, []), (.ifCond .lt 18, y0, [4])],
  [(.aload_n 1, y0, []), (.iload_n 2, y0, []), (.iaload, y0, []), (.aload_n 0, y0, []), (.getfield 11, y0, [6, 0]), (.iload_n 2, y0, []), (.aaload, y0, [1]), (.getfield 59, y0, [3, 1]), (.if_icmp .lt 5, y0, [5])],
  [(.iconst 0, y0, []), (.ireturn, y0, [1])],
  [(.iinc 2 1, y0, []), (.goto (-34), y0, [1])],
  [(.iconst 1, y0, []), (.ireturn, y0, [1])]]
def pX6_fits : List Nat := [0, 2, 10, 16, 31, 33, 39, 41]
theorem kX6_fits : ab_cks cX6_fits 6 (some .boolean) false 3 pX6_fits (fun _ => true) 0 bX6_fits = true := by decide +kernel
theorem eX6_fits {d mc ms : Nat} {av : List ab_V} {σ : ab_H} {post : ab_O → ab_H → Prop} (hav : (av.all ab_n1 && Nat.ble av.length 3) = true) (h : ∀ At, ab_rule bX6_fits d mc ms post At → At 0 (av.map some ++ List.replicate (3 - av.length) none) [] σ 0 0) : ab_call d mc ms yX6_fits av σ post :=
  ab_entry (o := 6) (ini := false) (ret := (some .boolean)) (maxL := 3) (ab_w_in (i := 769) (by decide +kernel)) (by decide +kernel) (by decide) (by decide +kernel) (by decide +kernel) rfl kX6_fits hav h
def bX6_append : List (List ab_I) := [[(.aload_n 0, y0, []), (.getfield 41, y0, [6, 8]), (.istore_n 3, y0, []), (.aload_n 0, y0, []), (.dup, y0, []), (.getfield 41, y0, [6, 8]), (.iload_n 1, y0, []), (.iadd, y0, []), (.putfield 41, y0, [6, 8]), (.iload_n 3, y0, []), (.istore 4, y0, [])],
  [(.iload 4, y0, []), (.aload_n 0, y0, []), (.getfield 41, y0, [6, 8]), (.if_icmp .ge 19, y0, [3])],
  [(.aload_n 0, y0, []), (.invokevirtual 62, yX6_live, [6, 0]), (.iload 4, y0, []), (.iconst 1, y0, []), (.invokevirtual 66, yX2_put, [2, 2]), (.iinc 4 1, y0, []), (.goto (-22), y0, [1])],
  [(.iconst 0, y0, []), (.istore 4, y0, [])],
  [(.iload 4, y0, []), (.aload_n 0, y0, []), (.getfield 45, y0, [6, 7]), (.if_icmp .ge 70, y0, [9])],
  [(.iload_n 3, y0, []), (.istore 5, y0, [])],
  [(.iload 5, y0, []), (.aload_n 0, y0, []), (.getfield 41, y0, [6, 8]), (.if_icmp .ge 26, y0, [8])],
  [(.aload_n 0, y0, []), (.getfield 11, y0, [6, 0]), (.iload 4, y0, []), (.aaload, y0, [1]), (.getfield 70, y0, [3, 7]), (.iload 5, y0, []), (.aload_n 2, y0, []), (.iload 4, y0, []), (.iaload, y0, []), (.iastore, y0, []), (.iinc 5 1, y0, []), (.goto (-29), y0, [6])],
  [(.aload_n 0, y0, []), (.getfield 11, y0, [6, 0]), (.iload 4, y0, []), (.aaload, y0, [1]), (.iload_n 3, y0, []), (.bipush 15, y0, []), (.idiv, y0, []), (.aload_n 0, y0, []), (.invokevirtual 51, yX6_groupsUsed, [6, 0]), (.aload_n 0, y0, []), (.getfield 41, y0, [6, 8]), (.aload_n 0, y0, []), (.getfield 35, y0, [6, 5]), (.invokevirtual 73, yX3_regroup, [3, 4]), (.iinc 4 1, y0, []), (.goto (-73), y0, [4])],
  [(.return_, y0, [])]]
def pX6_append : List Nat := [0, 18, 27, 43, 46, 55, 58, 67, 90, 122, 123]
theorem kX6_append : ab_cks cX6_append 6 none false 6 pX6_append (fun _ => true) 0 bX6_append = true := by decide +kernel
theorem eX6_append {d mc ms : Nat} {av : List ab_V} {σ : ab_H} {post : ab_O → ab_H → Prop} (hav : (av.all ab_n1 && Nat.ble av.length 6) = true) (h : ∀ At, ab_rule bX6_append d mc ms post At → At 0 (av.map some ++ List.replicate (6 - av.length) none) [] σ 0 0) : ab_call d mc ms yX6_append av σ post :=
  ab_entry (o := 6) (ini := false) (ret := none) (maxL := 6) (ab_w_in (i := 773) (by decide +kernel)) (by decide +kernel) (by decide) (by decide +kernel) (by decide +kernel) rfl kX6_append hav h
def bX6_closeUp : List (List ab_I) := [[(.aload_n 0, y0, []), (.invokevirtual 62, yX6_live, [6, 0]), (.invokevirtual 77, yX2_count, [2, 0]), (.istore_n 1, y0, []), (.aload_n 0, y0, []), (.getfield 41, y0, [6, 8]), (.iload_n 1, y0, []), (.isub, y0, []), (.istore_n 2, y0, []), (.iload_n 2, y0, []), (.ifCond .ne 5, y0, [2])],
  [(.iconst 0, y0, []), (.ireturn, y0, [])],
  [(.aload_n 0, y0, []), (.invokevirtual 51, yX6_groupsUsed, [6, 0]), (.istore_n 3, y0, []), (.iconst 0, y0, []), (.istore 4, y0, [])],
  [(.iload 4, y0, []), (.aload_n 0, y0, []), (.getfield 45, y0, [6, 7]), (.if_icmp .ge 44, y0, [5])],
  [(.aload_n 0, y0, []), (.getfield 11, y0, [6, 0]), (.iload 4, y0, []), (.aaload, y0, [1]), (.aload_n 0, y0, []), (.invokevirtual 62, yX6_live, [6, 0]), (.aload_n 0, y0, []), (.getfield 41, y0, [6, 8]), (.invokevirtual 80, yX3_keepRowsOf, [3, 2]), (.aload_n 0, y0, []), (.getfield 11, y0, [6, 0]), (.iload 4, y0, []), (.aaload, y0, [1]), (.iconst 0, y0, []), (.iload_n 3, y0, []), (.iload_n 1, y0, []), (.aload_n 0, y0, []), (.getfield 35, y0, [6, 5]), (.invokevirtual 73, yX3_regroup, [3, 4]), (.iinc 4 1, y0, []), (.goto (-47), y0, [3])],
  [(.iconst 0, y0, []), (.istore 4, y0, [])],
  [(.iload 4, y0, []), (.iconst 5, y0, []), (.if_icmp .gt 27, y0, [8])],
  [(.aload_n 0, y0, []), (.getfield 19, y0, [6, 1]), (.iload 4, y0, []), (.aaload, y0, [0]), (.aload_n 0, y0, []), (.invokevirtual 62, yX6_live, [6, 0]), (.aload_n 0, y0, []), (.getfield 41, y0, [6, 8]), (.invokevirtual 84, yX2_keepRowsOf, [2, 2]), (.iinc 4 1, y0, []), (.goto (-27), y0, [6])],
  [(.aload_n 0, y0, []), (.invokevirtual 62, yX6_live, [6, 0]), (.iload_n 1, y0, []), (.invokevirtual 85, yX2_fillTo, [2, 1]), (.aload_n 0, y0, []), (.iload_n 1, y0, []), (.putfield 41, y0, [6, 8]), (.iload_n 2, y0, []), (.ireturn, y0, [])]]
def pX6_closeUp : List Nat := [0, 19, 21, 29, 38, 79, 82, 88, 112, 127]
theorem kX6_closeUp : ab_cks cX6_closeUp 6 (some .int) false 5 pX6_closeUp (fun _ => true) 0 bX6_closeUp = true := by decide +kernel
theorem eX6_closeUp {d mc ms : Nat} {av : List ab_V} {σ : ab_H} {post : ab_O → ab_H → Prop} (hav : (av.all ab_n1 && Nat.ble av.length 5) = true) (h : ∀ At, ab_rule bX6_closeUp d mc ms post At → At 0 (av.map some ++ List.replicate (5 - av.length) none) [] σ 0 0) : ab_call d mc ms yX6_closeUp av σ post :=
  ab_entry (o := 6) (ini := false) (ret := (some .int)) (maxL := 5) (ab_w_in (i := 421) (by decide +kernel)) (by decide +kernel) (by decide) (by decide +kernel) (by decide +kernel) rfl kX6_closeUp hav h
def bX6_tallyOf : List (List ab_I) := [[(.iconst 0, y0, []), (.istore_n 3, y0, [])],
  [(.iload_n 3, y0, []), (.sipush 200, y0, []), (.if_icmp .ge 16, y0, [3])],
  [(.aload_n 0, y0, []), (.getfield 28, y0, [6, 3]), (.iload_n 3, y0, []), (.iconst 0, y0, []), (.iastore, y0, []), (.iinc 3 1, y0, []), (.goto (-17), y0, [1])],
  [(.iconst 0, y0, []), (.istore_n 3, y0, [])],
  [(.iload_n 3, y0, []), (.aload_n 0, y0, []), (.getfield 41, y0, [6, 8]), (.if_icmp .ge 32, y0, [8])],
  [(.aload_n 2, y0, []), (.iload_n 3, y0, []), (.invokevirtual 89, yX2_contains, [2, 1]), (.ifCond .eq 18, y0, [7])],
  [(.aload_n 0, y0, []), (.getfield 28, y0, [6, 3]), (.aload_n 1, y0, []), (.getfield 70, y0, [3, 7]), (.iload_n 3, y0, []), (.iaload, y0, []), (.dup2, y0, []), (.iaload, y0, []), (.iconst 1, y0, []), (.iadd, y0, []), (.iastore, y0, [])],
  [(.iinc 3 1, y0, []), (.goto (-34), y0, [4])],
  [(.return_, y0, [])]]
def pX6_tallyOf : List Nat := [0, 2, 9, 22, 24, 32, 40, 55, 61, 62]
theorem kX6_tallyOf : ab_cks cX6_tallyOf 6 none false 4 pX6_tallyOf (fun _ => true) 0 bX6_tallyOf = true := by decide +kernel
theorem eX6_tallyOf {d mc ms : Nat} {av : List ab_V} {σ : ab_H} {post : ab_O → ab_H → Prop} (hav : (av.all ab_n1 && Nat.ble av.length 4) = true) (h : ∀ At, ab_rule bX6_tallyOf d mc ms post At → At 0 (av.map some ++ List.replicate (4 - av.length) none) [] σ 0 0) : ab_call d mc ms yX6_tallyOf av σ post :=
  ab_entry (o := 6) (ini := false) (ret := none) (maxL := 4) (ab_w_in (i := 1219) (by decide +kernel)) (by decide +kernel) (by decide) (by decide +kernel) (by decide +kernel) rfl kX6_tallyOf hav h
def bX6_wordsIfOrdered : List (List ab_I) := [[(.aload_n 0, y0, []), (.aload_n 1, y0, []), (.aload_n 2, y0, []), (.invokevirtual 93, yX6_arrange, [6, 2]), (.iconst 0, y0, []), (.istore_n 3, y0, []), (.iconst 0, y0, []), (.istore 4, y0, [])],
  [(.iload 4, y0, []), (.aload_n 1, y0, []), (.getfield 97, y0, [3, 2]), (.if_icmp .ge 19, y0, [3])],
  [(.iload_n 3, y0, []), (.aload_n 0, y0, []), (.aload_n 1, y0, []), (.iload 4, y0, []), (.invokevirtual 100, yX6_arrangedWords, [6, 2]), (.iadd, y0, []), (.istore_n 3, y0, []), (.iinc 4 1, y0, []), (.goto (-22), y0, [1])],
  [(.iload_n 3, y0, []), (.ireturn, y0, [])]]
def pX6_wordsIfOrdered : List Nat := [0, 11, 20, 36, 38]
theorem kX6_wordsIfOrdered : ab_cks cX6_wordsIfOrdered 6 (some .int) false 5 pX6_wordsIfOrdered (fun _ => true) 0 bX6_wordsIfOrdered = true := by decide +kernel
theorem eX6_wordsIfOrdered {d mc ms : Nat} {av : List ab_V} {σ : ab_H} {post : ab_O → ab_H → Prop} (hav : (av.all ab_n1 && Nat.ble av.length 5) = true) (h : ∀ At, ab_rule bX6_wordsIfOrdered d mc ms post At → At 0 (av.map some ++ List.replicate (5 - av.length) none) [] σ 0 0) : ab_call d mc ms yX6_wordsIfOrdered av σ post :=
  ab_entry (o := 6) (ini := false) (ret := (some .int)) (maxL := 5) (ab_w_in (i := 1304) (by decide +kernel)) (by decide +kernel) (by decide) (by decide +kernel) (by decide +kernel) rfl kX6_wordsIfOrdered hav h
def bX6_arrange : List (List ab_I) := [[(.aload_n 0, y0, []), (.getfield 24, y0, [6, 2]), (.aload_n 0, y0, []), (.getfield 41, y0, [6, 8]), (.invokevirtual 85, yX2_fillTo, [2, 1]), (.aload_n 0, y0, []), (.aload_n 2, y0, []), (.aload_n 0, y0, []), (.getfield 24, y0, [6, 2]), (.invokevirtual 104, yX6_tallyOf, [6, 2]), (.iconst 0, y0, []), (.istore_n 3, y0, []), (.iconst 0, y0, []), (.istore 4, y0, [])],
  [(.iload 4, y0, []), (.sipush 200, y0, []), (.if_icmp .ge 31, y0, [3])],
  [(.aload_n 0, y0, []), (.getfield 28, y0, [6, 3]), (.iload 4, y0, []), (.iaload, y0, []), (.istore 5, y0, []), (.aload_n 0, y0, []), (.getfield 28, y0, [6, 3]), (.iload 4, y0, []), (.iload_n 3, y0, []), (.iastore, y0, []), (.iload_n 3, y0, []), (.iload 5, y0, []), (.iadd, y0, []), (.istore_n 3, y0, []), (.iinc 4 1, y0, []), (.goto (-33), y0, [1])],
  [(.iconst 0, y0, []), (.istore 4, y0, [])],
  [(.iload 4, y0, []), (.aload_n 0, y0, []), (.getfield 41, y0, [6, 8]), (.if_icmp .ge 48, y0, [6])],
  [(.aload_n 2, y0, []), (.getfield 70, y0, [3, 7]), (.iload 4, y0, []), (.iaload, y0, []), (.istore 5, y0, []), (.aload_n 0, y0, []), (.getfield 32, y0, [6, 4]), (.aload_n 0, y0, []), (.getfield 28, y0, [6, 3]), (.iload 5, y0, []), (.iaload, y0, []), (.aload_n 1, y0, []), (.getfield 70, y0, [3, 7]), (.iload 4, y0, []), (.iaload, y0, []), (.iastore, y0, []), (.aload_n 0, y0, []), (.getfield 28, y0, [6, 3]), (.iload 5, y0, []), (.dup2, y0, []), (.iaload, y0, []), (.iconst 1, y0, []), (.iadd, y0, []), (.iastore, y0, []), (.iinc 4 1, y0, []), (.goto (-51), y0, [4])],
  [(.return_, y0, [])]]
def pX6_arrange : List Nat := [0, 25, 33, 61, 64, 73, 118, 119]
theorem kX6_arrange : ab_cks cX6_arrange 6 none false 6 pX6_arrange (fun _ => true) 0 bX6_arrange = true := by decide +kernel
theorem eX6_arrange {d mc ms : Nat} {av : List ab_V} {σ : ab_H} {post : ab_O → ab_H → Prop} (hav : (av.all ab_n1 && Nat.ble av.length 6) = true) (h : ∀ At, ab_rule bX6_arrange d mc ms post At → At 0 (av.map some ++ List.replicate (6 - av.length) none) [] σ 0 0) : ab_call d mc ms yX6_arrange av σ post :=
  ab_entry (o := 6) (ini := false) (ret := none) (maxL := 6) (ab_w_in (i := 1308) (by decide +kernel)) (by decide +kernel) (by decide) (by decide +kernel) (by decide +kernel) rfl kX6_arrange hav h
def bX6_arrangedWords : List (List ab_I) := [[(.iconst 0, y0, []), (.istore_n 3, y0, []), (.iconst 0, y0, []), (.istore 4, y0, [])],
  [(.iload 4, y0, []), (.sipush 200, y0, []), (.if_icmp .ge 17, y0, [3])],
  [(.aload_n 0, y0, []), (.getfield 38, y0, [6, 6]), (.iload 4, y0, []), (.iconst (-1), y0, []), (.iastore, y0, []), (.iinc 4 1, y0, []), (.goto (-19), y0, [1])],
  [(.iconst 0, y0, []), (.istore 4, y0, [])],
  [(.iload 4, y0, []), (.aload_n 0, y0, []), (.invokevirtual 51, yX6_groupsUsed, [6, 0]), (.if_icmp .ge 84, y0, [11])],
  [(.aload_n 1, y0, []), (.iload_n 2, y0, []), (.iload 4, y0, []), (.aload_n 0, y0, []), (.getfield 41, y0, [6, 8]), (.aload_n 0, y0, []), (.getfield 32, y0, [6, 4]), (.aload_n 0, y0, []), (.getfield 35, y0, [6, 5]), (.invokevirtual 108, yX3_gatherMasks, [3, 5]), (.iconst 0, y0, []), (.istore 5, y0, [])],
  [(.iload 5, y0, []), (.aload_n 1, y0, []), (.iload_n 2, y0, []), (.invokevirtual 112, yX3_bitmapsOfPart, [3, 1]), (.if_icmp .ge 46, y0, [10])],
  [(.aload_n 0, y0, []), (.getfield 35, y0, [6, 5]), (.iload 5, y0, []), (.iaload, y0, []), (.aload_n 0, y0, []), (.getfield 38, y0, [6, 6]), (.iload 5, y0, []), (.iaload, y0, []), (.invokestatic 115, yX2_startsWord, [2]), (.ifCond .eq 6, y0, [9])],
  [(.iinc 3 1, y0, [])],
  [(.aload_n 0, y0, []), (.getfield 38, y0, [6, 6]), (.iload 5, y0, []), (.aload_n 0, y0, []), (.getfield 35, y0, [6, 5]), (.iload 5, y0, []), (.iaload, y0, []), (.iastore, y0, []), (.iinc 5 1, y0, []), (.goto (-50), y0, [6])],
  [(.iinc 4 1, y0, []), (.goto (-87), y0, [4])],
  [(.iload_n 3, y0, []), (.ireturn, y0, [])]]
def pX6_arrangedWords : List Nat := [0, 5, 13, 27, 30, 39, 61, 71, 91, 94, 114, 120, 122]
theorem kX6_arrangedWords : ab_cks cX6_arrangedWords 6 (some .int) false 6 pX6_arrangedWords (fun _ => true) 0 bX6_arrangedWords = true := by decide +kernel
theorem eX6_arrangedWords {d mc ms : Nat} {av : List ab_V} {σ : ab_H} {post : ab_O → ab_H → Prop} (hav : (av.all ab_n1 && Nat.ble av.length 6) = true) (h : ∀ At, ab_rule bX6_arrangedWords d mc ms post At → At 0 (av.map some ++ List.replicate (6 - av.length) none) [] σ 0 0) : ab_call d mc ms yX6_arrangedWords av σ post :=
  ab_entry (o := 6) (ini := false) (ret := (some .int)) (maxL := 6) (ab_w_in (i := 1313) (by decide +kernel)) (by decide +kernel) (by decide) (by decide +kernel) (by decide +kernel) rfl kX6_arrangedWords hav h
def bX7_init : List (List ab_I) := [[(.aload_n 0, y0, []), (.invokespecial 3, y0, [0, 165]), (.aload_n 0, y0, []), (.sipush 400, y0, []), (.newarray .int, y0, []), (.putfield 9, y0, [7, 0]), (.aload_n 0, y0, []), (.iconst (-1), y0, []), (.putfield 15, y0, [7, 6]), (.return_, y0, [])]]
def pX7_init : List Nat := [0, 19]
theorem kX7_init : ab_cks cX7_init 7 none true 1 pX7_init (fun _ => true) 0 bX7_init = true := by decide +kernel
theorem eX7_init {d mc ms : Nat} {av : List ab_V} {σ : ab_H} {post : ab_O → ab_H → Prop} (hav : (av.all ab_n1 && Nat.ble av.length 1) = true) (h : ∀ At, ab_rule bX7_init d mc ms post At → At 0 (av.map some ++ List.replicate (1 - av.length) none) [] σ 0 0) : ab_call d mc ms yX7_init av σ post :=
  ab_entry (o := 7) (ini := true) (ret := none) (maxL := 1) (ab_w_in (i := 164) (by decide +kernel)) (by decide +kernel) (by decide) (by decide +kernel) (by decide +kernel) rfl kX7_init hav h
def bX7_put : List (List ab_I) := [[(.bipush 24, y0, []), (.istore_n 2, y0, [])],
  [(.iload_n 2, y0, []), (.ifCond .lt 45, y0, [4])],
  [(.aload_n 0, y0, []), (.getfield 19, y0, [7, 1]), (.sipush 400, y0, []), (.if_icmp .ge 35, y0, [4])],
  [(.aload_n 0, y0, []), (.getfield 9, y0, [7, 0]), (.aload_n 0, y0, []), (.getfield 19, y0, [7, 1]), (.iload_n 1, y0, []), (.iload_n 2, y0, []), (.iushr, y0, []), (.sipush 255, y0, []), (.iand, y0, []), (.iastore, y0, []), (.aload_n 0, y0, []), (.dup, y0, []), (.getfield 19, y0, [7, 1]), (.iconst 1, y0, []), (.iadd, y0, []), (.putfield 19, y0, [7, 1]), (.iinc 2 (-8), y0, []), (.goto (-43), y0, [1])],
  [(.return_, y0, [])]]
def pX7_put : List Nat := [0, 3, 7, 17, 49, 50]
theorem kX7_put : ab_cks cX7_put 7 none false 3 pX7_put (fun _ => true) 0 bX7_put = true := by decide +kernel
theorem eX7_put {d mc ms : Nat} {av : List ab_V} {σ : ab_H} {post : ab_O → ab_H → Prop} (hav : (av.all ab_n1 && Nat.ble av.length 3) = true) (h : ∀ At, ab_rule bX7_put d mc ms post At → At 0 (av.map some ++ List.replicate (3 - av.length) none) [] σ 0 0) : ab_call d mc ms yX7_put av σ post :=
  ab_entry (o := 7) (ini := false) (ret := none) (maxL := 3) (ab_w_in (i := 413) (by decide +kernel)) (by decide +kernel) (by decide) (by decide +kernel) (by decide +kernel) rfl kX7_put hav h
def bX7_take : List (List ab_I) := [[(.aload_n 0, y0, []), (.iload_n 1, y0, []), (.putfield 22, y0, [7, 2]), (.aload_n 0, y0, []), (.iconst 0, y0, []), (.putfield 25, y0, [7, 3]), (.aload_n 0, y0, []), (.iconst 0, y0, []), (.putfield 28, y0, [7, 4]), (.aload_n 0, y0, []), (.iconst 0, y0, []), (.putfield 31, y0, [7, 5]), (.aload_n 0, y0, []), (.iconst (-1), y0, []), (.putfield 15, y0, [7, 6]), (.aload_n 0, y0, []), (.iconst 0, y0, []), (.putfield 19, y0, [7, 1]), (.return_, y0, [])]]
def pX7_take : List Nat := [0, 31]
theorem kX7_take : ab_cks cX7_take 7 none false 2 pX7_take (fun _ => true) 0 bX7_take = true := by decide +kernel
theorem eX7_take {d mc ms : Nat} {av : List ab_V} {σ : ab_H} {post : ab_O → ab_H → Prop} (hav : (av.all ab_n1 && Nat.ble av.length 2) = true) (h : ∀ At, ab_rule bX7_take d mc ms post At → At 0 (av.map some ++ List.replicate (2 - av.length) none) [] σ 0 0) : ab_call d mc ms yX7_take av σ post :=
  ab_entry (o := 7) (ini := false) (ret := none) (maxL := 2) (ab_w_in (i := 606) (by decide +kernel)) (by decide +kernel) (by decide) (by decide +kernel) (by decide +kernel) rfl kX7_take hav h
def bX7_refusal : List (List ab_I) := [[(.aload_n 0, y0, []), (.getfield 31, y0, [7, 5]), (.bipush 10, y0, []), (.isub, y0, []), (.ireturn, y0, [])]]
def pX7_refusal : List Nat := [0, 8]
theorem kX7_refusal : ab_cks cX7_refusal 7 (some .int) false 1 pX7_refusal (fun _ => true) 0 bX7_refusal = true := by decide +kernel
theorem eX7_refusal {d mc ms : Nat} {av : List ab_V} {σ : ab_H} {post : ab_O → ab_H → Prop} (hav : (av.all ab_n1 && Nat.ble av.length 1) = true) (h : ∀ At, ab_rule bX7_refusal d mc ms post At → At 0 (av.map some ++ List.replicate (1 - av.length) none) [] σ 0 0) : ab_call d mc ms yX7_refusal av σ post :=
  ab_entry (o := 7) (ini := false) (ret := (some .int)) (maxL := 1) (ab_w_in (i := 750) (by decide +kernel)) (by decide +kernel) (by decide) (by decide +kernel) (by decide +kernel) rfl kX7_refusal hav h
def bX7_isSound : List (List ab_I) := [[(.aload_n 0, y0, []), (.getfield 31, y0, [7, 5]), (.ifCond .ne 7, y0, [2])],
  [(.iconst 1, y0, []), (.goto 4, y0, [3])],
  [(.iconst 0, y0, [])],
  [(.ireturn, y0, [1])]]
def pX7_isSound : List Nat := [0, 7, 11, 12, 13]
theorem kX7_isSound : ab_cks cX7_isSound 7 (some .boolean) false 1 pX7_isSound (fun _ => true) 0 bX7_isSound = true := by decide +kernel
theorem eX7_isSound {d mc ms : Nat} {av : List ab_V} {σ : ab_H} {post : ab_O → ab_H → Prop} (hav : (av.all ab_n1 && Nat.ble av.length 1) = true) (h : ∀ At, ab_rule bX7_isSound d mc ms post At → At 0 (av.map some ++ List.replicate (1 - av.length) none) [] σ 0 0) : ab_call d mc ms yX7_isSound av σ post :=
  ab_entry (o := 7) (ini := false) (ret := (some .boolean)) (maxL := 1) (ab_w_in (i := 619) (by decide +kernel)) (by decide +kernel) (by decide) (by decide +kernel) (by decide +kernel) rfl kX7_isSound hav h
def bX7_fail : List (List ab_I) := [[(.aload_n 0, y0, []), (.getfield 31, y0, [7, 5]), (.ifCond .ne 13, y0, [2])],
  [(.aload_n 0, y0, []), (.iload_n 1, y0, []), (.putfield 31, y0, [7, 5]), (.aload_n 0, y0, []), (.iload_n 2, y0, []), (.putfield 15, y0, [7, 6])],
  [(.return_, y0, [])]]
def pX7_fail : List Nat := [0, 7, 17, 18]
theorem kX7_fail : ab_cks cX7_fail 7 none false 3 pX7_fail (fun _ => true) 0 bX7_fail = true := by decide +kernel
theorem eX7_fail {d mc ms : Nat} {av : List ab_V} {σ : ab_H} {post : ab_O → ab_H → Prop} (hav : (av.all ab_n1 && Nat.ble av.length 3) = true) (h : ∀ At, ab_rule bX7_fail d mc ms post At → At 0 (av.map some ++ List.replicate (3 - av.length) none) [] σ 0 0) : ab_call d mc ms yX7_fail av σ post :=
  ab_entry (o := 7) (ini := false) (ret := none) (maxL := 3) (ab_w_in (i := 679) (by decide +kernel)) (by decide +kernel) (by decide) (by decide +kernel) (by decide +kernel) rfl kX7_fail hav h
def bX7_skipBlanks : List (List ab_I) := [[(.aload_n 0, y0, []), (.getfield 25, y0, [7, 3]), (.aload_n 0, y0, []), (.getfield 22, y0, [7, 2]), (.if_icmp .ge 30, y0, [3])],
  [(.aload_n 0, y0, []), (.getfield 9, y0, [7, 0]), (.aload_n 0, y0, []), (.getfield 25, y0, [7, 3]), (.iaload, y0, []), (.bipush 32, y0, []), (.if_icmp .ne 16, y0, [3])],
  [(.aload_n 0, y0, []), (.dup, y0, []), (.getfield 25, y0, [7, 3]), (.iconst 1, y0, []), (.iadd, y0, []), (.putfield 25, y0, [7, 3]), (.goto (-35), y0, [0])],
  [(.return_, y0, [])]]
def pX7_skipBlanks : List Nat := [0, 11, 25, 38, 39]
theorem kX7_skipBlanks : ab_cks cX7_skipBlanks 7 none false 1 pX7_skipBlanks (fun _ => true) 0 bX7_skipBlanks = true := by decide +kernel
theorem eX7_skipBlanks {d mc ms : Nat} {av : List ab_V} {σ : ab_H} {post : ab_O → ab_H → Prop} (hav : (av.all ab_n1 && Nat.ble av.length 1) = true) (h : ∀ At, ab_rule bX7_skipBlanks d mc ms post At → At 0 (av.map some ++ List.replicate (1 - av.length) none) [] σ 0 0) : ab_call d mc ms yX7_skipBlanks av σ post :=
  ab_entry (o := 7) (ini := false) (ret := none) (maxL := 1) (ab_w_in (i := 623) (by decide +kernel)) (by decide +kernel) (by decide) (by decide +kernel) (by decide +kernel) rfl kX7_skipBlanks hav h
def bX7_isNext : List (List ab_I) := [[(.aload_n 0, y0, []), (.invokevirtual 34, yX7_skipBlanks, [7, 0]), (.aload_n 0, y0, []), (.getfield 25, y0, [7, 3]), (.aload_n 0, y0, []), (.getfield 22, y0, [7, 2]), (.if_icmp .ge 20, y0, [3])],
  [(.aload_n 0, y0, []), (.getfield 9, y0, [7, 0]), (.aload_n 0, y0, []), (.getfield 25, y0, [7, 3]), (.iaload, y0, []), (.iload_n 1, y0, []), (.if_icmp .ne 7, y0, [3])],
  [(.iconst 1, y0, []), (.goto 4, y0, [4])],
  [(.iconst 0, y0, [])],
  [(.ireturn, y0, [1])]]
def pX7_isNext : List Nat := [0, 15, 28, 32, 33, 34]
theorem kX7_isNext : ab_cks cX7_isNext 7 (some .boolean) false 2 pX7_isNext (fun _ => true) 0 bX7_isNext = true := by decide +kernel
theorem eX7_isNext {d mc ms : Nat} {av : List ab_V} {σ : ab_H} {post : ab_O → ab_H → Prop} (hav : (av.all ab_n1 && Nat.ble av.length 2) = true) (h : ∀ At, ab_rule bX7_isNext d mc ms post At → At 0 (av.map some ++ List.replicate (2 - av.length) none) [] σ 0 0) : ab_call d mc ms yX7_isNext av σ post :=
  ab_entry (o := 7) (ini := false) (ret := (some .boolean)) (maxL := 2) (ab_w_in (i := 842) (by decide +kernel)) (by decide +kernel) (by decide) (by decide +kernel) (by decide +kernel) rfl kX7_isNext hav h
def bX7_need : List (List ab_I) := [[(.aload_n 0, y0, []), (.invokevirtual 37, yX7_isSound, [7, 0]), (.ifCond .ne 4, y0, [2])],
  [(.return_, y0, [])],
  [(.aload_n 0, y0, []), (.iload_n 1, y0, []), (.invokevirtual 41, yX7_isNext, [7, 1]), (.ifCond .eq 16, y0, [4])],
  [(.aload_n 0, y0, []), (.dup, y0, []), (.getfield 25, y0, [7, 3]), (.iconst 1, y0, []), (.iadd, y0, []), (.putfield 25, y0, [7, 3]), (.goto 12, y0, [5])],
  [(.aload_n 0, y0, []), (.iconst 1, y0, []), (.aload_n 0, y0, []), (.getfield 25, y0, [7, 3]), (.invokevirtual 45, yX7_fail, [7, 2])],
  [(.return_, y0, [])]]
def pX7_need : List Nat := [0, 7, 8, 16, 29, 38, 39]
theorem kX7_need : ab_cks cX7_need 7 none false 2 pX7_need (fun _ => true) 0 bX7_need = true := by decide +kernel
theorem eX7_need {d mc ms : Nat} {av : List ab_V} {σ : ab_H} {post : ab_O → ab_H → Prop} (hav : (av.all ab_n1 && Nat.ble av.length 2) = true) (h : ∀ At, ab_rule bX7_need d mc ms post At → At 0 (av.map some ++ List.replicate (2 - av.length) none) [] σ 0 0) : ab_call d mc ms yX7_need av σ post :=
  ab_entry (o := 7) (ini := false) (ret := none) (maxL := 2) (ab_w_in (i := 847) (by decide +kernel)) (by decide +kernel) (by decide) (by decide +kernel) (by decide +kernel) rfl kX7_need hav h
def bX7_needEnd : List (List ab_I) := [[(.aload_n 0, y0, []), (.invokevirtual 34, yX7_skipBlanks, [7, 0]), (.aload_n 0, y0, []), (.getfield 25, y0, [7, 3]), (.aload_n 0, y0, []), (.getfield 22, y0, [7, 2]), (.if_icmp .ge 12, y0, [2])],
  [(.aload_n 0, y0, []), (.iconst 1, y0, []), (.aload_n 0, y0, []), (.getfield 25, y0, [7, 3]), (.invokevirtual 45, yX7_fail, [7, 2])],
  [(.return_, y0, [])]]
def pX7_needEnd : List Nat := [0, 15, 24, 25]
theorem kX7_needEnd : ab_cks cX7_needEnd 7 none false 1 pX7_needEnd (fun _ => true) 0 bX7_needEnd = true := by decide +kernel
theorem eX7_needEnd {d mc ms : Nat} {av : List ab_V} {σ : ab_H} {post : ab_O → ab_H → Prop} (hav : (av.all ab_n1 && Nat.ble av.length 1) = true) (h : ∀ At, ab_rule bX7_needEnd d mc ms post At → At 0 (av.map some ++ List.replicate (1 - av.length) none) [] σ 0 0) : ab_call d mc ms yX7_needEnd av σ post :=
  ab_entry (o := 7) (ini := false) (ret := none) (maxL := 1) (ab_w_in (i := 700) (by decide +kernel)) (by decide +kernel) (by decide) (by decide +kernel) (by decide +kernel) rfl kX7_needEnd hav h
def bX7_isDigitNext : List (List ab_I) := [[(.aload_n 0, y0, []), (.invokevirtual 34, yX7_skipBlanks, [7, 0]), (.aload_n 0, y0, []), (.getfield 25, y0, [7, 3]), (.aload_n 0, y0, []), (.getfield 22, y0, [7, 2]), (.if_icmp .ge 35, y0, [4])],
  [(.aload_n 0, y0, []), (.getfield 9, y0, [7, 0]), (.aload_n 0, y0, []), (.getfield 25, y0, [7, 3]), (.iaload, y0, []), (.bipush 48, y0, []), (.if_icmp .lt 21, y0, [4])],
  [(.aload_n 0, y0, []), (.getfield 9, y0, [7, 0]), (.aload_n 0, y0, []), (.getfield 25, y0, [7, 3]), (.iaload, y0, []), (.bipush 57, y0, []), (.if_icmp .gt 7, y0, [4])],
  [(.iconst 1, y0, []), (.goto 4, y0, [5])],
  [(.iconst 0, y0, [])],
  [(.ireturn, y0, [1])]]
def pX7_isDigitNext : List Nat := [0, 15, 29, 43, 47, 48, 49]
theorem kX7_isDigitNext : ab_cks cX7_isDigitNext 7 (some .boolean) false 1 pX7_isDigitNext (fun _ => true) 0 bX7_isDigitNext = true := by decide +kernel
theorem eX7_isDigitNext {d mc ms : Nat} {av : List ab_V} {σ : ab_H} {post : ab_O → ab_H → Prop} (hav : (av.all ab_n1 && Nat.ble av.length 1) = true) (h : ∀ At, ab_rule bX7_isDigitNext d mc ms post At → At 0 (av.map some ++ List.replicate (1 - av.length) none) [] σ 0 0) : ab_call d mc ms yX7_isDigitNext av σ post :=
  ab_entry (o := 7) (ini := false) (ret := (some .boolean)) (maxL := 1) (ab_w_in (i := 688) (by decide +kernel)) (by decide +kernel) (by decide) (by decide +kernel) (by decide +kernel) rfl kX7_isDigitNext hav h
def bX7_readNumber : List (List ab_I) := [[(.aload_n 0, y0, []), (.invokevirtual 37, yX7_isSound, [7, 0]), (.ifCond .ne 5, y0, [2])],
  [(.iconst (-1), y0, []), (.ireturn, y0, [])],
  [(.aload_n 0, y0, []), (.invokevirtual 49, yX7_isDigitNext, [7, 0]), (.ifCond .ne 14, y0, [4])],
  [(.aload_n 0, y0, []), (.iconst 1, y0, []), (.aload_n 0, y0, []), (.getfield 25, y0, [7, 3]), (.invokevirtual 45, yX7_fail, [7, 2]), (.iconst (-1), y0, []), (.ireturn, y0, [])],
  [(.aload_n 0, y0, []), (.aload_n 0, y0, []), (.getfield 25, y0, [7, 3]), (.putfield 28, y0, [7, 4]), (.iconst 0, y0, []), (.istore_n 3, y0, [])],
  [(.aload_n 0, y0, []), (.getfield 25, y0, [7, 3]), (.aload_n 0, y0, []), (.getfield 22, y0, [7, 2]), (.if_icmp .ge 68, y0, [9])],
  [(.aload_n 0, y0, []), (.getfield 9, y0, [7, 0]), (.aload_n 0, y0, []), (.getfield 25, y0, [7, 3]), (.iaload, y0, []), (.bipush 48, y0, []), (.if_icmp .lt 54, y0, [9])],
  [(.aload_n 0, y0, []), (.getfield 9, y0, [7, 0]), (.aload_n 0, y0, []), (.getfield 25, y0, [7, 3]), (.iaload, y0, []), (.bipush 57, y0, []), (.if_icmp .gt 40, y0, [9])],
  [(.iload_n 3, y0, []), (.bipush 10, y0, []), (.imul, y0, []), (.aload_n 0, y0, []), (.getfield 9, y0, [7, 0]), (.aload_n 0, y0, []), (.getfield 25, y0, [7, 3]), (.iaload, y0, []), (.iadd, y0, []), (.bipush 48, y0, []), (.isub, y0, []), (.sipush 1000, y0, []), (.invokestatic 52, y0, [0, 1]), (.istore_n 3, y0, []), (.aload_n 0, y0, []), (.dup, y0, []), (.getfield 25, y0, [7, 3]), (.iconst 1, y0, []), (.iadd, y0, []), (.putfield 25, y0, [7, 3]), (.goto (-73), y0, [5])],
  [(.iload_n 3, y0, []), (.iload_n 1, y0, []), (.if_icmp .lt 8, y0, [11])],
  [(.iload_n 3, y0, []), (.iload_n 2, y0, []), (.if_icmp .le 14, y0, [12])],
  [(.aload_n 0, y0, []), (.iconst 2, y0, []), (.aload_n 0, y0, []), (.getfield 28, y0, [7, 4]), (.invokevirtual 45, yX7_fail, [7, 2]), (.iconst (-1), y0, []), (.ireturn, y0, [])],
  [(.iload_n 3, y0, []), (.ireturn, y0, [])]]
def pX7_readNumber : List Nat := [0, 7, 9, 16, 27, 37, 48, 62, 76, 113, 118, 123, 134, 136]
theorem kX7_readNumber : ab_cks cX7_readNumber 7 (some .int) false 4 pX7_readNumber (fun _ => true) 0 bX7_readNumber = true := by decide +kernel
theorem eX7_readNumber {d mc ms : Nat} {av : List ab_V} {σ : ab_H} {post : ab_O → ab_H → Prop} (hav : (av.all ab_n1 && Nat.ble av.length 4) = true) (h : ∀ At, ab_rule bX7_readNumber d mc ms post At → At 0 (av.map some ++ List.replicate (4 - av.length) none) [] σ 0 0) : ab_call d mc ms yX7_readNumber av σ post :=
  ab_entry (o := 7) (ini := false) (ret := (some .int)) (maxL := 4) (ab_w_in (i := 693) (by decide +kernel)) (by decide +kernel) (by decide) (by decide +kernel) (by decide +kernel) rfl kX7_readNumber hav h
def bX7_readName : List (List ab_I) := [[(.aload_n 0, y0, []), (.invokevirtual 37, yX7_isSound, [7, 0]), (.ifCond .ne 5, y0, [2])],
  [(.iconst (-1), y0, []), (.ireturn, y0, [])],
  [(.aload_n 0, y0, []), (.invokevirtual 34, yX7_skipBlanks, [7, 0]), (.aload_n 0, y0, []), (.aload_n 0, y0, []), (.getfield 25, y0, [7, 3]), (.putfield 28, y0, [7, 4])],
  [(.aload_n 0, y0, []), (.getfield 25, y0, [7, 3]), (.aload_n 0, y0, []), (.getfield 22, y0, [7, 2]), (.if_icmp .ge 44, y0, [7])],
  [(.aload_n 0, y0, []), (.getfield 9, y0, [7, 0]), (.aload_n 0, y0, []), (.getfield 25, y0, [7, 3]), (.iaload, y0, []), (.bipush 97, y0, []), (.if_icmp .lt 30, y0, [7])],
  [(.aload_n 0, y0, []), (.getfield 9, y0, [7, 0]), (.aload_n 0, y0, []), (.getfield 25, y0, [7, 3]), (.iaload, y0, []), (.bipush 122, y0, []), (.if_icmp .gt 16, y0, [7])],
  [(.aload_n 0, y0, []), (.dup, y0, []), (.getfield 25, y0, [7, 3]), (.iconst 1, y0, []), (.iadd, y0, []), (.putfield 25, y0, [7, 3]), (.goto (-49), y0, [3])],
  [(.iconst 0, y0, []), (.istore_n 2, y0, []), (.iconst 0, y0, []), (.istore_n 3, y0, []), (.iconst 0, y0, []), (.istore 4, y0, [])],
  [(.iload 4, y0, []), (.aload_n 1, y0, []), (.invokevirtual 58, y0, [0]), (.if_icmp .gt 50, y0, [15])],
  [(.iload 4, y0, []), (.aload_n 1, y0, []), (.invokevirtual 58, y0, [0]), (.if_icmp .eq 14, y0, [11])],
  [(.aload_n 1, y0, []), (.iload 4, y0, []), (.invokevirtual 63, y0, [1]), (.bipush 44, y0, []), (.if_icmp .ne 24, y0, [14])],
  [(.aload_n 0, y0, []), (.aload_n 1, y0, []), (.iload_n 3, y0, []), (.iload 4, y0, []), (.invokevirtual 67, yX7_isSpelt, [7, 3]), (.ifCond .eq 5, y0, [13])],
  [(.iload_n 2, y0, []), (.ireturn, y0, [])],
  [(.iinc 2 1, y0, []), (.iload 4, y0, []), (.iconst 1, y0, []), (.iadd, y0, []), (.istore_n 3, y0, [])],
  [(.iinc 4 1, y0, []), (.goto (-53), y0, [8])],
  [(.aload_n 0, y0, []), (.iconst 1, y0, []), (.aload_n 0, y0, []), (.getfield 28, y0, [7, 4]), (.invokevirtual 45, yX7_fail, [7, 2]), (.iconst (-1), y0, []), (.ireturn, y0, [])]]
def pX7_readName : List Nat := [0, 7, 9, 21, 32, 46, 60, 73, 80, 89, 98, 109, 120, 122, 130, 136, 147]
theorem kX7_readName : ab_cks cX7_readName 7 (some .int) false 5 pX7_readName (fun _ => true) 0 bX7_readName = true := by decide +kernel
theorem eX7_readName {d mc ms : Nat} {av : List ab_V} {σ : ab_H} {post : ab_O → ab_H → Prop} (hav : (av.all ab_n1 && Nat.ble av.length 5) = true) (h : ∀ At, ab_rule bX7_readName d mc ms post At → At 0 (av.map some ++ List.replicate (5 - av.length) none) [] σ 0 0) : ab_call d mc ms yX7_readName av σ post :=
  ab_entry (o := 7) (ini := false) (ret := (some .int)) (maxL := 5) (ab_w_in (i := 615) (by decide +kernel)) (by decide +kernel) (by decide) (by decide +kernel) (by decide +kernel) rfl kX7_readName hav h
def bX7_isSpelt : List (List ab_I) := [[(.iload_n 3, y0, []), (.iload_n 2, y0, []), (.isub, y0, []), (.aload_n 0, y0, []), (.getfield 25, y0, [7, 3]), (.aload_n 0, y0, []), (.getfield 28, y0, [7, 4]), (.isub, y0, []), (.if_icmp .eq 5, y0, [2])],
  [(.iconst 0, y0, []), (.ireturn, y0, [1])],
  [(.iconst 0, y0, []), (.istore 4, y0, [])],
  [(.iload 4, y0, []), (.iload_n 3, y0, []), (.iload_n 2, y0, []), (.isub, y0, []), (.if_icmp .ge 34, y0, [7])],
  [(.aload_n 1, y0, []), (.iload_n 2, y0, []), (.iload 4, y0, []), (.iadd, y0, []), (.invokevirtual 63, y0, [1]), (.aload_n 0, y0, []), (.getfield 9, y0, [7, 0]), (.aload_n 0, y0, []), (.getfield 28, y0, [7, 4]), (.iload 4, y0, []), (.iadd, y0, []), (.iaload, y0, []), (.if_icmp .eq 5, y0, [6])],
  [(.iconst 0, y0, []), (.ireturn, y0, [1])],
  [(.iinc 4 1, y0, []), (.goto (-36), y0, [3])],
  [(.iconst 1, y0, []), (.ireturn, y0, [1])]]
def pX7_isSpelt : List Nat := [0, 15, 17, 20, 28, 51, 53, 59, 61]
theorem kX7_isSpelt : ab_cks cX7_isSpelt 7 (some .boolean) false 5 pX7_isSpelt (fun _ => true) 0 bX7_isSpelt = true := by decide +kernel
theorem eX7_isSpelt {d mc ms : Nat} {av : List ab_V} {σ : ab_H} {post : ab_O → ab_H → Prop} (hav : (av.all ab_n1 && Nat.ble av.length 5) = true) (h : ∀ At, ab_rule bX7_isSpelt d mc ms post At → At 0 (av.map some ++ List.replicate (5 - av.length) none) [] σ 0 0) : ab_call d mc ms yX7_isSpelt av σ post :=
  ab_entry (o := 7) (ini := false) (ret := (some .boolean)) (maxL := 5) (ab_w_in (i := 675) (by decide +kernel)) (by decide +kernel) (by decide) (by decide +kernel) (by decide +kernel) rfl kX7_isSpelt hav h
def bX8_init : List (List ab_I) := [[(.aload_n 0, y0, []), (.invokespecial 3, y0, [0, 280]), (.aload_n 0, y0, []), (.aload_n 1, y0, []), (.putfield 9, y0, [8, 0]), (.return_, y0, [])]]
def pX8_init : List Nat := [0, 10]
theorem kX8_init : ab_cks cX8_init 8 none true 2 pX8_init (fun _ => true) 0 bX8_init = true := by decide +kernel
theorem eX8_init {d mc ms : Nat} {av : List ab_V} {σ : ab_H} {post : ab_O → ab_H → Prop} (hav : (av.all ab_n1 && Nat.ble av.length 2) = true) (h : ∀ At, ab_rule bX8_init d mc ms post At → At 0 (av.map some ++ List.replicate (2 - av.length) none) [] σ 0 0) : ab_call d mc ms yX8_init av σ post :=
  ab_entry (o := 8) (ini := true) (ret := none) (maxL := 2) (ab_w_in (i := 279) (by decide +kernel)) (by decide +kernel) (by decide) (by decide +kernel) (by decide +kernel) rfl kX8_init hav h
def bX8_readInto : List (List ab_I) := [[(.iload_n 2, y0, []), (.bipush 15, y0, []), (.iadd, y0, []), (.iconst 1, y0, []), (.isub, y0, []), (.bipush 15, y0, []), (.idiv, y0, []), (.istore_n 3, y0, []), (.iconst 0, y0, []), (.istore 4, y0, []), (.iconst 0, y0, []), (.istore 5, y0, []), (.iconst 0, y0, []), (.istore 6, y0, [])],
  [(.iload 6, y0, []), (.aload_n 0, y0, []), (.getfield 9, y0, [8, 0]), (.getfield 15, y0, [7, 2]), (.if_icmp .ge 139, y0, [10])],
  [(.iload 6, y0, []), (.iconst 1, y0, []), (.iadd, y0, []), (.aload_n 0, y0, []), (.getfield 9, y0, [8, 0]), (.getfield 15, y0, [7, 2]), (.if_icmp .lt 14, y0, [4])],
  [(.aload_n 0, y0, []), (.getfield 9, y0, [8, 0]), (.iconst 1, y0, []), (.iload 6, y0, []), (.invokevirtual 21, yX7_fail, [7, 2]), (.return_, y0, [])],
  [(.aload_n 0, y0, []), (.getfield 9, y0, [8, 0]), (.getfield 25, y0, [7, 0]), (.iload 6, y0, []), (.iaload, y0, []), (.sipush 256, y0, []), (.imul, y0, []), (.aload_n 0, y0, []), (.getfield 9, y0, [8, 0]), (.getfield 25, y0, [7, 0]), (.iload 6, y0, []), (.iconst 1, y0, []), (.iadd, y0, []), (.iaload, y0, []), (.iadd, y0, []), (.istore 7, y0, []), (.iload 7, y0, []), (.ldc 29, y0, [32768]), (.if_icmp .lt 12, y0, [6])],
  [(.iload 7, y0, []), (.sipush 16383, y0, []), (.iand, y0, []), (.goto 4, y0, [7])],
  [(.iconst 1, y0, [])],
  [(.istore 8, y0, []), (.aload_n 0, y0, []), (.iload 7, y0, []), (.iload 5, y0, []), (.iload_n 3, y0, []), (.iload 4, y0, []), (.isub, y0, []), (.iload 8, y0, []), (.isub, y0, []), (.iload_n 2, y0, []), (.invokevirtual 30, yX8_faultOf, [8, 4]), (.istore 9, y0, []), (.iload 9, y0, []), (.ifCond .eq 15, y0, [9])],
  [(.aload_n 0, y0, []), (.getfield 9, y0, [8, 0]), (.iload 9, y0, []), (.iload 6, y0, []), (.invokevirtual 21, yX7_fail, [7, 2]), (.return_, y0, [])],
  [(.aload_n 0, y0, []), (.aload_n 1, y0, []), (.iload 7, y0, []), (.iload 4, y0, []), (.iload 8, y0, []), (.invokevirtual 34, yX8_putWord, [8, 4]), (.iload 4, y0, []), (.iload 8, y0, []), (.iadd, y0, []), (.istore 4, y0, []), (.iload 7, y0, []), (.istore 5, y0, []), (.iinc 6 2, y0, []), (.goto (-145), y0, [1])],
  [(.iload 4, y0, []), (.iload_n 3, y0, []), (.if_icmp .ge 19, y0, [12])],
  [(.aload_n 0, y0, []), (.getfield 9, y0, [8, 0]), (.bipush 7, y0, []), (.aload_n 0, y0, []), (.getfield 9, y0, [8, 0]), (.getfield 15, y0, [7, 2]), (.invokevirtual 21, yX7_fail, [7, 2])],
  [(.return_, y0, [])]]
def pX8_readInto : List Nat := [0, 19, 31, 45, 56, 92, 101, 102, 127, 139, 167, 173, 189, 190]
theorem kX8_readInto : ab_cks cX8_readInto 8 none false 10 pX8_readInto (fun _ => true) 0 bX8_readInto = true := by decide +kernel
theorem eX8_readInto {d mc ms : Nat} {av : List ab_V} {σ : ab_H} {post : ab_O → ab_H → Prop} (hav : (av.all ab_n1 && Nat.ble av.length 10) = true) (h : ∀ At, ab_rule bX8_readInto d mc ms post At → At 0 (av.map some ++ List.replicate (10 - av.length) none) [] σ 0 0) : ab_call d mc ms yX8_readInto av σ post :=
  ab_entry (o := 8) (ini := false) (ret := none) (maxL := 10) (ab_w_in (i := 970) (by decide +kernel)) (by decide +kernel) (by decide) (by decide +kernel) (by decide +kernel) rfl kX8_readInto hav h
def bX8_faultOf : List (List ab_I) := [[(.iload_n 1, y0, []), (.ldc 29, y0, [32768]), (.if_icmp .lt 7, y0, [2])],
  [(.iconst 1, y0, []), (.goto 4, y0, [3])],
  [(.iconst 0, y0, [])],
  [(.istore 5, y0, []), (.iload_n 1, y0, []), (.sipush 16384, y0, []), (.iand, y0, []), (.ifCond .eq 7, y0, [5])],
  [(.iconst 1, y0, []), (.goto 4, y0, [6])],
  [(.iconst 0, y0, [])],
  [(.istore 6, y0, []), (.iload_n 1, y0, []), (.ifCond .eq 10, y0, [8])],
  [(.iload_n 1, y0, []), (.sipush 32767, y0, []), (.if_icmp .ne 5, y0, [9])],
  [(.iconst 2, y0, []), (.ireturn, y0, [])],
  [(.iload 5, y0, []), (.ifCond .eq 13, y0, [12])],
  [(.iload_n 1, y0, []), (.sipush 16383, y0, []), (.iand, y0, []), (.ifCond .ne 5, y0, [12])],
  [(.iconst 3, y0, []), (.ireturn, y0, [])],
  [(.iload 5, y0, []), (.ifCond .eq 24, y0, [16])],
  [(.iload_n 2, y0, []), (.ldc 29, y0, [32768]), (.if_icmp .lt 18, y0, [16])],
  [(.iload_n 2, y0, []), (.sipush 16384, y0, []), (.iand, y0, []), (.iload_n 1, y0, []), (.sipush 16384, y0, []), (.iand, y0, []), (.if_icmp .ne 5, y0, [16])],
  [(.iconst 4, y0, []), (.ireturn, y0, [])],
  [(.iload_n 3, y0, []), (.ifCond .ge 5, y0, [18])],
  [(.iconst 5, y0, []), (.ireturn, y0, [])],
  [(.iload 4, y0, []), (.bipush 15, y0, []), (.irem, y0, []), (.istore 7, y0, []), (.iload_n 3, y0, []), (.ifCond .gt 8, y0, [20])],
  [(.iload 7, y0, []), (.ifCond .ne 5, y0, [21])],
  [(.iconst 0, y0, []), (.ireturn, y0, [])],
  [(.iload 5, y0, []), (.ifCond .eq 11, y0, [24])],
  [(.iload 6, y0, []), (.ifCond .eq 18, y0, [26])],
  [(.goto 10, y0, [25])],
  [(.iload_n 1, y0, []), (.iload 7, y0, []), (.ishr, y0, []), (.ifCond .eq 8, y0, [26])],
  [(.bipush 6, y0, []), (.goto 4, y0, [27])],
  [(.iconst 0, y0, [])],
  [(.ireturn, y0, [])]]
def pX8_faultOf : List Nat := [0, 6, 10, 11, 21, 25, 26, 32, 39, 41, 46, 54, 56, 61, 67, 80, 82, 86, 88, 99, 104, 106, 111, 116, 119, 126, 131, 132, 133]
theorem kX8_faultOf : ab_cks cX8_faultOf 8 (some .int) false 8 pX8_faultOf (fun _ => true) 0 bX8_faultOf = true := by decide +kernel
theorem eX8_faultOf {d mc ms : Nat} {av : List ab_V} {σ : ab_H} {post : ab_O → ab_H → Prop} (hav : (av.all ab_n1 && Nat.ble av.length 8) = true) (h : ∀ At, ab_rule bX8_faultOf d mc ms post At → At 0 (av.map some ++ List.replicate (8 - av.length) none) [] σ 0 0) : ab_call d mc ms yX8_faultOf av σ post :=
  ab_entry (o := 8) (ini := false) (ret := (some .int)) (maxL := 8) (ab_w_in (i := 976) (by decide +kernel)) (by decide +kernel) (by decide) (by decide +kernel) (by decide +kernel) rfl kX8_faultOf hav h
def bX8_putWord : List (List ab_I) := [[(.iload_n 2, y0, []), (.istore 5, y0, []), (.iload_n 2, y0, []), (.ldc 29, y0, [32768]), (.if_icmp .lt 20, y0, [5])],
  [(.iload_n 2, y0, []), (.sipush 16384, y0, []), (.iand, y0, []), (.ifCond .eq 9, y0, [3])],
  [(.sipush 32767, y0, []), (.goto 4, y0, [4])],
  [(.iconst 0, y0, [])],
  [(.istore 5, y0, [])],
  [(.iload_n 3, y0, []), (.istore 6, y0, [])],
  [(.iload 6, y0, []), (.iload_n 3, y0, []), (.iload 4, y0, []), (.iadd, y0, []), (.if_icmp .ge 25, y0, [9])],
  [(.iload 6, y0, []), (.bipush 100, y0, []), (.if_icmp .ge 18, y0, [9])],
  [(.aload_n 1, y0, []), (.getfield 38, y0, [2, 0]), (.iload 6, y0, []), (.iload 5, y0, []), (.iastore, y0, []), (.iinc 6 1, y0, []), (.goto (-28), y0, [6])],
  [(.return_, y0, [])]]
def pX8_putWord : List Nat := [0, 9, 17, 23, 24, 26, 29, 38, 45, 60, 61]
theorem kX8_putWord : ab_cks cX8_putWord 8 none false 7 pX8_putWord (fun _ => true) 0 bX8_putWord = true := by decide +kernel
theorem eX8_putWord {d mc ms : Nat} {av : List ab_V} {σ : ab_H} {post : ab_O → ab_H → Prop} (hav : (av.all ab_n1 && Nat.ble av.length 7) = true) (h : ∀ At, ab_rule bX8_putWord d mc ms post At → At 0 (av.map some ++ List.replicate (7 - av.length) none) [] σ 0 0) : ab_call d mc ms yX8_putWord av σ post :=
  ab_entry (o := 8) (ini := false) (ret := none) (maxL := 7) (ab_w_in (i := 980) (by decide +kernel)) (by decide +kernel) (by decide) (by decide +kernel) (by decide +kernel) rfl kX8_putWord hav h
def bX9_init : List (List ab_I) := [[(.aload_n 0, y0, []), (.invokespecial 1, y0, [0, 157]), (.aload_n 0, y0, []), (.new 7, y0, [7, 1, 0, 0, 0, 0, 0, 0]), (.dup, y0, []), (.invokespecial 9, yX7_init, [0]), (.putfield 10, y0, [9, 0]), (.aload_n 0, y0, []), (.new 16, y0, [6, 1, 1, 1, 1, 1, 1, 1, 0, 0]), (.dup, y0, []), (.invokespecial 18, yX6_init, [0]), (.putfield 19, y0, [9, 1]), (.aload_n 0, y0, []), (.new 23, y0, [4, 1, 1, 0, 0]), (.dup, y0, []), (.aload_n 0, y0, []), (.getfield 10, y0, [9, 0]), (.invokespecial 25, yX4_init, [1]), (.putfield 28, y0, [9, 2]), (.aload_n 0, y0, []), (.new 32, y0, [8, 1]), (.dup, y0, []), (.aload_n 0, y0, []), (.getfield 10, y0, [9, 0]), (.invokespecial 34, yX8_init, [1]), (.putfield 35, y0, [9, 3]), (.aload_n 0, y0, []), (.new 39, y0, [5, 1, 1, 1, 1, 1, 0]), (.dup, y0, []), (.aload_n 0, y0, []), (.getfield 10, y0, [9, 0]), (.aload_n 0, y0, []), (.getfield 19, y0, [9, 1]), (.invokespecial 41, yX5_init, [2]), (.putfield 44, y0, [9, 4]), (.aload_n 0, y0, []), (.new 48, y0, [0, 1, 1, 1, 1]), (.dup, y0, []), (.aload_n 0, y0, []), (.getfield 19, y0, [9, 1]), (.invokespecial 50, yX0_init, [1]), (.putfield 53, y0, [9, 5]), (.aload_n 0, y0, []), (.new 57, y0, [1, 1, 1, 0, 0, 0, 0, 0]), (.dup, y0, []), (.invokespecial 59, yX1_init, [0]), (.putfield 60, y0, [9, 6]), (.aload_n 0, y0, []), (.new 64, y0, [2, 1]), (.dup, y0, []), (.invokespecial 66, yX2_init, [0]), (.putfield 67, y0, [9, 7]), (.aload_n 0, y0, []), (.iconst 4, y0, []), (.newarray .int, y0, []), (.putfield 71, y0, [9, 8]), (.aload_n 0, y0, []), (.iconst 3, y0, []), (.newarray .int, y0, []), (.putfield 75, y0, [9, 9]), (.return_, y0, [])]]
def pX9_init : List Nat := [0, 127]
theorem kX9_init : ab_cks cX9_init 9 none true 1 pX9_init (fun _ => true) 0 bX9_init = true := by decide +kernel
theorem eX9_init {d mc ms : Nat} {av : List ab_V} {σ : ab_H} {post : ab_O → ab_H → Prop} (hav : (av.all ab_n1 && Nat.ble av.length 1) = true) (h : ∀ At, ab_rule bX9_init d mc ms post At → At 0 (av.map some ++ List.replicate (1 - av.length) none) [] σ 0 0) : ab_call d mc ms yX9_init av σ post :=
  ab_entry (o := 9) (ini := true) (ret := none) (maxL := 1) (ab_w_in (i := 156) (by decide +kernel)) (by decide +kernel) (by decide) (by decide +kernel) (by decide +kernel) rfl kX9_init hav h
def bX9_feed : List (List ab_I) := [[(.aload_n 0, y0, []), (.getfield 10, y0, [9, 0]), (.getfield 78, y0, [7, 1]), (.sipush 380, y0, []), (.if_icmp .le 5, y0, [2])],
  [(.iconst (-1), y0, []), (.ireturn, y0, [])],
  [(.aload_n 0, y0, []), (.getfield 10, y0, [9, 0]), (.iload_n 1, y0, []), (.invokevirtual 82, yX7_put, [7, 1]), (.aload_n 0, y0, []), (.getfield 10, y0, [9, 0]), (.iload_n 2, y0, []), (.invokevirtual 82, yX7_put, [7, 1]), (.aload_n 0, y0, []), (.getfield 10, y0, [9, 0]), (.iload_n 3, y0, []), (.invokevirtual 82, yX7_put, [7, 1]), (.aload_n 0, y0, []), (.getfield 10, y0, [9, 0]), (.iload 4, y0, []), (.invokevirtual 82, yX7_put, [7, 1]), (.aload_n 0, y0, []), (.getfield 10, y0, [9, 0]), (.iload 5, y0, []), (.invokevirtual 82, yX7_put, [7, 1]), (.aload_n 0, y0, []), (.getfield 10, y0, [9, 0]), (.getfield 78, y0, [7, 1]), (.ireturn, y0, [])]]
def pX9_feed : List Nat := [0, 13, 15, 65]
theorem kX9_feed : ab_cks cX9_feed 9 (some .int) false 6 pX9_feed (fun _ => true) 0 bX9_feed = true := by decide +kernel
theorem eX9_feed {d mc ms : Nat} {av : List ab_V} {σ : ab_H} {post : ab_O → ab_H → Prop} (hav : (av.all ab_n1 && Nat.ble av.length 6) = true) (h : ∀ At, ab_rule bX9_feed d mc ms post At → At 0 (av.map some ++ List.replicate (6 - av.length) none) [] σ 0 0) : ab_call d mc ms yX9_feed av σ post :=
  ab_entry (o := 9) (ini := false) (ret := (some .int)) (maxL := 6) (ab_w_in (i := 409) (by decide +kernel)) (by decide +kernel) (by decide) (by decide +kernel) (by decide +kernel) rfl kX9_feed hav h
def bX9_column : List (List ab_I) := [[(.aload_n 0, y0, []), (.aload_n 0, y0, []), (.iload_n 1, y0, []), (.invokevirtual 86, yX9_isTextLength, [9, 1]), (.invokevirtual 90, yX9_needArgument, [9, 1]), (.aload_n 0, y0, []), (.aload_n 0, y0, []), (.getfield 19, y0, [9, 1]), (.getfield 94, y0, [6, 8]), (.ifCond .ne 18, y0, [3])],
  [(.aload_n 0, y0, []), (.getfield 19, y0, [9, 1]), (.getfield 97, y0, [6, 7]), (.iconst 4, y0, []), (.if_icmp .ge 7, y0, [3])],
  [(.iconst 1, y0, []), (.goto 4, y0, [4])],
  [(.iconst 0, y0, [])],
  [(.invokevirtual 100, yX9_needState, [9, 1]), (.aload_n 0, y0, []), (.getfield 10, y0, [9, 0]), (.iload_n 1, y0, []), (.invokevirtual 103, yX7_take, [7, 1]), (.aload_n 0, y0, []), (.getfield 28, y0, [9, 2]), (.invokevirtual 106, yX4_readColumn, [4, 0]), (.astore_n 2, y0, []), (.aload_n 2, y0, []), (.ifnonnull 11, y0, [6])],
  [(.aload_n 0, y0, []), (.getfield 10, y0, [9, 0]), (.invokevirtual 110, yX7_refusal, [7, 0]), (.ireturn, y0, [])],
  [(.aload_n 0, y0, []), (.getfield 19, y0, [9, 1]), (.aload_n 2, y0, []), (.invokevirtual 114, yX6_addColumn, [6, 1]), (.ireturn, y0, [])]]
def pX9_column : List Nat := [0, 20, 31, 35, 36, 59, 67, 76]
theorem kX9_column : ab_cks cX9_column 9 (some .int) false 3 pX9_column (fun _ => true) 0 bX9_column = true := by decide +kernel
theorem eX9_column {d mc ms : Nat} {av : List ab_V} {σ : ab_H} {post : ab_O → ab_H → Prop} (hav : (av.all ab_n1 && Nat.ble av.length 3) = true) (h : ∀ At, ab_rule bX9_column d mc ms post At → At 0 (av.map some ++ List.replicate (3 - av.length) none) [] σ 0 0) : ab_call d mc ms yX9_column av σ post :=
  ab_entry (o := 9) (ini := false) (ret := (some .int)) (maxL := 3) (ab_w_in (i := 506) (by decide +kernel)) (by decide +kernel) (by decide) (by decide +kernel) (by decide +kernel) rfl kX9_column hav h
def bX9_add : List (List ab_I) := [[(.aload_n 0, y0, []), (.iload_n 1, y0, []), (.iload_n 2, y0, []), (.iload_n 3, y0, []), (.iload 4, y0, []), (.invokevirtual 118, yX9_give, [9, 4]), (.aload_n 0, y0, []), (.aload_n 0, y0, []), (.getfield 19, y0, [9, 1]), (.aload_n 0, y0, []), (.getfield 71, y0, [9, 8]), (.invokevirtual 122, yX6_fits, [6, 1]), (.invokevirtual 90, yX9_needArgument, [9, 1]), (.aload_n 0, y0, []), (.aload_n 0, y0, []), (.getfield 19, y0, [9, 1]), (.getfield 94, y0, [6, 8]), (.sipush 1500, y0, []), (.if_icmp .ge 7, y0, [2])],
  [(.iconst 1, y0, []), (.goto 4, y0, [3])],
  [(.iconst 0, y0, [])],
  [(.invokevirtual 100, yX9_needState, [9, 1]), (.aload_n 0, y0, []), (.getfield 19, y0, [9, 1]), (.iconst 1, y0, []), (.aload_n 0, y0, []), (.getfield 71, y0, [9, 8]), (.invokevirtual 126, yX6_append, [6, 2]), (.aload_n 0, y0, []), (.getfield 19, y0, [9, 1]), (.getfield 94, y0, [6, 8]), (.iconst 1, y0, []), (.isub, y0, []), (.ireturn, y0, [])]]
def pX9_add : List Nat := [0, 38, 42, 43, 68]
theorem kX9_add : ab_cks cX9_add 9 (some .int) false 5 pX9_add (fun _ => true) 0 bX9_add = true := by decide +kernel
theorem eX9_add {d mc ms : Nat} {av : List ab_V} {σ : ab_H} {post : ab_O → ab_H → Prop} (hav : (av.all ab_n1 && Nat.ble av.length 5) = true) (h : ∀ At, ab_rule bX9_add d mc ms post At → At 0 (av.map some ++ List.replicate (5 - av.length) none) [] σ 0 0) : ab_call d mc ms yX9_add av σ post :=
  ab_entry (o := 9) (ini := false) (ret := (some .int)) (maxL := 5) (ab_w_in (i := 761) (by decide +kernel)) (by decide +kernel) (by decide) (by decide +kernel) (by decide +kernel) rfl kX9_add hav h
def bX9_many : List (List ab_I) := [[(.aload_n 0, y0, []), (.iload_n 2, y0, []), (.iload_n 3, y0, []), (.iload 4, y0, []), (.iload 5, y0, []), (.invokevirtual 118, yX9_give, [9, 4]), (.aload_n 0, y0, []), (.iload_n 1, y0, []), (.iconst 1, y0, []), (.if_icmp .lt 28, y0, [4])],
  [(.iload_n 1, y0, []), (.sipush 400, y0, []), (.if_icmp .gt 21, y0, [4])],
  [(.aload_n 0, y0, []), (.getfield 19, y0, [9, 1]), (.aload_n 0, y0, []), (.getfield 71, y0, [9, 8]), (.invokevirtual 122, yX6_fits, [6, 1]), (.ifCond .eq 7, y0, [4])],
  [(.iconst 1, y0, []), (.goto 4, y0, [5])],
  [(.iconst 0, y0, [])],
  [(.invokevirtual 90, yX9_needArgument, [9, 1]), (.aload_n 0, y0, []), (.aload_n 0, y0, []), (.getfield 19, y0, [9, 1]), (.getfield 94, y0, [6, 8]), (.sipush 1500, y0, []), (.iload_n 1, y0, []), (.isub, y0, []), (.if_icmp .gt 7, y0, [7])],
  [(.iconst 1, y0, []), (.goto 4, y0, [8])],
  [(.iconst 0, y0, [])],
  [(.invokevirtual 100, yX9_needState, [9, 1]), (.aload_n 0, y0, []), (.getfield 19, y0, [9, 1]), (.iload_n 1, y0, []), (.aload_n 0, y0, []), (.getfield 71, y0, [9, 8]), (.invokevirtual 126, yX6_append, [6, 2]), (.aload_n 0, y0, []), (.getfield 19, y0, [9, 1]), (.getfield 94, y0, [6, 8]), (.ireturn, y0, [])]]
def pX9_many : List Nat := [0, 16, 23, 37, 41, 42, 61, 65, 66, 89]
theorem kX9_many : ab_cks cX9_many 9 (some .int) false 6 pX9_many (fun _ => true) 0 bX9_many = true := by decide +kernel
theorem eX9_many {d mc ms : Nat} {av : List ab_V} {σ : ab_H} {post : ab_O → ab_H → Prop} (hav : (av.all ab_n1 && Nat.ble av.length 6) = true) (h : ∀ At, ab_rule bX9_many d mc ms post At → At 0 (av.map some ++ List.replicate (6 - av.length) none) [] σ 0 0) : ab_call d mc ms yX9_many av σ post :=
  ab_entry (o := 9) (ini := false) (ret := (some .int)) (maxL := 6) (ab_w_in (i := 781) (by decide +kernel)) (by decide +kernel) (by decide) (by decide +kernel) (by decide +kernel) rfl kX9_many hav h
def bX9_delete : List (List ab_I) := [[(.aload_n 0, y0, []), (.aload_n 0, y0, []), (.getfield 19, y0, [9, 1]), (.iload_n 1, y0, []), (.invokevirtual 130, yX6_hasRow, [6, 1]), (.ifCond .eq 21, y0, [3])],
  [(.aload_n 0, y0, []), (.getfield 19, y0, [9, 1]), (.invokevirtual 133, yX6_live, [6, 0]), (.iload_n 1, y0, []), (.invokevirtual 137, yX2_contains, [2, 1]), (.ifCond .eq 7, y0, [3])],
  [(.iconst 1, y0, []), (.goto 4, y0, [4])],
  [(.iconst 0, y0, [])],
  [(.invokevirtual 140, yX9_needElement, [9, 1]), (.aload_n 0, y0, []), (.getfield 19, y0, [9, 1]), (.invokevirtual 133, yX6_live, [6, 0]), (.iload_n 1, y0, []), (.iconst 0, y0, []), (.invokevirtual 143, yX2_put, [2, 2]), (.aload_n 0, y0, []), (.getfield 19, y0, [9, 1]), (.invokevirtual 133, yX6_live, [6, 0]), (.invokevirtual 146, yX2_count, [2, 0]), (.ireturn, y0, [])]]
def pX9_delete : List Nat := [0, 12, 26, 30, 31, 57]
theorem kX9_delete : ab_cks cX9_delete 9 (some .int) false 2 pX9_delete (fun _ => true) 0 bX9_delete = true := by decide +kernel
theorem eX9_delete {d mc ms : Nat} {av : List ab_V} {σ : ab_H} {post : ab_O → ab_H → Prop} (hav : (av.all ab_n1 && Nat.ble av.length 2) = true) (h : ∀ At, ab_rule bX9_delete d mc ms post At → At 0 (av.map some ++ List.replicate (2 - av.length) none) [] σ 0 0) : ab_call d mc ms yX9_delete av σ post :=
  ab_entry (o := 9) (ini := false) (ret := (some .int)) (maxL := 2) (ab_w_in (i := 789) (by decide +kernel)) (by decide +kernel) (by decide) (by decide +kernel) (by decide +kernel) rfl kX9_delete hav h
def bX9_close : List (List ab_I) := [[(.aload_n 0, y0, []), (.getfield 19, y0, [9, 1]), (.invokevirtual 149, yX6_closeUp, [6, 0]), (.ireturn, y0, [])]]
def pX9_close : List Nat := [0, 8]
theorem kX9_close : ab_cks cX9_close 9 (some .int) false 1 pX9_close (fun _ => true) 0 bX9_close = true := by decide +kernel
theorem eX9_close {d mc ms : Nat} {av : List ab_V} {σ : ab_H} {post : ab_O → ab_H → Prop} (hav : (av.all ab_n1 && Nat.ble av.length 1) = true) (h : ∀ At, ab_rule bX9_close d mc ms post At → At 0 (av.map some ++ List.replicate (1 - av.length) none) [] σ 0 0) : ab_call d mc ms yX9_close av σ post :=
  ab_entry (o := 9) (ini := false) (ret := (some .int)) (maxL := 1) (ab_w_in (i := 417) (by decide +kernel)) (by decide +kernel) (by decide) (by decide +kernel) (by decide +kernel) rfl kX9_close hav h
def bX9_ask : List (List ab_I) := [[(.aload_n 0, y0, []), (.iload_n 1, y0, []), (.invokestatic 152, yX9_isResult, [1]), (.invokevirtual 140, yX9_needElement, [9, 1]), (.aload_n 0, y0, []), (.aload_n 0, y0, []), (.iload_n 2, y0, []), (.invokevirtual 86, yX9_isTextLength, [9, 1]), (.invokevirtual 90, yX9_needArgument, [9, 1]), (.aload_n 0, y0, []), (.getfield 10, y0, [9, 0]), (.iload_n 2, y0, []), (.invokevirtual 103, yX7_take, [7, 1]), (.aload_n 0, y0, []), (.getfield 44, y0, [9, 4]), (.invokevirtual 155, yX5_isRead, [5, 0]), (.ifCond .ne 11, y0, [2])],
  [(.aload_n 0, y0, []), (.getfield 10, y0, [9, 0]), (.invokevirtual 110, yX7_refusal, [7, 0]), (.ireturn, y0, [])],
  [(.aload_n 0, y0, []), (.getfield 53, y0, [9, 5]), (.aload_n 0, y0, []), (.getfield 44, y0, [9, 4]), (.invokevirtual 159, yX0_answerTo, [0, 1]), (.astore_n 3, y0, []), (.iconst 0, y0, []), (.istore 4, y0, [])],
  [(.iload 4, y0, []), (.aload_n 0, y0, []), (.getfield 75, y0, [9, 9]), (.arraylength, y0, [0, 0]), (.if_icmp .ge 26, y0, [5])],
  [(.aload_n 0, y0, []), (.getfield 75, y0, [9, 9]), (.iload 4, y0, []), (.aload_n 0, y0, []), (.getfield 53, y0, [9, 5]), (.getfield 163, y0, [0, 3]), (.iload 4, y0, []), (.iaload, y0, []), (.iastore, y0, []), (.iinc 4 1, y0, []), (.goto (-30), y0, [3])],
  [(.aload_n 0, y0, []), (.getfield 19, y0, [9, 1]), (.getfield 166, y0, [6, 1]), (.iload_n 1, y0, []), (.aaload, y0, [0]), (.aload_n 3, y0, []), (.invokevirtual 170, yX2_copyFrom, [2, 1]), (.aload_n 3, y0, []), (.invokevirtual 146, yX2_count, [2, 0]), (.ireturn, y0, [])]]
def pX9_ask : List Nat := [0, 35, 43, 58, 68, 91, 109]
theorem kX9_ask : ab_cks cX9_ask 9 (some .int) false 5 pX9_ask (fun _ => true) 0 bX9_ask = true := by decide +kernel
theorem eX9_ask {d mc ms : Nat} {av : List ab_V} {σ : ab_H} {post : ab_O → ab_H → Prop} (hav : (av.all ab_n1 && Nat.ble av.length 5) = true) (h : ∀ At, ab_rule bX9_ask d mc ms post At → At 0 (av.map some ++ List.replicate (5 - av.length) none) [] σ 0 0) : ab_call d mc ms yX9_ask av σ post :=
  ab_entry (o := 9) (ini := false) (ret := (some .int)) (maxL := 5) (ab_w_in (i := 824) (by decide +kernel)) (by decide +kernel) (by decide) (by decide +kernel) (by decide +kernel) rfl kX9_ask hav h
def bX9_load : List (List ab_I) := [[(.aload_n 0, y0, []), (.iload_n 1, y0, []), (.invokestatic 152, yX9_isResult, [1]), (.invokevirtual 140, yX9_needElement, [9, 1]), (.aload_n 0, y0, []), (.iload_n 2, y0, []), (.ifCond .lt 18, y0, [3])],
  [(.iload_n 2, y0, []), (.aload_n 0, y0, []), (.getfield 10, y0, [9, 0]), (.getfield 78, y0, [7, 1]), (.if_icmp .gt 7, y0, [3])],
  [(.iconst 1, y0, []), (.goto 4, y0, [4])],
  [(.iconst 0, y0, [])],
  [(.invokevirtual 90, yX9_needArgument, [9, 1]), (.aload_n 0, y0, []), (.getfield 10, y0, [9, 0]), (.iload_n 2, y0, []), (.invokevirtual 103, yX7_take, [7, 1]), (.aload_n 0, y0, []), (.getfield 67, y0, [9, 7]), (.iconst 0, y0, []), (.invokevirtual 174, yX2_fillTo, [2, 1]), (.aload_n 0, y0, []), (.getfield 35, y0, [9, 3]), (.aload_n 0, y0, []), (.getfield 67, y0, [9, 7]), (.aload_n 0, y0, []), (.getfield 19, y0, [9, 1]), (.getfield 94, y0, [6, 8]), (.invokevirtual 177, yX8_readInto, [8, 2]), (.aload_n 0, y0, []), (.getfield 10, y0, [9, 0]), (.invokevirtual 181, yX7_isSound, [7, 0]), (.ifCond .ne 11, y0, [6])],
  [(.aload_n 0, y0, []), (.getfield 10, y0, [9, 0]), (.invokevirtual 110, yX7_refusal, [7, 0]), (.ireturn, y0, [])],
  [(.aload_n 0, y0, []), (.getfield 19, y0, [9, 1]), (.getfield 166, y0, [6, 1]), (.iload_n 1, y0, []), (.aaload, y0, [0]), (.aload_n 0, y0, []), (.getfield 67, y0, [9, 7]), (.invokevirtual 170, yX2_copyFrom, [2, 1]), (.aload_n 0, y0, []), (.getfield 67, y0, [9, 7]), (.invokevirtual 146, yX2_count, [2, 0]), (.ireturn, y0, [])]]
def pX9_load : List Nat := [0, 13, 24, 28, 29, 76, 84, 108]
theorem kX9_load : ab_cks cX9_load 9 (some .int) false 3 pX9_load (fun _ => true) 0 bX9_load = true := by decide +kernel
theorem eX9_load {d mc ms : Nat} {av : List ab_V} {σ : ab_H} {post : ab_O → ab_H → Prop} (hav : (av.all ab_n1 && Nat.ble av.length 3) = true) (h : ∀ At, ab_rule bX9_load d mc ms post At → At 0 (av.map some ++ List.replicate (3 - av.length) none) [] σ 0 0) : ab_call d mc ms yX9_load av σ post :=
  ab_entry (o := 9) (ini := false) (ret := (some .int)) (maxL := 3) (ab_w_in (i := 965) (by decide +kernel)) (by decide +kernel) (by decide) (by decide +kernel) (by decide +kernel) rfl kX9_load hav h
def bX9_fault : List (List ab_I) := [[(.aload_n 0, y0, []), (.getfield 10, y0, [9, 0]), (.getfield 184, y0, [7, 6]), (.ireturn, y0, [])]]
def pX9_fault : List Nat := [0, 8]
theorem kX9_fault : ab_cks cX9_fault 9 (some .int) false 1 pX9_fault (fun _ => true) 0 bX9_fault = true := by decide +kernel
theorem eX9_fault {d mc ms : Nat} {av : List ab_V} {σ : ab_H} {post : ab_O → ab_H → Prop} (hav : (av.all ab_n1 && Nat.ble av.length 1) = true) (h : ∀ At, ab_rule bX9_fault d mc ms post At → At 0 (av.map some ++ List.replicate (1 - av.length) none) [] σ 0 0) : ab_call d mc ms yX9_fault av σ post :=
  ab_entry (o := 9) (ini := false) (ret := (some .int)) (maxL := 1) (ab_w_in (i := 493) (by decide +kernel)) (by decide +kernel) (by decide) (by decide +kernel) (by decide +kernel) rfl kX9_fault hav h
def bX9_logic : List (List ab_I) := [[(.aload_n 0, y0, []), (.iload_n 2, y0, []), (.invokestatic 152, yX9_isResult, [1]), (.ifCond .eq 22, y0, [4])],
  [(.iload_n 3, y0, []), (.invokestatic 152, yX9_isResult, [1]), (.ifCond .eq 15, y0, [4])],
  [(.iload 4, y0, []), (.invokestatic 152, yX9_isResult, [1]), (.ifCond .eq 7, y0, [4])],
  [(.iconst 1, y0, []), (.goto 4, y0, [5])],
  [(.iconst 0, y0, [])],
  [(.invokevirtual 140, yX9_needElement, [9, 1]), (.aload_n 0, y0, []), (.iload_n 1, y0, []), (.ifCond .lt 12, y0, [8])],
  [(.iload_n 1, y0, []), (.iconst 3, y0, []), (.if_icmp .gt 7, y0, [8])],
  [(.iconst 1, y0, []), (.goto 4, y0, [9])],
  [(.iconst 0, y0, [])],
  [(.invokevirtual 90, yX9_needArgument, [9, 1]), (.aload_n 0, y0, []), (.getfield 19, y0, [9, 1]), (.getfield 166, y0, [6, 1]), (.iload 4, y0, []), (.aaload, y0, [0]), (.astore 5, y0, []), (.aload 5, y0, []), (.iload_n 1, y0, []), (.aload_n 0, y0, []), (.getfield 19, y0, [9, 1]), (.getfield 166, y0, [6, 1]), (.iload_n 2, y0, []), (.aaload, y0, [0]), (.aload_n 0, y0, []), (.getfield 19, y0, [9, 1]), (.getfield 166, y0, [6, 1]), (.iload_n 3, y0, []), (.aaload, y0, [0]), (.invokevirtual 187, yX2_becomeLogic, [2, 3]), (.aload 5, y0, []), (.invokevirtual 146, yX2_count, [2, 0]), (.ireturn, y0, [])]]
def pX9_logic : List Nat := [0, 8, 15, 23, 27, 28, 36, 41, 45, 46, 91]
theorem kX9_logic : ab_cks cX9_logic 9 (some .int) false 6 pX9_logic (fun _ => true) 0 bX9_logic = true := by decide +kernel
theorem eX9_logic {d mc ms : Nat} {av : List ab_V} {σ : ab_H} {post : ab_O → ab_H → Prop} (hav : (av.all ab_n1 && Nat.ble av.length 6) = true) (h : ∀ At, ab_rule bX9_logic d mc ms post At → At 0 (av.map some ++ List.replicate (6 - av.length) none) [] σ 0 0) : ab_call d mc ms yX9_logic av σ post :=
  ab_entry (o := 9) (ini := false) (ret := (some .int)) (maxL := 6) (ab_w_in (i := 988) (by decide +kernel)) (by decide +kernel) (by decide) (by decide +kernel) (by decide +kernel) rfl kX9_logic hav h
def bX9_turn : List (List ab_I) := [[(.aload_n 0, y0, []), (.iload_n 1, y0, []), (.invokestatic 152, yX9_isResult, [1]), (.invokevirtual 140, yX9_needElement, [9, 1]), (.aload_n 0, y0, []), (.getfield 19, y0, [9, 1]), (.getfield 166, y0, [6, 1]), (.iload_n 1, y0, []), (.aaload, y0, [0]), (.aload_n 0, y0, []), (.getfield 19, y0, [9, 1]), (.getfield 94, y0, [6, 8]), (.invokevirtual 191, yX2_turnOver, [2, 1]), (.aload_n 0, y0, []), (.getfield 19, y0, [9, 1]), (.getfield 166, y0, [6, 1]), (.iload_n 1, y0, []), (.aaload, y0, [0]), (.invokevirtual 146, yX2_count, [2, 0]), (.ireturn, y0, [])]]
def pX9_turn : List Nat := [0, 40]
theorem kX9_turn : ab_cks cX9_turn 9 (some .int) false 2 pX9_turn (fun _ => true) 0 bX9_turn = true := by decide +kernel
theorem eX9_turn {d mc ms : Nat} {av : List ab_V} {σ : ab_H} {post : ab_O → ab_H → Prop} (hav : (av.all ab_n1 && Nat.ble av.length 2) = true) (h : ∀ At, ab_rule bX9_turn d mc ms post At → At 0 (av.map some ++ List.replicate (2 - av.length) none) [] σ 0 0) : ab_call d mc ms yX9_turn av σ post :=
  ab_entry (o := 9) (ini := false) (ret := (some .int)) (maxL := 2) (ab_w_in (i := 996) (by decide +kernel)) (by decide +kernel) (by decide) (by decide +kernel) (by decide +kernel) rfl kX9_turn hav h
def bX9_told : List (List ab_I) := [[(.aload_n 0, y0, []), (.iload_n 1, y0, []), (.ifCond .lt 13, y0, [3])],
  [(.iload_n 1, y0, []), (.bipush 6, y0, []), (.if_icmp .gt 7, y0, [3])],
  [(.iconst 1, y0, []), (.goto 4, y0, [4])],
  [(.iconst 0, y0, [])],
  [(.invokevirtual 90, yX9_needArgument, [9, 1]), (.iload_n 1, y0, []), (.tableswitch 91 0 5 #[40, 48, 56, 67, 75, 83], y0, [11, 5, 6, 7, 8, 9, 10])],
  [(.aload_n 0, y0, []), (.getfield 19, y0, [9, 1]), (.getfield 97, y0, [6, 7]), (.ireturn, y0, [])],
  [(.aload_n 0, y0, []), (.getfield 19, y0, [9, 1]), (.getfield 94, y0, [6, 8]), (.ireturn, y0, [])],
  [(.aload_n 0, y0, []), (.getfield 19, y0, [9, 1]), (.invokevirtual 133, yX6_live, [6, 0]), (.invokevirtual 146, yX2_count, [2, 0]), (.ireturn, y0, [])],
  [(.aload_n 0, y0, []), (.getfield 19, y0, [9, 1]), (.invokevirtual 194, yX6_groupsUsed, [6, 0]), (.ireturn, y0, [])],
  [(.aload_n 0, y0, []), (.getfield 19, y0, [9, 1]), (.invokevirtual 197, yX6_bitmapCount, [6, 0]), (.ireturn, y0, [])],
  [(.aload_n 0, y0, []), (.getfield 19, y0, [9, 1]), (.invokevirtual 200, yX6_wordsOfAll, [6, 0]), (.ireturn, y0, [])],
  [(.aload_n 0, y0, []), (.getfield 10, y0, [9, 0]), (.getfield 78, y0, [7, 1]), (.ireturn, y0, [])]]
def pX9_told : List Nat := [0, 5, 11, 15, 16, 60, 68, 76, 87, 95, 103, 111, 119]
theorem kX9_told : ab_cks cX9_told 9 (some .int) false 2 pX9_told (fun _ => true) 0 bX9_told = true := by decide +kernel
theorem eX9_told {d mc ms : Nat} {av : List ab_V} {σ : ab_H} {post : ab_O → ab_H → Prop} (hav : (av.all ab_n1 && Nat.ble av.length 2) = true) (h : ∀ At, ab_rule bX9_told d mc ms post At → At 0 (av.map some ++ List.replicate (2 - av.length) none) [] σ 0 0) : ab_call d mc ms yX9_told av σ post :=
  ab_entry (o := 9) (ini := false) (ret := (some .int)) (maxL := 2) (ab_w_in (i := 1004) (by decide +kernel)) (by decide +kernel) (by decide) (by decide +kernel) (by decide +kernel) rfl kX9_told hav h
def bX9_columnOf : List (List ab_I) := [[(.aload_n 0, y0, []), (.iload_n 1, y0, []), (.invokevirtual 203, yX9_existingColumn, [9, 1]), (.astore_n 3, y0, []), (.aload_n 0, y0, []), (.iload_n 2, y0, []), (.ifCond .lt 12, y0, [3])],
  [(.iload_n 2, y0, []), (.iconst 4, y0, []), (.if_icmp .gt 7, y0, [3])],
  [(.iconst 1, y0, []), (.goto 4, y0, [4])],
  [(.iconst 0, y0, [])],
  [(.invokevirtual 90, yX9_needArgument, [9, 1]), (.iload_n 2, y0, []), (.tableswitch 60 0 3 #[31, 36, 41, 54], y0, [12, 5, 6, 7, 11])],
  [(.aload_n 3, y0, []), (.getfield 207, y0, [3, 1]), (.ireturn, y0, [])],
  [(.aload_n 3, y0, []), (.getfield 212, y0, [3, 2]), (.ireturn, y0, [])],
  [(.aload_n 3, y0, []), (.getfield 215, y0, [3, 0]), (.ifCond .eq 7, y0, [9])],
  [(.iconst 1, y0, []), (.goto 4, y0, [10])],
  [(.iconst 0, y0, [])],
  [(.ireturn, y0, [])],
  [(.aload_n 3, y0, []), (.getfield 219, y0, [3, 6]), (.arraylength, y0, [1, 0]), (.ireturn, y0, [])],
  [(.aload_n 3, y0, []), (.aload_n 0, y0, []), (.getfield 19, y0, [9, 1]), (.invokevirtual 194, yX6_groupsUsed, [6, 0]), (.invokevirtual 222, yX3_wordsOfColumn, [3, 1]), (.ireturn, y0, [])]]
def pX9_columnOf : List Nat := [0, 11, 16, 20, 21, 56, 61, 66, 73, 77, 78, 79, 85, 97]
theorem kX9_columnOf : ab_cks cX9_columnOf 9 (some .int) false 4 pX9_columnOf (fun _ => true) 0 bX9_columnOf = true := by decide +kernel
theorem eX9_columnOf {d mc ms : Nat} {av : List ab_V} {σ : ab_H} {post : ab_O → ab_H → Prop} (hav : (av.all ab_n1 && Nat.ble av.length 4) = true) (h : ∀ At, ab_rule bX9_columnOf d mc ms post At → At 0 (av.map some ++ List.replicate (4 - av.length) none) [] σ 0 0) : ab_call d mc ms yX9_columnOf av σ post :=
  ab_entry (o := 9) (ini := false) (ret := (some .int)) (maxL := 4) (ab_w_in (i := 1029) (by decide +kernel)) (by decide +kernel) (by decide) (by decide +kernel) (by decide +kernel) rfl kX9_columnOf hav h
def bX9_base : List (List ab_I) := [[(.aload_n 0, y0, []), (.iload_n 1, y0, []), (.invokevirtual 203, yX9_existingColumn, [9, 1]), (.astore_n 3, y0, []), (.aload_n 0, y0, []), (.aload_n 3, y0, []), (.iload_n 2, y0, []), (.invokevirtual 226, yX3_hasComponent, [3, 1]), (.invokevirtual 140, yX9_needElement, [9, 1]), (.aload_n 3, y0, []), (.getfield 229, y0, [3, 3]), (.iload_n 2, y0, []), (.iconst 1, y0, []), (.isub, y0, []), (.iaload, y0, []), (.ireturn, y0, [])]]
def pX9_base : List Nat := [0, 24]
theorem kX9_base : ab_cks cX9_base 9 (some .int) false 4 pX9_base (fun _ => true) 0 bX9_base = true := by decide +kernel
theorem eX9_base {d mc ms : Nat} {av : List ab_V} {σ : ab_H} {post : ab_O → ab_H → Prop} (hav : (av.all ab_n1 && Nat.ble av.length 4) = true) (h : ∀ At, ab_rule bX9_base d mc ms post At → At 0 (av.map some ++ List.replicate (4 - av.length) none) [] σ 0 0) : ab_call d mc ms yX9_base av σ post :=
  ab_entry (o := 9) (ini := false) (ret := (some .int)) (maxL := 4) (ab_w_in (i := 1041) (by decide +kernel)) (by decide +kernel) (by decide) (by decide +kernel) (by decide +kernel) rfl kX9_base hav h
def bX9_index : List (List ab_I) := [[(.aload_n 0, y0, []), (.iload_n 1, y0, []), (.iload_n 2, y0, []), (.iload_n 3, y0, []), (.invokevirtual 232, yX9_existingBitmap, [9, 3]), (.astore 5, y0, []), (.aload_n 0, y0, []), (.iload 4, y0, []), (.ifCond .lt 13, y0, [3])],
  [(.iload 4, y0, []), (.iconst 5, y0, []), (.if_icmp .gt 7, y0, [3])],
  [(.iconst 1, y0, []), (.goto 4, y0, [4])],
  [(.iconst 0, y0, [])],
  [(.invokevirtual 90, yX9_needArgument, [9, 1]), (.aload 5, y0, []), (.iload 4, y0, []), (.aload_n 0, y0, []), (.getfield 19, y0, [9, 1]), (.invokevirtual 194, yX6_groupsUsed, [6, 0]), (.invokevirtual 236, yX2_measure, [2, 2]), (.ireturn, y0, [])]]
def pX9_index : List Nat := [0, 15, 21, 25, 26, 44]
theorem kX9_index : ab_cks cX9_index 9 (some .int) false 6 pX9_index (fun _ => true) 0 bX9_index = true := by decide +kernel
theorem eX9_index {d mc ms : Nat} {av : List ab_V} {σ : ab_H} {post : ab_O → ab_H → Prop} (hav : (av.all ab_n1 && Nat.ble av.length 6) = true) (h : ∀ At, ab_rule bX9_index d mc ms post At → At 0 (av.map some ++ List.replicate (6 - av.length) none) [] σ 0 0) : ab_call d mc ms yX9_index av σ post :=
  ab_entry (o := 9) (ini := false) (ret := (some .int)) (maxL := 6) (ab_w_in (i := 1052) (by decide +kernel)) (by decide +kernel) (by decide) (by decide +kernel) (by decide +kernel) rfl kX9_index hav h
def bX9_indexWord : List (List ab_I) := [[(.aload_n 0, y0, []), (.aload_n 0, y0, []), (.iload_n 1, y0, []), (.iload_n 2, y0, []), (.iload_n 3, y0, []), (.invokevirtual 232, yX9_existingBitmap, [9, 3]), (.iload 4, y0, []), (.invokevirtual 240, yX9_existingWord, [9, 2]), (.ireturn, y0, [])]]
def pX9_indexWord : List Nat := [0, 14]
theorem kX9_indexWord : ab_cks cX9_indexWord 9 (some .int) false 5 pX9_indexWord (fun _ => true) 0 bX9_indexWord = true := by decide +kernel
theorem eX9_indexWord {d mc ms : Nat} {av : List ab_V} {σ : ab_H} {post : ab_O → ab_H → Prop} (hav : (av.all ab_n1 && Nat.ble av.length 5) = true) (h : ∀ At, ab_rule bX9_indexWord d mc ms post At → At 0 (av.map some ++ List.replicate (5 - av.length) none) [] σ 0 0) : ab_call d mc ms yX9_indexWord av σ post :=
  ab_entry (o := 9) (ini := false) (ret := (some .int)) (maxL := 5) (ab_w_in (i := 1098) (by decide +kernel)) (by decide +kernel) (by decide) (by decide +kernel) (by decide +kernel) rfl kX9_indexWord hav h
def bX9_result : List (List ab_I) := [[(.aload_n 0, y0, []), (.iload_n 1, y0, []), (.invokevirtual 244, yX9_existingResult, [9, 1]), (.astore_n 3, y0, []), (.aload_n 0, y0, []), (.iload_n 2, y0, []), (.ifCond .lt 13, y0, [3])],
  [(.iload_n 2, y0, []), (.bipush 7, y0, []), (.if_icmp .gt 7, y0, [3])],
  [(.iconst 1, y0, []), (.goto 4, y0, [4])],
  [(.iconst 0, y0, [])],
  [(.invokevirtual 90, yX9_needArgument, [9, 1]), (.aload_n 3, y0, []), (.iload_n 2, y0, []), (.aload_n 0, y0, []), (.getfield 19, y0, [9, 1]), (.invokevirtual 194, yX6_groupsUsed, [6, 0]), (.invokevirtual 236, yX2_measure, [2, 2]), (.ireturn, y0, [])]]
def pX9_result : List Nat := [0, 11, 17, 21, 22, 38]
theorem kX9_result : ab_cks cX9_result 9 (some .int) false 4 pX9_result (fun _ => true) 0 bX9_result = true := by decide +kernel
theorem eX9_result {d mc ms : Nat} {av : List ab_V} {σ : ab_H} {post : ab_O → ab_H → Prop} (hav : (av.all ab_n1 && Nat.ble av.length 4) = true) (h : ∀ At, ab_rule bX9_result d mc ms post At → At 0 (av.map some ++ List.replicate (4 - av.length) none) [] σ 0 0) : ab_call d mc ms yX9_result av σ post :=
  ab_entry (o := 9) (ini := false) (ret := (some .int)) (maxL := 4) (ab_w_in (i := 1123) (by decide +kernel)) (by decide +kernel) (by decide) (by decide +kernel) (by decide +kernel) rfl kX9_result hav h
def bX9_word : List (List ab_I) := [[(.aload_n 0, y0, []), (.aload_n 0, y0, []), (.iload_n 1, y0, []), (.invokevirtual 244, yX9_existingResult, [9, 1]), (.iload_n 2, y0, []), (.invokevirtual 240, yX9_existingWord, [9, 2]), (.ireturn, y0, [])]]
def pX9_word : List Nat := [0, 11]
theorem kX9_word : ab_cks cX9_word 9 (some .int) false 3 pX9_word (fun _ => true) 0 bX9_word = true := by decide +kernel
theorem eX9_word {d mc ms : Nat} {av : List ab_V} {σ : ab_H} {post : ab_O → ab_H → Prop} (hav : (av.all ab_n1 && Nat.ble av.length 3) = true) (h : ∀ At, ab_rule bX9_word d mc ms post At → At 0 (av.map some ++ List.replicate (3 - av.length) none) [] σ 0 0) : ab_call d mc ms yX9_word av σ post :=
  ab_entry (o := 9) (ini := false) (ret := (some .int)) (maxL := 3) (ab_w_in (i := 1134) (by decide +kernel)) (by decide +kernel) (by decide) (by decide +kernel) (by decide +kernel) rfl kX9_word hav h
def bX9_has : List (List ab_I) := [[(.aload_n 0, y0, []), (.iload_n 1, y0, []), (.invokevirtual 244, yX9_existingResult, [9, 1]), (.astore_n 3, y0, []), (.aload_n 0, y0, []), (.aload_n 0, y0, []), (.getfield 19, y0, [9, 1]), (.iload_n 2, y0, []), (.invokevirtual 130, yX6_hasRow, [6, 1]), (.invokevirtual 140, yX9_needElement, [9, 1]), (.aload_n 3, y0, []), (.iload_n 2, y0, []), (.invokevirtual 137, yX2_contains, [2, 1]), (.ireturn, y0, [1])]]
def pX9_has : List Nat := [0, 24]
theorem kX9_has : ab_cks cX9_has 9 (some .boolean) false 4 pX9_has (fun _ => true) 0 bX9_has = true := by decide +kernel
theorem eX9_has {d mc ms : Nat} {av : List ab_V} {σ : ab_H} {post : ab_O → ab_H → Prop} (hav : (av.all ab_n1 && Nat.ble av.length 4) = true) (h : ∀ At, ab_rule bX9_has d mc ms post At → At 0 (av.map some ++ List.replicate (4 - av.length) none) [] σ 0 0) : ab_call d mc ms yX9_has av σ post :=
  ab_entry (o := 9) (ini := false) (ret := (some .boolean)) (maxL := 4) (ab_w_in (i := 1141) (by decide +kernel)) (by decide +kernel) (by decide) (by decide +kernel) (by decide +kernel) rfl kX9_has hav h
def bX9_rank : List (List ab_I) := [[(.aload_n 0, y0, []), (.iload_n 1, y0, []), (.invokevirtual 244, yX9_existingResult, [9, 1]), (.astore_n 3, y0, []), (.aload_n 0, y0, []), (.iload_n 2, y0, []), (.ifCond .lt 18, y0, [3])],
  [(.iload_n 2, y0, []), (.aload_n 0, y0, []), (.getfield 19, y0, [9, 1]), (.getfield 94, y0, [6, 8]), (.if_icmp .gt 7, y0, [3])],
  [(.iconst 1, y0, []), (.goto 4, y0, [4])],
  [(.iconst 0, y0, [])],
  [(.invokevirtual 90, yX9_needArgument, [9, 1]), (.aload_n 3, y0, []), (.iload_n 2, y0, []), (.invokevirtual 248, yX2_countBelow, [2, 1]), (.ireturn, y0, [])]]
def pX9_rank : List Nat := [0, 11, 22, 26, 27, 36]
theorem kX9_rank : ab_cks cX9_rank 9 (some .int) false 4 pX9_rank (fun _ => true) 0 bX9_rank = true := by decide +kernel
theorem eX9_rank {d mc ms : Nat} {av : List ab_V} {σ : ab_H} {post : ab_O → ab_H → Prop} (hav : (av.all ab_n1 && Nat.ble av.length 4) = true) (h : ∀ At, ab_rule bX9_rank d mc ms post At → At 0 (av.map some ++ List.replicate (4 - av.length) none) [] σ 0 0) : ab_call d mc ms yX9_rank av σ post :=
  ab_entry (o := 9) (ini := false) (ret := (some .int)) (maxL := 4) (ab_w_in (i := 1148) (by decide +kernel)) (by decide +kernel) (by decide) (by decide +kernel) (by decide +kernel) rfl kX9_rank hav h
def bX9_select : List (List ab_I) := [[(.aload_n 0, y0, []), (.iload_n 1, y0, []), (.invokevirtual 244, yX9_existingResult, [9, 1]), (.iload_n 2, y0, []), (.invokevirtual 251, yX2_nthRow, [2, 1]), (.ireturn, y0, [])]]
def pX9_select : List Nat := [0, 10]
theorem kX9_select : ab_cks cX9_select 9 (some .int) false 3 pX9_select (fun _ => true) 0 bX9_select = true := by decide +kernel
theorem eX9_select {d mc ms : Nat} {av : List ab_V} {σ : ab_H} {post : ab_O → ab_H → Prop} (hav : (av.all ab_n1 && Nat.ble av.length 3) = true) (h : ∀ At, ab_rule bX9_select d mc ms post At → At 0 (av.map some ++ List.replicate (3 - av.length) none) [] σ 0 0) : ab_call d mc ms yX9_select av σ post :=
  ab_entry (o := 9) (ini := false) (ret := (some .int)) (maxL := 3) (ab_w_in (i := 1159) (by decide +kernel)) (by decide +kernel) (by decide) (by decide +kernel) (by decide +kernel) rfl kX9_select hav h
def bX9_next : List (List ab_I) := [[(.aload_n 0, y0, []), (.iload_n 1, y0, []), (.invokevirtual 244, yX9_existingResult, [9, 1]), (.astore_n 3, y0, []), (.aload_n 0, y0, []), (.iload_n 2, y0, []), (.ifCond .lt 18, y0, [3])],
  [(.iload_n 2, y0, []), (.aload_n 0, y0, []), (.getfield 19, y0, [9, 1]), (.getfield 94, y0, [6, 8]), (.if_icmp .gt 7, y0, [3])],
  [(.iconst 1, y0, []), (.goto 4, y0, [4])],
  [(.iconst 0, y0, [])],
  [(.invokevirtual 90, yX9_needArgument, [9, 1]), (.aload_n 3, y0, []), (.iload_n 2, y0, []), (.invokevirtual 254, yX2_firstRowFrom, [2, 1]), (.ireturn, y0, [])]]
def pX9_next : List Nat := [0, 11, 22, 26, 27, 36]
theorem kX9_next : ab_cks cX9_next 9 (some .int) false 4 pX9_next (fun _ => true) 0 bX9_next = true := by decide +kernel
theorem eX9_next {d mc ms : Nat} {av : List ab_V} {σ : ab_H} {post : ab_O → ab_H → Prop} (hav : (av.all ab_n1 && Nat.ble av.length 4) = true) (h : ∀ At, ab_rule bX9_next d mc ms post At → At 0 (av.map some ++ List.replicate (4 - av.length) none) [] σ 0 0) : ab_call d mc ms yX9_next av σ post :=
  ab_entry (o := 9) (ini := false) (ret := (some .int)) (maxL := 4) (ab_w_in (i := 1174) (by decide +kernel)) (by decide +kernel) (by decide) (by decide +kernel) (by decide +kernel) rfl kX9_next hav h
def bX9_would : List (List ab_I) := [[(.aload_n 0, y0, []), (.iload_n 2, y0, []), (.invokevirtual 244, yX9_existingResult, [9, 1]), (.astore 5, y0, []), (.aload_n 0, y0, []), (.iload_n 3, y0, []), (.invokevirtual 244, yX9_existingResult, [9, 1]), (.astore 6, y0, []), (.aload_n 0, y0, []), (.iload_n 1, y0, []), (.ifCond .lt 23, y0, [5])],
  [(.iload_n 1, y0, []), (.iconst 3, y0, []), (.if_icmp .gt 18, y0, [5])],
  [(.iload 4, y0, []), (.ifCond .lt 13, y0, [5])],
  [(.iload 4, y0, []), (.iconst 2, y0, []), (.if_icmp .gt 7, y0, [5])],
  [(.iconst 1, y0, []), (.goto 4, y0, [6])],
  [(.iconst 0, y0, [])],
  [(.invokevirtual 90, yX9_needArgument, [9, 1]), (.iload 4, y0, []), (.iconst 2, y0, []), (.if_icmp .ne 18, y0, [8])],
  [(.aload 5, y0, []), (.aload 6, y0, []), (.aload_n 0, y0, []), (.getfield 19, y0, [9, 1]), (.invokevirtual 194, yX6_groupsUsed, [6, 0]), (.invokevirtual 257, yX2_stepsWith, [2, 2]), (.ireturn, y0, [])],
  [(.aload_n 0, y0, []), (.getfield 67, y0, [9, 7]), (.iload_n 1, y0, []), (.aload 5, y0, []), (.aload 6, y0, []), (.invokevirtual 187, yX2_becomeLogic, [2, 3]), (.iload 4, y0, []), (.ifCond .ne 13, y0, [10])],
  [(.aload_n 0, y0, []), (.getfield 67, y0, [9, 7]), (.invokevirtual 146, yX2_count, [2, 0]), (.goto 17, y0, [11])],
  [(.aload_n 0, y0, []), (.getfield 67, y0, [9, 7]), (.aload_n 0, y0, []), (.getfield 19, y0, [9, 1]), (.invokevirtual 194, yX6_groupsUsed, [6, 0]), (.invokevirtual 260, yX2_wordCount, [2, 1])],
  [(.ireturn, y0, [])]]
def pX9_would : List Nat := [0, 19, 24, 29, 35, 39, 40, 49, 64, 81, 91, 105, 106]
theorem kX9_would : ab_cks cX9_would 9 (some .int) false 7 pX9_would (fun _ => true) 0 bX9_would = true := by decide +kernel
theorem eX9_would {d mc ms : Nat} {av : List ab_V} {σ : ab_H} {post : ab_O → ab_H → Prop} (hav : (av.all ab_n1 && Nat.ble av.length 7) = true) (h : ∀ At, ab_rule bX9_would d mc ms post At → At 0 (av.map some ++ List.replicate (7 - av.length) none) [] σ 0 0) : ab_call d mc ms yX9_would av σ post :=
  ab_entry (o := 9) (ini := false) (ret := (some .int)) (maxL := 7) (ab_w_in (i := 1182) (by decide +kernel)) (by decide +kernel) (by decide) (by decide +kernel) (by decide +kernel) rfl kX9_would hav h
def bX9_within : List (List ab_I) := [[(.aload_n 0, y0, []), (.iload_n 1, y0, []), (.invokevirtual 244, yX9_existingResult, [9, 1]), (.astore_n 3, y0, []), (.aload_n 0, y0, []), (.iload_n 2, y0, []), (.invokevirtual 244, yX9_existingResult, [9, 1]), (.astore 4, y0, []), (.aload_n 0, y0, []), (.getfield 67, y0, [9, 7]), (.iconst 3, y0, []), (.aload_n 3, y0, []), (.aload 4, y0, []), (.invokevirtual 187, yX2_becomeLogic, [2, 3]), (.aload_n 0, y0, []), (.getfield 67, y0, [9, 7]), (.invokevirtual 146, yX2_count, [2, 0]), (.ifCond .ne 7, y0, [2])],
  [(.iconst 1, y0, []), (.goto 4, y0, [3])],
  [(.iconst 0, y0, [])],
  [(.ireturn, y0, [1])]]
def pX9_within : List Nat := [0, 34, 38, 39, 40]
theorem kX9_within : ab_cks cX9_within 9 (some .boolean) false 5 pX9_within (fun _ => true) 0 bX9_within = true := by decide +kernel
theorem eX9_within {d mc ms : Nat} {av : List ab_V} {σ : ab_H} {post : ab_O → ab_H → Prop} (hav : (av.all ab_n1 && Nat.ble av.length 5) = true) (h : ∀ At, ab_rule bX9_within d mc ms post At → At 0 (av.map some ++ List.replicate (5 - av.length) none) [] σ 0 0) : ab_call d mc ms yX9_within av σ post :=
  ab_entry (o := 9) (ini := false) (ret := (some .boolean)) (maxL := 5) (ab_w_in (i := 1190) (by decide +kernel)) (by decide +kernel) (by decide) (by decide +kernel) (by decide +kernel) rfl kX9_within hav h
def bX9_cost : List (List ab_I) := [[(.aload_n 0, y0, []), (.iload_n 1, y0, []), (.ifCond .lt 12, y0, [3])],
  [(.iload_n 1, y0, []), (.iconst 2, y0, []), (.if_icmp .gt 7, y0, [3])],
  [(.iconst 1, y0, []), (.goto 4, y0, [4])],
  [(.iconst 0, y0, [])],
  [(.invokevirtual 90, yX9_needArgument, [9, 1]), (.aload_n 0, y0, []), (.getfield 75, y0, [9, 9]), (.iload_n 1, y0, []), (.iaload, y0, []), (.ireturn, y0, [])]]
def pX9_cost : List Nat := [0, 5, 10, 14, 15, 25]
theorem kX9_cost : ab_cks cX9_cost 9 (some .int) false 2 pX9_cost (fun _ => true) 0 bX9_cost = true := by decide +kernel
theorem eX9_cost {d mc ms : Nat} {av : List ab_V} {σ : ab_H} {post : ab_O → ab_H → Prop} (hav : (av.all ab_n1 && Nat.ble av.length 2) = true) (h : ∀ At, ab_rule bX9_cost d mc ms post At → At 0 (av.map some ++ List.replicate (2 - av.length) none) [] σ 0 0) : ab_call d mc ms yX9_cost av σ post :=
  ab_entry (o := 9) (ini := false) (ret := (some .int)) (maxL := 2) (ab_w_in (i := 1197) (by decide +kernel)) (by decide +kernel) (by decide) (by decide +kernel) (by decide +kernel) rfl kX9_cost hav h
def bX9_value : List (List ab_I) := [[(.aload_n 0, y0, []), (.iload_n 1, y0, []), (.invokevirtual 203, yX9_existingColumn, [9, 1]), (.astore_n 3, y0, []), (.aload_n 0, y0, []), (.aload_n 0, y0, []), (.getfield 19, y0, [9, 1]), (.iload_n 2, y0, []), (.invokevirtual 130, yX6_hasRow, [6, 1]), (.invokevirtual 140, yX9_needElement, [9, 1]), (.aload_n 3, y0, []), (.getfield 263, y0, [3, 7]), (.iload_n 2, y0, []), (.iaload, y0, []), (.ireturn, y0, [])]]
def pX9_value : List Nat := [0, 25]
theorem kX9_value : ab_cks cX9_value 9 (some .int) false 4 pX9_value (fun _ => true) 0 bX9_value = true := by decide +kernel
theorem eX9_value {d mc ms : Nat} {av : List ab_V} {σ : ab_H} {post : ab_O → ab_H → Prop} (hav : (av.all ab_n1 && Nat.ble av.length 4) = true) (h : ∀ At, ab_rule bX9_value d mc ms post At → At 0 (av.map some ++ List.replicate (4 - av.length) none) [] σ 0 0) : ab_call d mc ms yX9_value av σ post :=
  ab_entry (o := 9) (ini := false) (ret := (some .int)) (maxL := 4) (ab_w_in (i := 1204) (by decide +kernel)) (by decide +kernel) (by decide) (by decide +kernel) (by decide +kernel) rfl kX9_value hav h
def bX9_sum : List (List ab_I) := [[(.aload_n 0, y0, []), (.iload_n 1, y0, []), (.iload_n 2, y0, []), (.invokevirtual 266, yX9_tallyValues, [9, 2]), (.iconst 0, y0, []), (.istore_n 3, y0, []), (.iconst 0, y0, []), (.istore 4, y0, [])],
  [(.iload 4, y0, []), (.sipush 200, y0, []), (.if_icmp .ge 25, y0, [3])],
  [(.iload_n 3, y0, []), (.iload 4, y0, []), (.aload_n 0, y0, []), (.getfield 19, y0, [9, 1]), (.getfield 270, y0, [6, 3]), (.iload 4, y0, []), (.iaload, y0, []), (.imul, y0, []), (.iadd, y0, []), (.istore_n 3, y0, []), (.iinc 4 1, y0, []), (.goto (-27), y0, [1])],
  [(.iload_n 3, y0, []), (.ireturn, y0, [])]]
def pX9_sum : List Nat := [0, 11, 19, 41, 43]
theorem kX9_sum : ab_cks cX9_sum 9 (some .int) false 5 pX9_sum (fun _ => true) 0 bX9_sum = true := by decide +kernel
theorem eX9_sum {d mc ms : Nat} {av : List ab_V} {σ : ab_H} {post : ab_O → ab_H → Prop} (hav : (av.all ab_n1 && Nat.ble av.length 5) = true) (h : ∀ At, ab_rule bX9_sum d mc ms post At → At 0 (av.map some ++ List.replicate (5 - av.length) none) [] σ 0 0) : ab_call d mc ms yX9_sum av σ post :=
  ab_entry (o := 9) (ini := false) (ret := (some .int)) (maxL := 5) (ab_w_in (i := 1211) (by decide +kernel)) (by decide +kernel) (by decide) (by decide +kernel) (by decide +kernel) rfl kX9_sum hav h
def bX9_kth : List (List ab_I) := [[(.aload_n 0, y0, []), (.iload_n 1, y0, []), (.iload_n 2, y0, []), (.invokevirtual 266, yX9_tallyValues, [9, 2]), (.iload_n 3, y0, []), (.ifCond .ge 5, y0, [2])],
  [(.iconst (-1), y0, []), (.ireturn, y0, [])],
  [(.iload_n 3, y0, []), (.istore 4, y0, []), (.iconst 0, y0, []), (.istore 5, y0, [])],
  [(.iload 5, y0, []), (.sipush 200, y0, []), (.if_icmp .ge 42, y0, [7])],
  [(.iload 4, y0, []), (.aload_n 0, y0, []), (.getfield 19, y0, [9, 1]), (.getfield 270, y0, [6, 3]), (.iload 5, y0, []), (.iaload, y0, []), (.if_icmp .ge 6, y0, [6])],
  [(.iload 5, y0, []), (.ireturn, y0, [])],
  [(.iload 4, y0, []), (.aload_n 0, y0, []), (.getfield 19, y0, [9, 1]), (.getfield 270, y0, [6, 3]), (.iload 5, y0, []), (.iaload, y0, []), (.isub, y0, []), (.istore 4, y0, []), (.iinc 5 1, y0, []), (.goto (-44), y0, [3])],
  [(.iconst (-1), y0, []), (.ireturn, y0, [])]]
def pX9_kth : List Nat := [0, 10, 12, 18, 26, 41, 44, 65, 67]
theorem kX9_kth : ab_cks cX9_kth 9 (some .int) false 6 pX9_kth (fun _ => true) 0 bX9_kth = true := by decide +kernel
theorem eX9_kth {d mc ms : Nat} {av : List ab_V} {σ : ab_H} {post : ab_O → ab_H → Prop} (hav : (av.all ab_n1 && Nat.ble av.length 6) = true) (h : ∀ At, ab_rule bX9_kth d mc ms post At → At 0 (av.map some ++ List.replicate (6 - av.length) none) [] σ 0 0) : ab_call d mc ms yX9_kth av σ post :=
  ab_entry (o := 9) (ini := false) (ret := (some .int)) (maxL := 6) (ab_w_in (i := 1227) (by decide +kernel)) (by decide +kernel) (by decide) (by decide +kernel) (by decide +kernel) rfl kX9_kth hav h
def bX9_mode : List (List ab_I) := [[(.aload_n 0, y0, []), (.iload_n 1, y0, []), (.iload_n 2, y0, []), (.invokevirtual 266, yX9_tallyValues, [9, 2]), (.aload_n 0, y0, []), (.iload_n 3, y0, []), (.ifCond .eq 8, y0, [2])],
  [(.iload_n 3, y0, []), (.iconst 1, y0, []), (.if_icmp .ne 7, y0, [3])],
  [(.iconst 1, y0, []), (.goto 4, y0, [4])],
  [(.iconst 0, y0, [])],
  [(.invokevirtual 90, yX9_needArgument, [9, 1]), (.iconst 0, y0, []), (.istore 4, y0, []), (.iconst (-1), y0, []), (.istore 5, y0, []), (.iconst 0, y0, []), (.istore 6, y0, [])],
  [(.iload 6, y0, []), (.sipush 200, y0, []), (.if_icmp .ge 40, y0, [9])],
  [(.aload_n 0, y0, []), (.getfield 19, y0, [9, 1]), (.getfield 270, y0, [6, 3]), (.iload 6, y0, []), (.iaload, y0, []), (.iload 4, y0, []), (.if_icmp .le 19, y0, [8])],
  [(.aload_n 0, y0, []), (.getfield 19, y0, [9, 1]), (.getfield 270, y0, [6, 3]), (.iload 6, y0, []), (.iaload, y0, []), (.istore 4, y0, []), (.iload 6, y0, []), (.istore 5, y0, [])],
  [(.iinc 6 1, y0, []), (.goto (-42), y0, [5])],
  [(.iload_n 3, y0, []), (.ifCond .ne 8, y0, [11])],
  [(.iload 5, y0, []), (.goto 5, y0, [12])],
  [(.iload 4, y0, [])],
  [(.ireturn, y0, [])]]
def pX9_mode : List Nat := [0, 11, 16, 20, 21, 33, 41, 56, 72, 78, 82, 87, 89, 90]
theorem kX9_mode : ab_cks cX9_mode 9 (some .int) false 7 pX9_mode (fun _ => true) 0 bX9_mode = true := by decide +kernel
theorem eX9_mode {d mc ms : Nat} {av : List ab_V} {σ : ab_H} {post : ab_O → ab_H → Prop} (hav : (av.all ab_n1 && Nat.ble av.length 7) = true) (h : ∀ At, ab_rule bX9_mode d mc ms post At → At 0 (av.map some ++ List.replicate (7 - av.length) none) [] σ 0 0) : ab_call d mc ms yX9_mode av σ post :=
  ab_entry (o := 9) (ini := false) (ret := (some .int)) (maxL := 7) (ab_w_in (i := 1234) (by decide +kernel)) (by decide +kernel) (by decide) (by decide +kernel) (by decide +kernel) rfl kX9_mode hav h
def bX9_unlike : List (List ab_I) := [[(.aload_n 0, y0, []), (.iload_n 1, y0, []), (.iload_n 2, y0, []), (.invokevirtual 266, yX9_tallyValues, [9, 2]), (.iconst 0, y0, []), (.istore_n 3, y0, []), (.iconst 0, y0, []), (.istore 4, y0, [])],
  [(.iload 4, y0, []), (.sipush 200, y0, []), (.if_icmp .ge 25, y0, [5])],
  [(.aload_n 0, y0, []), (.getfield 19, y0, [9, 1]), (.getfield 270, y0, [6, 3]), (.iload 4, y0, []), (.iaload, y0, []), (.ifCond .le 6, y0, [4])],
  [(.iinc 3 1, y0, [])],
  [(.iinc 4 1, y0, []), (.goto (-27), y0, [1])],
  [(.iload_n 3, y0, []), (.ireturn, y0, [])]]
def pX9_unlike : List Nat := [0, 11, 19, 32, 35, 41, 43]
theorem kX9_unlike : ab_cks cX9_unlike 9 (some .int) false 5 pX9_unlike (fun _ => true) 0 bX9_unlike = true := by decide +kernel
theorem eX9_unlike {d mc ms : Nat} {av : List ab_V} {σ : ab_H} {post : ab_O → ab_H → Prop} (hav : (av.all ab_n1 && Nat.ble av.length 5) = true) (h : ∀ At, ab_rule bX9_unlike d mc ms post At → At 0 (av.map some ++ List.replicate (5 - av.length) none) [] σ 0 0) : ab_call d mc ms yX9_unlike av σ post :=
  ab_entry (o := 9) (ini := false) (ret := (some .int)) (maxL := 5) (ab_w_in (i := 1241) (by decide +kernel)) (by decide +kernel) (by decide) (by decide +kernel) (by decide +kernel) rfl kX9_unlike hav h
def bX9_span : List (List ab_I) := [[(.aload_n 0, y0, []), (.iload_n 1, y0, []), (.iload_n 2, y0, []), (.invokevirtual 266, yX9_tallyValues, [9, 2]), (.aload_n 0, y0, []), (.iload_n 3, y0, []), (.ifCond .lt 27, y0, [5])],
  [(.iload_n 3, y0, []), (.sipush 999, y0, []), (.if_icmp .gt 20, y0, [5])],
  [(.iload 4, y0, []), (.ifCond .lt 15, y0, [5])],
  [(.iload 4, y0, []), (.sipush 999, y0, []), (.if_icmp .gt 7, y0, [5])],
  [(.iconst 1, y0, []), (.goto 4, y0, [6])],
  [(.iconst 0, y0, [])],
  [(.invokevirtual 90, yX9_needArgument, [9, 1]), (.iconst 0, y0, []), (.istore 5, y0, []), (.iload_n 3, y0, []), (.istore 6, y0, [])],
  [(.iload 6, y0, []), (.iload 4, y0, []), (.if_icmp .gt 32, y0, [10])],
  [(.iload 6, y0, []), (.sipush 200, y0, []), (.if_icmp .ge 24, y0, [10])],
  [(.iload 5, y0, []), (.aload_n 0, y0, []), (.getfield 19, y0, [9, 1]), (.getfield 270, y0, [6, 3]), (.iload 6, y0, []), (.iaload, y0, []), (.iadd, y0, []), (.istore 5, y0, []), (.iinc 6 1, y0, []), (.goto (-33), y0, [7])],
  [(.iload 5, y0, []), (.ireturn, y0, [])]]
def pX9_span : List Nat := [0, 11, 18, 23, 31, 35, 36, 45, 52, 60, 81, 84]
theorem kX9_span : ab_cks cX9_span 9 (some .int) false 7 pX9_span (fun _ => true) 0 bX9_span = true := by decide +kernel
theorem eX9_span {d mc ms : Nat} {av : List ab_V} {σ : ab_H} {post : ab_O → ab_H → Prop} (hav : (av.all ab_n1 && Nat.ble av.length 7) = true) (h : ∀ At, ab_rule bX9_span d mc ms post At → At 0 (av.map some ++ List.replicate (7 - av.length) none) [] σ 0 0) : ab_call d mc ms yX9_span av σ post :=
  ab_entry (o := 9) (ini := false) (ret := (some .int)) (maxL := 7) (ab_w_in (i := 1248) (by decide +kernel)) (by decide +kernel) (by decide) (by decide +kernel) (by decide +kernel) rfl kX9_span hav h
def bX9_foretold : List (List ab_I) := [[(.aload_n 0, y0, []), (.iload_n 2, y0, []), (.invokevirtual 203, yX9_existingColumn, [9, 1]), (.pop, y0, []), (.aload_n 0, y0, []), (.iload_n 1, y0, []), (.ifCond .lt 23, y0, [5])],
  [(.iload_n 1, y0, []), (.iconst 5, y0, []), (.if_icmp .gt 18, y0, [5])],
  [(.iload_n 3, y0, []), (.ifCond .lt 14, y0, [5])],
  [(.iload_n 3, y0, []), (.sipush 999, y0, []), (.if_icmp .gt 7, y0, [5])],
  [(.iconst 1, y0, []), (.goto 4, y0, [6])],
  [(.iconst 0, y0, [])],
  [(.invokevirtual 90, yX9_needArgument, [9, 1]), (.aload_n 0, y0, []), (.iload 4, y0, []), (.ifCond .lt 13, y0, [9])],
  [(.iload 4, y0, []), (.iconst 2, y0, []), (.if_icmp .gt 7, y0, [9])],
  [(.iconst 1, y0, []), (.goto 4, y0, [10])],
  [(.iconst 0, y0, [])],
  [(.invokevirtual 90, yX9_needArgument, [9, 1]), (.aload_n 0, y0, []), (.getfield 44, y0, [9, 4]), (.iload_n 1, y0, []), (.iload_n 2, y0, []), (.iload_n 3, y0, []), (.invokevirtual 273, yX5_becomeComparison, [5, 3]), (.aload_n 0, y0, []), (.getfield 53, y0, [9, 5]), (.aload_n 0, y0, []), (.getfield 44, y0, [9, 4]), (.invokevirtual 159, yX0_answerTo, [0, 1]), (.pop, y0, []), (.aload_n 0, y0, []), (.getfield 53, y0, [9, 5]), (.getfield 163, y0, [0, 3]), (.iload 4, y0, []), (.iaload, y0, []), (.ireturn, y0, [])]]
def pX9_foretold : List Nat := [0, 11, 16, 20, 27, 31, 32, 41, 47, 51, 52, 88]
theorem kX9_foretold : ab_cks cX9_foretold 9 (some .int) false 5 pX9_foretold (fun _ => true) 0 bX9_foretold = true := by decide +kernel
theorem eX9_foretold {d mc ms : Nat} {av : List ab_V} {σ : ab_H} {post : ab_O → ab_H → Prop} (hav : (av.all ab_n1 && Nat.ble av.length 5) = true) (h : ∀ At, ab_rule bX9_foretold d mc ms post At → At 0 (av.map some ++ List.replicate (5 - av.length) none) [] σ 0 0) : ab_call d mc ms yX9_foretold av σ post :=
  ab_entry (o := 9) (ini := false) (ret := (some .int)) (maxL := 5) (ab_w_in (i := 1255) (by decide +kernel)) (by decide +kernel) (by decide) (by decide +kernel) (by decide +kernel) rfl kX9_foretold hav h
def bX9_differ : List (List ab_I) := [[(.aload_n 0, y0, []), (.iload_n 1, y0, []), (.invokevirtual 244, yX9_existingResult, [9, 1]), (.astore_n 3, y0, []), (.aload_n 0, y0, []), (.iload_n 2, y0, []), (.invokevirtual 244, yX9_existingResult, [9, 1]), (.astore 4, y0, []), (.aload_n 0, y0, []), (.getfield 67, y0, [9, 7]), (.iconst 2, y0, []), (.aload_n 3, y0, []), (.aload 4, y0, []), (.invokevirtual 187, yX2_becomeLogic, [2, 3]), (.aload_n 0, y0, []), (.getfield 67, y0, [9, 7]), (.invokevirtual 146, yX2_count, [2, 0]), (.ireturn, y0, [])]]
def pX9_differ : List Nat := [0, 32]
theorem kX9_differ : ab_cks cX9_differ 9 (some .int) false 5 pX9_differ (fun _ => true) 0 bX9_differ = true := by decide +kernel
theorem eX9_differ {d mc ms : Nat} {av : List ab_V} {σ : ab_H} {post : ab_O → ab_H → Prop} (hav : (av.all ab_n1 && Nat.ble av.length 5) = true) (h : ∀ At, ab_rule bX9_differ d mc ms post At → At 0 (av.map some ++ List.replicate (5 - av.length) none) [] σ 0 0) : ab_call d mc ms yX9_differ av σ post :=
  ab_entry (o := 9) (ini := false) (ret := (some .int)) (maxL := 5) (ab_w_in (i := 1266) (by decide +kernel)) (by decide +kernel) (by decide) (by decide +kernel) (by decide +kernel) rfl kX9_differ hav h
def bX9_group : List (List ab_I) := [[(.aload_n 0, y0, []), (.iload_n 1, y0, []), (.invokevirtual 244, yX9_existingResult, [9, 1]), (.astore 4, y0, []), (.aload_n 0, y0, []), (.iload_n 2, y0, []), (.ifCond .lt 18, y0, [3])],
  [(.iload_n 2, y0, []), (.aload_n 0, y0, []), (.getfield 19, y0, [9, 1]), (.invokevirtual 194, yX6_groupsUsed, [6, 0]), (.if_icmp .ge 7, y0, [3])],
  [(.iconst 1, y0, []), (.goto 4, y0, [4])],
  [(.iconst 0, y0, [])],
  [(.invokevirtual 140, yX9_needElement, [9, 1]), (.aload_n 0, y0, []), (.iload_n 3, y0, []), (.ifCond .lt 12, y0, [7])],
  [(.iload_n 3, y0, []), (.iconst 2, y0, []), (.if_icmp .gt 7, y0, [7])],
  [(.iconst 1, y0, []), (.goto 4, y0, [8])],
  [(.iconst 0, y0, [])],
  [(.invokevirtual 90, yX9_needArgument, [9, 1]), (.iload_n 3, y0, []), (.lookupswitch 48 #[(0, 26), (1, 34)], y0, [11, 9, 10])],
  [(.aload 4, y0, []), (.getfield 277, y0, [2, 0]), (.iload_n 2, y0, []), (.iaload, y0, []), (.ireturn, y0, [])],
  [(.aload 4, y0, []), (.iload_n 2, y0, []), (.aload_n 0, y0, []), (.getfield 19, y0, [9, 1]), (.invokevirtual 194, yX6_groupsUsed, [6, 0]), (.invokevirtual 280, yX2_groupsOfWordAt, [2, 2]), (.ireturn, y0, [])],
  [(.aload 4, y0, []), (.iload_n 2, y0, []), (.iconst 1, y0, []), (.iadd, y0, []), (.invokevirtual 260, yX2_wordCount, [2, 1]), (.iconst 1, y0, []), (.isub, y0, []), (.ireturn, y0, [])]]
def pX9_group : List Nat := [0, 12, 23, 27, 28, 36, 41, 45, 46, 76, 84, 98, 109]
theorem kX9_group : ab_cks cX9_group 9 (some .int) false 5 pX9_group (fun _ => true) 0 bX9_group = true := by decide +kernel
theorem eX9_group {d mc ms : Nat} {av : List ab_V} {σ : ab_H} {post : ab_O → ab_H → Prop} (hav : (av.all ab_n1 && Nat.ble av.length 5) = true) (h : ∀ At, ab_rule bX9_group d mc ms post At → At 0 (av.map some ++ List.replicate (5 - av.length) none) [] σ 0 0) : ab_call d mc ms yX9_group av σ post :=
  ab_entry (o := 9) (ini := false) (ret := (some .int)) (maxL := 5) (ab_w_in (i := 1273) (by decide +kernel)) (by decide +kernel) (by decide) (by decide +kernel) (by decide +kernel) rfl kX9_group hav h
def bX9_widest : List (List ab_I) := [[(.aload_n 0, y0, []), (.iload_n 1, y0, []), (.invokevirtual 244, yX9_existingResult, [9, 1]), (.aload_n 0, y0, []), (.getfield 19, y0, [9, 1]), (.invokevirtual 194, yX6_groupsUsed, [6, 0]), (.invokevirtual 283, yX2_widestFill, [2, 1]), (.ireturn, y0, [])]]
def pX9_widest : List Nat := [0, 16]
theorem kX9_widest : ab_cks cX9_widest 9 (some .int) false 2 pX9_widest (fun _ => true) 0 bX9_widest = true := by decide +kernel
theorem eX9_widest {d mc ms : Nat} {av : List ab_V} {σ : ab_H} {post : ab_O → ab_H → Prop} (hav : (av.all ab_n1 && Nat.ble av.length 2) = true) (h : ∀ At, ab_rule bX9_widest d mc ms post At → At 0 (av.map some ++ List.replicate (2 - av.length) none) [] σ 0 0) : ab_call d mc ms yX9_widest av σ post :=
  ab_entry (o := 9) (ini := false) (ret := (some .int)) (maxL := 2) (ab_w_in (i := 1281) (by decide +kernel)) (by decide +kernel) (by decide) (by decide +kernel) (by decide +kernel) rfl kX9_widest hav h
def bX9_heaviest : List (List ab_I) := [[(.aload_n 0, y0, []), (.iload_n 1, y0, []), (.invokevirtual 203, yX9_existingColumn, [9, 1]), (.astore_n 3, y0, []), (.aload_n 0, y0, []), (.iload_n 2, y0, []), (.ifCond .eq 8, y0, [2])],
  [(.iload_n 2, y0, []), (.iconst 1, y0, []), (.if_icmp .ne 7, y0, [3])],
  [(.iconst 1, y0, []), (.goto 4, y0, [4])],
  [(.iconst 0, y0, [])],
  [(.invokevirtual 90, yX9_needArgument, [9, 1]), (.iconst (-1), y0, []), (.istore 4, y0, []), (.iconst (-1), y0, []), (.istore 5, y0, []), (.iconst 0, y0, []), (.istore 6, y0, [])],
  [(.iload 6, y0, []), (.aload_n 3, y0, []), (.getfield 212, y0, [3, 2]), (.if_icmp .ge 41, y0, [9])],
  [(.aload_n 3, y0, []), (.iload 6, y0, []), (.aload_n 0, y0, []), (.getfield 19, y0, [9, 1]), (.invokevirtual 194, yX6_groupsUsed, [6, 0]), (.invokevirtual 286, yX3_wordsOfPart, [3, 2]), (.istore 7, y0, []), (.iload 7, y0, []), (.iload 4, y0, []), (.if_icmp .le 13, y0, [8])],
  [(.iload 7, y0, []), (.istore 4, y0, []), (.iload 6, y0, []), (.iconst 1, y0, []), (.iadd, y0, []), (.istore 5, y0, [])],
  [(.iinc 6 1, y0, []), (.goto (-44), y0, [5])],
  [(.iload_n 2, y0, []), (.ifCond .ne 8, y0, [11])],
  [(.iload 5, y0, []), (.goto 5, y0, [12])],
  [(.iload 4, y0, [])],
  [(.ireturn, y0, [])]]
def pX9_heaviest : List Nat := [0, 11, 16, 20, 21, 33, 42, 64, 74, 80, 84, 89, 91, 92]
theorem kX9_heaviest : ab_cks cX9_heaviest 9 (some .int) false 8 pX9_heaviest (fun _ => true) 0 bX9_heaviest = true := by decide +kernel
theorem eX9_heaviest {d mc ms : Nat} {av : List ab_V} {σ : ab_H} {post : ab_O → ab_H → Prop} (hav : (av.all ab_n1 && Nat.ble av.length 8) = true) (h : ∀ At, ab_rule bX9_heaviest d mc ms post At → At 0 (av.map some ++ List.replicate (8 - av.length) none) [] σ 0 0) : ab_call d mc ms yX9_heaviest av σ post :=
  ab_entry (o := 9) (ini := false) (ret := (some .int)) (maxL := 8) (ab_w_in (i := 1292) (by decide +kernel)) (by decide +kernel) (by decide) (by decide +kernel) (by decide +kernel) rfl kX9_heaviest hav h
def bX9_ordered : List (List ab_I) := [[(.aload_n 0, y0, []), (.iload_n 1, y0, []), (.invokevirtual 203, yX9_existingColumn, [9, 1]), (.astore_n 3, y0, []), (.aload_n 0, y0, []), (.iload_n 2, y0, []), (.invokevirtual 203, yX9_existingColumn, [9, 1]), (.astore 4, y0, []), (.aload_n 0, y0, []), (.getfield 19, y0, [9, 1]), (.aload_n 3, y0, []), (.aload 4, y0, []), (.invokevirtual 289, yX6_wordsIfOrdered, [6, 2]), (.ireturn, y0, [])]]
def pX9_ordered : List Nat := [0, 24]
theorem kX9_ordered : ab_cks cX9_ordered 9 (some .int) false 5 pX9_ordered (fun _ => true) 0 bX9_ordered = true := by decide +kernel
theorem eX9_ordered {d mc ms : Nat} {av : List ab_V} {σ : ab_H} {post : ab_O → ab_H → Prop} (hav : (av.all ab_n1 && Nat.ble av.length 5) = true) (h : ∀ At, ab_rule bX9_ordered d mc ms post At → At 0 (av.map some ++ List.replicate (5 - av.length) none) [] σ 0 0) : ab_call d mc ms yX9_ordered av σ post :=
  ab_entry (o := 9) (ini := false) (ret := (some .int)) (maxL := 5) (ab_w_in (i := 1300) (by decide +kernel)) (by decide +kernel) (by decide) (by decide +kernel) (by decide +kernel) rfl kX9_ordered hav h
def bX9_readings : List (List ab_I) := [[(.aload_n 0, y0, []), (.iload_n 1, y0, []), (.invokevirtual 203, yX9_existingColumn, [9, 1]), (.astore_n 3, y0, []), (.aload_n 0, y0, []), (.iload_n 2, y0, []), (.ifCond .eq 8, y0, [2])],
  [(.iload_n 2, y0, []), (.iconst 1, y0, []), (.if_icmp .ne 7, y0, [3])],
  [(.iconst 1, y0, []), (.goto 4, y0, [4])],
  [(.iconst 0, y0, [])],
  [(.invokevirtual 90, yX9_needArgument, [9, 1]), (.iconst 0, y0, []), (.istore 4, y0, []), (.iconst 0, y0, []), (.istore 5, y0, []), (.iconst 0, y0, []), (.istore 6, y0, [])],
  [(.iload 6, y0, []), (.aload_n 3, y0, []), (.getfield 207, y0, [3, 1]), (.if_icmp .ge 33, y0, [7])],
  [(.aload_n 3, y0, []), (.iload 6, y0, []), (.invokevirtual 293, yX3_readingsUpTo, [3, 1]), (.istore 7, y0, []), (.iload 4, y0, []), (.iload 7, y0, []), (.iadd, y0, []), (.istore 4, y0, []), (.iload 5, y0, []), (.iload 7, y0, []), (.invokestatic 296, y0, [0, 0]), (.istore 5, y0, []), (.iinc 6 1, y0, []), (.goto (-36), y0, [5])],
  [(.iload_n 2, y0, []), (.ifCond .ne 8, y0, [9])],
  [(.iload 4, y0, []), (.goto 5, y0, [10])],
  [(.iload 5, y0, [])],
  [(.ireturn, y0, [])]]
def pX9_readings : List Nat := [0, 11, 16, 20, 21, 33, 42, 72, 76, 81, 83, 84]
theorem kX9_readings : ab_cks cX9_readings 9 (some .int) false 8 pX9_readings (fun _ => true) 0 bX9_readings = true := by decide +kernel
theorem eX9_readings {d mc ms : Nat} {av : List ab_V} {σ : ab_H} {post : ab_O → ab_H → Prop} (hav : (av.all ab_n1 && Nat.ble av.length 8) = true) (h : ∀ At, ab_rule bX9_readings d mc ms post At → At 0 (av.map some ++ List.replicate (8 - av.length) none) [] σ 0 0) : ab_call d mc ms yX9_readings av σ post :=
  ab_entry (o := 9) (ini := false) (ret := (some .int)) (maxL := 8) (ab_w_in (i := 1323) (by decide +kernel)) (by decide +kernel) (by decide) (by decide +kernel) (by decide +kernel) rfl kX9_readings hav h
def bX9_thrift : List (List ab_I) := [[(.aload_n 0, y0, []), (.iload_n 1, y0, []), (.invokestatic 301, yX9_isCard, [1]), (.ifCond .eq 17, y0, [4])],
  [(.iload_n 2, y0, []), (.iconst 1, y0, []), (.if_icmp .lt 12, y0, [4])],
  [(.iload_n 2, y0, []), (.iconst 4, y0, []), (.if_icmp .gt 7, y0, [4])],
  [(.iconst 1, y0, []), (.goto 4, y0, [5])],
  [(.iconst 0, y0, [])],
  [(.invokevirtual 90, yX9_needArgument, [9, 1]), (.aload_n 0, y0, []), (.iload_n 3, y0, []), (.ifCond .lt 12, y0, [8])],
  [(.iload_n 3, y0, []), (.iconst 4, y0, []), (.if_icmp .gt 7, y0, [8])],
  [(.iconst 1, y0, []), (.goto 4, y0, [9])],
  [(.iconst 0, y0, [])],
  [(.invokevirtual 90, yX9_needArgument, [9, 1]), (.aload_n 0, y0, []), (.getfield 60, y0, [9, 6]), (.iload_n 1, y0, []), (.iload_n 2, y0, []), (.invokevirtual 304, yX1_findFewestBitmaps, [1, 2]), (.aload_n 0, y0, []), (.getfield 60, y0, [9, 6]), (.iload_n 3, y0, []), (.invokevirtual 307, yX1_tell, [1, 1]), (.ireturn, y0, [])]]
def pX9_thrift : List Nat := [0, 8, 13, 18, 22, 23, 31, 36, 40, 41, 62]
theorem kX9_thrift : ab_cks cX9_thrift 9 (some .int) false 4 pX9_thrift (fun _ => true) 0 bX9_thrift = true := by decide +kernel
theorem eX9_thrift {d mc ms : Nat} {av : List ab_V} {σ : ab_H} {post : ab_O → ab_H → Prop} (hav : (av.all ab_n1 && Nat.ble av.length 4) = true) (h : ∀ At, ab_rule bX9_thrift d mc ms post At → At 0 (av.map some ++ List.replicate (4 - av.length) none) [] σ 0 0) : ab_call d mc ms yX9_thrift av σ post :=
  ab_entry (o := 9) (ini := false) (ret := (some .int)) (maxL := 4) (ab_w_in (i := 1336) (by decide +kernel)) (by decide +kernel) (by decide) (by decide +kernel) (by decide +kernel) rfl kX9_thrift hav h
def bX9_swift : List (List ab_I) := [[(.aload_n 0, y0, []), (.iload_n 1, y0, []), (.invokestatic 301, yX9_isCard, [1]), (.ifCond .eq 18, y0, [4])],
  [(.iload_n 2, y0, []), (.iconst 1, y0, []), (.if_icmp .lt 13, y0, [4])],
  [(.iload_n 2, y0, []), (.bipush 24, y0, []), (.if_icmp .gt 7, y0, [4])],
  [(.iconst 1, y0, []), (.goto 4, y0, [5])],
  [(.iconst 0, y0, [])],
  [(.invokevirtual 90, yX9_needArgument, [9, 1]), (.aload_n 0, y0, []), (.iload_n 3, y0, []), (.ifCond .lt 12, y0, [8])],
  [(.iload_n 3, y0, []), (.iconst 4, y0, []), (.if_icmp .gt 7, y0, [8])],
  [(.iconst 1, y0, []), (.goto 4, y0, [9])],
  [(.iconst 0, y0, [])],
  [(.invokevirtual 90, yX9_needArgument, [9, 1]), (.aload_n 0, y0, []), (.getfield 60, y0, [9, 6]), (.iload_n 1, y0, []), (.iload_n 2, y0, []), (.invokevirtual 310, yX1_findFewestReadings, [1, 2]), (.aload_n 0, y0, []), (.getfield 60, y0, [9, 6]), (.iload_n 3, y0, []), (.invokevirtual 307, yX1_tell, [1, 1]), (.ireturn, y0, [])]]
def pX9_swift : List Nat := [0, 8, 13, 19, 23, 24, 32, 37, 41, 42, 63]
theorem kX9_swift : ab_cks cX9_swift 9 (some .int) false 4 pX9_swift (fun _ => true) 0 bX9_swift = true := by decide +kernel
theorem eX9_swift {d mc ms : Nat} {av : List ab_V} {σ : ab_H} {post : ab_O → ab_H → Prop} (hav : (av.all ab_n1 && Nat.ble av.length 4) = true) (h : ∀ At, ab_rule bX9_swift d mc ms post At → At 0 (av.map some ++ List.replicate (4 - av.length) none) [] σ 0 0) : ab_call d mc ms yX9_swift av σ post :=
  ab_entry (o := 9) (ini := false) (ret := (some .int)) (maxL := 4) (ab_w_in (i := 1372) (by decide +kernel)) (by decide +kernel) (by decide) (by decide +kernel) (by decide +kernel) rfl kX9_swift hav h
def bX9_status : List (List ab_I) := [[(.iload_n 1, y0, []), (.tableswitch 42 0 2 #[27, 32, 37], y0, [4, 1, 2, 3])],
  [(.aload_n 0, y0, []), (.getfield 313, y0, [9, 10]), (.ireturn, y0, [])],
  [(.aload_n 0, y0, []), (.getfield 316, y0, [9, 11]), (.ireturn, y0, [])],
  [(.aload_n 0, y0, []), (.getfield 319, y0, [9, 12]), (.ireturn, y0, [])],
  [(.iconst (-1), y0, []), (.ireturn, y0, [])]]
def pX9_status : List Nat := [0, 28, 33, 38, 43, 45]
theorem kX9_status : ab_cks cX9_status 9 (some .int) false 2 pX9_status (fun _ => true) 0 bX9_status = true := by decide +kernel
theorem eX9_status {d mc ms : Nat} {av : List ab_V} {σ : ab_H} {post : ab_O → ab_H → Prop} (hav : (av.all ab_n1 && Nat.ble av.length 2) = true) (h : ∀ At, ab_rule bX9_status d mc ms post At → At 0 (av.map some ++ List.replicate (2 - av.length) none) [] σ 0 0) : ab_call d mc ms yX9_status av σ post :=
  ab_entry (o := 9) (ini := false) (ret := (some .int)) (maxL := 2) (ab_w_in (i := 497) (by decide +kernel)) (by decide +kernel) (by decide) (by decide +kernel) (by decide +kernel) rfl kX9_status hav h
def bX9_needElement : List (List ab_I) := [[(.iload_n 1, y0, []), (.ifCond .ne 24, y0, [2])],
  [(.aload_n 0, y0, []), (.dup, y0, []), (.getfield 313, y0, [9, 10]), (.iconst 1, y0, []), (.iadd, y0, []), (.putfield 313, y0, [9, 10]), (.athrow, y0, [0])],
  [(.return_, y0, [])]]
def pX9_needElement : List Nat := [0, 4, 25, 26]
theorem kX9_needElement : ab_cks cX9_needElement 9 none false 2 pX9_needElement (fun _ => true) 0 bX9_needElement = true := by decide +kernel
theorem eX9_needElement {d mc ms : Nat} {av : List ab_V} {σ : ab_H} {post : ab_O → ab_H → Prop} (hav : (av.all ab_n1 && Nat.ble av.length 2) = true) (h : ∀ At, ab_rule bX9_needElement d mc ms post At → At 0 (av.map some ++ List.replicate (2 - av.length) none) [] σ 0 0) : ab_call d mc ms yX9_needElement av σ post :=
  ab_entry (o := 9) (ini := false) (ret := none) (maxL := 2) (ab_w_in (i := 799) (by decide +kernel)) (by decide +kernel) (by decide) (by decide +kernel) (by decide +kernel) rfl kX9_needElement hav h
def bX9_needArgument : List (List ab_I) := [[(.iload_n 1, y0, []), (.ifCond .ne 24, y0, [2])],
  [(.aload_n 0, y0, []), (.dup, y0, []), (.getfield 316, y0, [9, 11]), (.iconst 1, y0, []), (.iadd, y0, []), (.putfield 316, y0, [9, 11]), (.athrow, y0, [1])],
  [(.return_, y0, [])]]
def pX9_needArgument : List Nat := [0, 4, 25, 26]
theorem kX9_needArgument : ab_cks cX9_needArgument 9 none false 2 pX9_needArgument (fun _ => true) 0 bX9_needArgument = true := by decide +kernel
theorem eX9_needArgument {d mc ms : Nat} {av : List ab_V} {σ : ab_H} {post : ab_O → ab_H → Prop} (hav : (av.all ab_n1 && Nat.ble av.length 2) = true) (h : ∀ At, ab_rule bX9_needArgument d mc ms post At → At 0 (av.map some ++ List.replicate (2 - av.length) none) [] σ 0 0) : ab_call d mc ms yX9_needArgument av σ post :=
  ab_entry (o := 9) (ini := false) (ret := none) (maxL := 2) (ab_w_in (i := 514) (by decide +kernel)) (by decide +kernel) (by decide) (by decide +kernel) (by decide +kernel) rfl kX9_needArgument hav h
def bX9_needState : List (List ab_I) := [[(.iload_n 1, y0, []), (.ifCond .ne 24, y0, [2])],
  [(.aload_n 0, y0, []), (.dup, y0, []), (.getfield 319, y0, [9, 12]), (.iconst 1, y0, []), (.iadd, y0, []), (.putfield 319, y0, [9, 12]), (.athrow, y0, [2])],
  [(.return_, y0, [])]]
def pX9_needState : List Nat := [0, 4, 25, 26]
theorem kX9_needState : ab_cks cX9_needState 9 none false 2 pX9_needState (fun _ => true) 0 bX9_needState = true := by decide +kernel
theorem eX9_needState {d mc ms : Nat} {av : List ab_V} {σ : ab_H} {post : ab_O → ab_H → Prop} (hav : (av.all ab_n1 && Nat.ble av.length 2) = true) (h : ∀ At, ab_rule bX9_needState d mc ms post At → At 0 (av.map some ++ List.replicate (2 - av.length) none) [] σ 0 0) : ab_call d mc ms yX9_needState av σ post :=
  ab_entry (o := 9) (ini := false) (ret := none) (maxL := 2) (ab_w_in (i := 586) (by decide +kernel)) (by decide +kernel) (by decide) (by decide +kernel) (by decide +kernel) rfl kX9_needState hav h
def bX9_isTextLength : List (List ab_I) := [[(.iload_n 1, y0, []), (.ifCond .lt 25, y0, [4])],
  [(.iload_n 1, y0, []), (.sipush 200, y0, []), (.if_icmp .gt 18, y0, [4])],
  [(.iload_n 1, y0, []), (.aload_n 0, y0, []), (.getfield 10, y0, [9, 0]), (.getfield 78, y0, [7, 1]), (.if_icmp .gt 7, y0, [4])],
  [(.iconst 1, y0, []), (.goto 4, y0, [5])],
  [(.iconst 0, y0, [])],
  [(.ireturn, y0, [1])]]
def pX9_isTextLength : List Nat := [0, 4, 11, 22, 26, 27, 28]
theorem kX9_isTextLength : ab_cks cX9_isTextLength 9 (some .boolean) false 2 pX9_isTextLength (fun _ => true) 0 bX9_isTextLength = true := by decide +kernel
theorem eX9_isTextLength {d mc ms : Nat} {av : List ab_V} {σ : ab_H} {post : ab_O → ab_H → Prop} (hav : (av.all ab_n1 && Nat.ble av.length 2) = true) (h : ∀ At, ab_rule bX9_isTextLength d mc ms post At → At 0 (av.map some ++ List.replicate (2 - av.length) none) [] σ 0 0) : ab_call d mc ms yX9_isTextLength av σ post :=
  ab_entry (o := 9) (ini := false) (ret := (some .boolean)) (maxL := 2) (ab_w_in (i := 510) (by decide +kernel)) (by decide +kernel) (by decide) (by decide +kernel) (by decide +kernel) rfl kX9_isTextLength hav h
def bX9_isResult : List (List ab_I) := [[(.iload_n 0, y0, []), (.ifCond .lt 12, y0, [3])],
  [(.iload_n 0, y0, []), (.iconst 5, y0, []), (.if_icmp .gt 7, y0, [3])],
  [(.iconst 1, y0, []), (.goto 4, y0, [4])],
  [(.iconst 0, y0, [])],
  [(.ireturn, y0, [1])]]
def pX9_isResult : List Nat := [0, 4, 9, 13, 14, 15]
theorem kX9_isResult : ab_cks cX9_isResult 9 (some .boolean) false 1 pX9_isResult (fun _ => true) 0 bX9_isResult = true := by decide +kernel
theorem eX9_isResult {d mc ms : Nat} {av : List ab_V} {σ : ab_H} {post : ab_O → ab_H → Prop} (hav : (av.all ab_n1 && Nat.ble av.length 1) = true) (h : ∀ At, ab_rule bX9_isResult d mc ms post At → At 0 (av.map some ++ List.replicate (1 - av.length) none) [] σ 0 0) : ab_call d mc ms yX9_isResult av σ post :=
  ab_entry (o := 9) (ini := false) (ret := (some .boolean)) (maxL := 1) (ab_w_in (i := 827) (by decide +kernel)) (by decide +kernel) (by decide) (by decide +kernel) (by decide +kernel) rfl kX9_isResult hav h
def bX9_isCard : List (List ab_I) := [[(.iload_n 0, y0, []), (.iconst 2, y0, []), (.if_icmp .lt 14, y0, [3])],
  [(.iload_n 0, y0, []), (.sipush 200, y0, []), (.if_icmp .gt 7, y0, [3])],
  [(.iconst 1, y0, []), (.goto 4, y0, [4])],
  [(.iconst 0, y0, [])],
  [(.ireturn, y0, [1])]]
def pX9_isCard : List Nat := [0, 5, 12, 16, 17, 18]
theorem kX9_isCard : ab_cks cX9_isCard 9 (some .boolean) false 1 pX9_isCard (fun _ => true) 0 bX9_isCard = true := by decide +kernel
theorem eX9_isCard {d mc ms : Nat} {av : List ab_V} {σ : ab_H} {post : ab_O → ab_H → Prop} (hav : (av.all ab_n1 && Nat.ble av.length 1) = true) (h : ∀ At, ab_rule bX9_isCard d mc ms post At → At 0 (av.map some ++ List.replicate (1 - av.length) none) [] σ 0 0) : ab_call d mc ms yX9_isCard av σ post :=
  ab_entry (o := 9) (ini := false) (ret := (some .boolean)) (maxL := 1) (ab_w_in (i := 1339) (by decide +kernel)) (by decide +kernel) (by decide) (by decide +kernel) (by decide +kernel) rfl kX9_isCard hav h
def bX9_give : List (List ab_I) := [[(.aload_n 0, y0, []), (.getfield 71, y0, [9, 8]), (.iconst 0, y0, []), (.iload_n 1, y0, []), (.iastore, y0, []), (.aload_n 0, y0, []), (.getfield 71, y0, [9, 8]), (.iconst 1, y0, []), (.iload_n 2, y0, []), (.iastore, y0, []), (.aload_n 0, y0, []), (.getfield 71, y0, [9, 8]), (.iconst 2, y0, []), (.iload_n 3, y0, []), (.iastore, y0, []), (.aload_n 0, y0, []), (.getfield 71, y0, [9, 8]), (.iconst 3, y0, []), (.iload 4, y0, []), (.iastore, y0, []), (.return_, y0, [])]]
def pX9_give : List Nat := [0, 30]
theorem kX9_give : ab_cks cX9_give 9 none false 5 pX9_give (fun _ => true) 0 bX9_give = true := by decide +kernel
theorem eX9_give {d mc ms : Nat} {av : List ab_V} {σ : ab_H} {post : ab_O → ab_H → Prop} (hav : (av.all ab_n1 && Nat.ble av.length 5) = true) (h : ∀ At, ab_rule bX9_give d mc ms post At → At 0 (av.map some ++ List.replicate (5 - av.length) none) [] σ 0 0) : ab_call d mc ms yX9_give av σ post :=
  ab_entry (o := 9) (ini := false) (ret := none) (maxL := 5) (ab_w_in (i := 765) (by decide +kernel)) (by decide +kernel) (by decide) (by decide +kernel) (by decide +kernel) rfl kX9_give hav h
def bX9_existingResult : List (List ab_I) := [[(.aload_n 0, y0, []), (.iload_n 1, y0, []), (.ifCond .lt 13, y0, [3])],
  [(.iload_n 1, y0, []), (.bipush 6, y0, []), (.if_icmp .gt 7, y0, [3])],
  [(.iconst 1, y0, []), (.goto 4, y0, [4])],
  [(.iconst 0, y0, [])],
  [(.invokevirtual 140, yX9_needElement, [9, 1]), (.aload_n 0, y0, []), (.getfield 19, y0, [9, 1]), (.getfield 166, y0, [6, 1]), (.iload_n 1, y0, []), (.aaload, y0, [0]), (.areturn, y0, [])]]
def pX9_existingResult : List Nat := [0, 5, 11, 15, 16, 29]
theorem kX9_existingResult : ab_cks cX9_existingResult 9 (some (.object "AlignedRuns$Bitmap")) false 2 pX9_existingResult (fun _ => true) 0 bX9_existingResult = true := by decide +kernel
theorem eX9_existingResult {d mc ms : Nat} {av : List ab_V} {σ : ab_H} {post : ab_O → ab_H → Prop} (hav : (av.all ab_n1 && Nat.ble av.length 2) = true) (h : ∀ At, ab_rule bX9_existingResult d mc ms post At → At 0 (av.map some ++ List.replicate (2 - av.length) none) [] σ 0 0) : ab_call d mc ms yX9_existingResult av σ post :=
  ab_entry (o := 9) (ini := false) (ret := (some (.object "AlignedRuns$Bitmap"))) (maxL := 2) (ab_w_in (i := 1127) (by decide +kernel)) (by decide +kernel) (by decide) (by decide +kernel) (by decide +kernel) rfl kX9_existingResult hav h
def bX9_existingColumn : List (List ab_I) := [[(.aload_n 0, y0, []), (.iload_n 1, y0, []), (.ifCond .lt 18, y0, [3])],
  [(.iload_n 1, y0, []), (.aload_n 0, y0, []), (.getfield 19, y0, [9, 1]), (.getfield 97, y0, [6, 7]), (.if_icmp .ge 7, y0, [3])],
  [(.iconst 1, y0, []), (.goto 4, y0, [4])],
  [(.iconst 0, y0, [])],
  [(.invokevirtual 140, yX9_needElement, [9, 1]), (.aload_n 0, y0, []), (.getfield 19, y0, [9, 1]), (.getfield 339, y0, [6, 0]), (.iload_n 1, y0, []), (.aaload, y0, [1]), (.areturn, y0, [])]]
def pX9_existingColumn : List Nat := [0, 5, 16, 20, 21, 34]
theorem kX9_existingColumn : ab_cks cX9_existingColumn 9 (some (.object "AlignedRuns$Column")) false 2 pX9_existingColumn (fun _ => true) 0 bX9_existingColumn = true := by decide +kernel
theorem eX9_existingColumn {d mc ms : Nat} {av : List ab_V} {σ : ab_H} {post : ab_O → ab_H → Prop} (hav : (av.all ab_n1 && Nat.ble av.length 2) = true) (h : ∀ At, ab_rule bX9_existingColumn d mc ms post At → At 0 (av.map some ++ List.replicate (2 - av.length) none) [] σ 0 0) : ab_call d mc ms yX9_existingColumn av σ post :=
  ab_entry (o := 9) (ini := false) (ret := (some (.object "AlignedRuns$Column"))) (maxL := 2) (ab_w_in (i := 1033) (by decide +kernel)) (by decide +kernel) (by decide) (by decide +kernel) (by decide +kernel) rfl kX9_existingColumn hav h
def bX9_existingBitmap : List (List ab_I) := [[(.aload_n 0, y0, []), (.iload_n 1, y0, []), (.invokevirtual 203, yX9_existingColumn, [9, 1]), (.astore 4, y0, []), (.aload_n 0, y0, []), (.aload 4, y0, []), (.iload_n 2, y0, []), (.invokevirtual 226, yX3_hasComponent, [3, 1]), (.invokevirtual 140, yX9_needElement, [9, 1]), (.aload_n 0, y0, []), (.iload_n 3, y0, []), (.ifCond .lt 19, y0, [3])],
  [(.iload_n 3, y0, []), (.aload 4, y0, []), (.iload_n 2, y0, []), (.iconst 1, y0, []), (.isub, y0, []), (.invokevirtual 343, yX3_bitmapsOfPart, [3, 1]), (.if_icmp .ge 7, y0, [3])],
  [(.iconst 1, y0, []), (.goto 4, y0, [4])],
  [(.iconst 0, y0, [])],
  [(.invokevirtual 140, yX9_needElement, [9, 1]), (.aload 4, y0, []), (.iload_n 2, y0, []), (.iconst 1, y0, []), (.isub, y0, []), (.iload_n 3, y0, []), (.invokevirtual 346, yX3_bitmapAt, [3, 2]), (.areturn, y0, [])]]
def pX9_existingBitmap : List Nat := [0, 22, 34, 38, 39, 52]
theorem kX9_existingBitmap : ab_cks cX9_existingBitmap 9 (some (.object "AlignedRuns$Bitmap")) false 5 pX9_existingBitmap (fun _ => true) 0 bX9_existingBitmap = true := by decide +kernel
theorem eX9_existingBitmap {d mc ms : Nat} {av : List ab_V} {σ : ab_H} {post : ab_O → ab_H → Prop} (hav : (av.all ab_n1 && Nat.ble av.length 5) = true) (h : ∀ At, ab_rule bX9_existingBitmap d mc ms post At → At 0 (av.map some ++ List.replicate (5 - av.length) none) [] σ 0 0) : ab_call d mc ms yX9_existingBitmap av σ post :=
  ab_entry (o := 9) (ini := false) (ret := (some (.object "AlignedRuns$Bitmap"))) (maxL := 5) (ab_w_in (i := 1056) (by decide +kernel)) (by decide +kernel) (by decide) (by decide +kernel) (by decide +kernel) rfl kX9_existingBitmap hav h
def bX9_existingWord : List (List ab_I) := [[(.aload_n 0, y0, []), (.iload_n 2, y0, []), (.ifCond .lt 22, y0, [3])],
  [(.iload_n 2, y0, []), (.aload_n 1, y0, []), (.aload_n 0, y0, []), (.getfield 19, y0, [9, 1]), (.invokevirtual 194, yX6_groupsUsed, [6, 0]), (.invokevirtual 260, yX2_wordCount, [2, 1]), (.if_icmp .ge 7, y0, [3])],
  [(.iconst 1, y0, []), (.goto 4, y0, [4])],
  [(.iconst 0, y0, [])],
  [(.invokevirtual 140, yX9_needElement, [9, 1]), (.aload_n 1, y0, []), (.iload_n 2, y0, []), (.aload_n 0, y0, []), (.getfield 19, y0, [9, 1]), (.invokevirtual 194, yX6_groupsUsed, [6, 0]), (.invokevirtual 350, yX2_wordAt, [2, 2]), (.ireturn, y0, [])]]
def pX9_existingWord : List Nat := [0, 5, 20, 24, 25, 41]
theorem kX9_existingWord : ab_cks cX9_existingWord 9 (some .int) false 3 pX9_existingWord (fun _ => true) 0 bX9_existingWord = true := by decide +kernel
theorem eX9_existingWord {d mc ms : Nat} {av : List ab_V} {σ : ab_H} {post : ab_O → ab_H → Prop} (hav : (av.all ab_n1 && Nat.ble av.length 3) = true) (h : ∀ At, ab_rule bX9_existingWord d mc ms post At → At 0 (av.map some ++ List.replicate (3 - av.length) none) [] σ 0 0) : ab_call d mc ms yX9_existingWord av σ post :=
  ab_entry (o := 9) (ini := false) (ret := (some .int)) (maxL := 3) (ab_w_in (i := 1102) (by decide +kernel)) (by decide +kernel) (by decide) (by decide +kernel) (by decide +kernel) rfl kX9_existingWord hav h
def bX9_tallyValues : List (List ab_I) := [[(.aload_n 0, y0, []), (.iload_n 1, y0, []), (.invokevirtual 203, yX9_existingColumn, [9, 1]), (.astore_n 3, y0, []), (.aload_n 0, y0, []), (.getfield 19, y0, [9, 1]), (.aload_n 3, y0, []), (.aload_n 0, y0, []), (.iload_n 2, y0, []), (.invokevirtual 244, yX9_existingResult, [9, 1]), (.invokevirtual 353, yX6_tallyOf, [6, 2]), (.return_, y0, [])]]
def pX9_tallyValues : List Nat := [0, 20]
theorem kX9_tallyValues : ab_cks cX9_tallyValues 9 none false 4 pX9_tallyValues (fun _ => true) 0 bX9_tallyValues = true := by decide +kernel
theorem eX9_tallyValues {d mc ms : Nat} {av : List ab_V} {σ : ab_H} {post : ab_O → ab_H → Prop} (hav : (av.all ab_n1 && Nat.ble av.length 4) = true) (h : ∀ At, ab_rule bX9_tallyValues d mc ms post At → At 0 (av.map some ++ List.replicate (4 - av.length) none) [] σ 0 0) : ab_call d mc ms yX9_tallyValues av σ post :=
  ab_entry (o := 9) (ini := false) (ret := none) (maxL := 4) (ab_w_in (i := 1215) (by decide +kernel)) (by decide +kernel) (by decide) (by decide +kernel) (by decide +kernel) rfl kX9_tallyValues hav h
def bJ6_numberOfLeadingZeros_0f7a4 : List (List ab_I) := [[(.iload_n 0, y0, []), (.ifCond .gt 14, y0, [5])],
  [(.iload_n 0, y0, []), (.ifCond .ne 8, y0, [3])],
  [(.bipush 32, y0, []), (.goto 4, y0, [4])],
  [(.iconst 0, y0, [])],
  [(.ireturn, y0, [])],
  [(.bipush 31, y0, []), (.istore_n 1, y0, []), (.iload_n 0, y0, []), (.ldc_w 264, y0, [65536]), (.if_icmp .lt 11, y0, [7])],
  [(.iinc 1 (-16), y0, []), (.iload_n 0, y0, []), (.bipush 16, y0, []), (.iushr, y0, []), (.istore_n 0, y0, [])],
  [(.iload_n 0, y0, []), (.sipush 256, y0, []), (.if_icmp .lt 11, y0, [9])],
  [(.iinc 1 (-8), y0, []), (.iload_n 0, y0, []), (.bipush 8, y0, []), (.iushr, y0, []), (.istore_n 0, y0, [])],
  [(.iload_n 0, y0, []), (.bipush 16, y0, []), (.if_icmp .lt 10, y0, [11])],
  [(.iinc 1 (-4), y0, []), (.iload_n 0, y0, []), (.iconst 4, y0, []), (.iushr, y0, []), (.istore_n 0, y0, [])],
  [(.iload_n 0, y0, []), (.iconst 4, y0, []), (.if_icmp .lt 10, y0, [13])],
  [(.iinc 1 (-2), y0, []), (.iload_n 0, y0, []), (.iconst 2, y0, []), (.iushr, y0, []), (.istore_n 0, y0, [])],
  [(.iload_n 1, y0, []), (.iload_n 0, y0, []), (.iconst 1, y0, []), (.iushr, y0, []), (.isub, y0, []), (.ireturn, y0, [])]]
def pJ6_numberOfLeadingZeros_0f7a4 : List Nat := [0, 4, 8, 13, 14, 15, 25, 33, 40, 48, 54, 61, 66, 73, 79]
theorem kJ6_numberOfLeadingZeros_0f7a4 : ab_cks cJ6_numberOfLeadingZeros_0f7a4 12 (some .int) false 2 pJ6_numberOfLeadingZeros_0f7a4 (fun _ => true) 0 bJ6_numberOfLeadingZeros_0f7a4 = true := by decide +kernel
theorem eJ6_numberOfLeadingZeros_0f7a4 {d mc ms : Nat} {av : List ab_V} {σ : ab_H} {post : ab_O → ab_H → Prop} (hav : (av.all ab_n1 && Nat.ble av.length 2) = true) (h : ∀ At, ab_rule bJ6_numberOfLeadingZeros_0f7a4 d mc ms post At → At 0 (av.map some ++ List.replicate (2 - av.length) none) [] σ 0 0) : ab_call d mc ms yJ6_numberOfLeadingZeros_0f7a4 av σ post :=
  ab_entry (o := 12) (ini := false) (ret := (some .int)) (maxL := 2) (ab_w_in (i := 1083) (by decide +kernel)) (by decide +kernel) (by decide) (by decide +kernel) (by decide +kernel) rfl kJ6_numberOfLeadingZeros_0f7a4 hav h
def bJ6_numberOfTrailingZeros_0f7a4 : List (List ab_I) := [[(.iload_n 0, y0, []), (.iconst (-1), y0, []), (.ixor, y0, []), (.iload_n 0, y0, []), (.iconst 1, y0, []), (.isub, y0, []), (.iand, y0, []), (.istore_n 0, y0, []), (.iload_n 0, y0, []), (.ifCond .gt 8, y0, [2])],
  [(.iload_n 0, y0, []), (.bipush 32, y0, []), (.iand, y0, []), (.ireturn, y0, [])],
  [(.iconst 1, y0, []), (.istore_n 1, y0, []), (.iload_n 0, y0, []), (.ldc_w 264, y0, [65536]), (.if_icmp .le 11, y0, [4])],
  [(.iinc 1 16, y0, []), (.iload_n 0, y0, []), (.bipush 16, y0, []), (.iushr, y0, []), (.istore_n 0, y0, [])],
  [(.iload_n 0, y0, []), (.sipush 256, y0, []), (.if_icmp .le 11, y0, [6])],
  [(.iinc 1 8, y0, []), (.iload_n 0, y0, []), (.bipush 8, y0, []), (.iushr, y0, []), (.istore_n 0, y0, [])],
  [(.iload_n 0, y0, []), (.bipush 16, y0, []), (.if_icmp .le 10, y0, [8])],
  [(.iinc 1 4, y0, []), (.iload_n 0, y0, []), (.iconst 4, y0, []), (.iushr, y0, []), (.istore_n 0, y0, [])],
  [(.iload_n 0, y0, []), (.iconst 4, y0, []), (.if_icmp .le 10, y0, [10])],
  [(.iinc 1 2, y0, []), (.iload_n 0, y0, []), (.iconst 2, y0, []), (.iushr, y0, []), (.istore_n 0, y0, [])],
  [(.iload_n 1, y0, []), (.iload_n 0, y0, []), (.iconst 1, y0, []), (.iushr, y0, []), (.iadd, y0, []), (.ireturn, y0, [])]]
def pJ6_numberOfTrailingZeros_0f7a4 : List Nat := [0, 12, 17, 26, 34, 41, 49, 55, 62, 67, 74, 80]
theorem kJ6_numberOfTrailingZeros_0f7a4 : ab_cks cJ6_numberOfTrailingZeros_0f7a4 12 (some .int) false 2 pJ6_numberOfTrailingZeros_0f7a4 (fun _ => true) 0 bJ6_numberOfTrailingZeros_0f7a4 = true := by decide +kernel
theorem eJ6_numberOfTrailingZeros_0f7a4 {d mc ms : Nat} {av : List ab_V} {σ : ab_H} {post : ab_O → ab_H → Prop} (hav : (av.all ab_n1 && Nat.ble av.length 2) = true) (h : ∀ At, ab_rule bJ6_numberOfTrailingZeros_0f7a4 d mc ms post At → At 0 (av.map some ++ List.replicate (2 - av.length) none) [] σ 0 0) : ab_call d mc ms yJ6_numberOfTrailingZeros_0f7a4 av σ post :=
  ab_entry (o := 12) (ini := false) (ret := (some .int)) (maxL := 2) (ab_w_in (i := 1075) (by decide +kernel)) (by decide +kernel) (by decide) (by decide +kernel) (by decide +kernel) rfl kJ6_numberOfTrailingZeros_0f7a4 hav h
def bJ6_bitCount_0f7a4 : List (List ab_I) := [[(.iload_n 0, y0, []), (.iload_n 0, y0, []), (.iconst 1, y0, []), (.iushr, y0, []), (.ldc_w 265, y0, [1431655765]), (.iand, y0, []), (.isub, y0, []), (.istore_n 0, y0, []), (.iload_n 0, y0, []), (.ldc_w 266, y0, [858993459]), (.iand, y0, []), (.iload_n 0, y0, []), (.iconst 2, y0, []), (.iushr, y0, []), (.ldc_w 266, y0, [858993459]), (.iand, y0, []), (.iadd, y0, []), (.istore_n 0, y0, []), (.iload_n 0, y0, []), (.iload_n 0, y0, []), (.iconst 4, y0, []), (.iushr, y0, []), (.iadd, y0, []), (.ldc_w 267, y0, [252645135]), (.iand, y0, []), (.istore_n 0, y0, []), (.iload_n 0, y0, []), (.iload_n 0, y0, []), (.bipush 8, y0, []), (.iushr, y0, []), (.iadd, y0, []), (.istore_n 0, y0, []), (.iload_n 0, y0, []), (.iload_n 0, y0, []), (.bipush 16, y0, []), (.iushr, y0, []), (.iadd, y0, []), (.istore_n 0, y0, []), (.iload_n 0, y0, []), (.bipush 63, y0, []), (.iand, y0, []), (.ireturn, y0, [])]]
def pJ6_bitCount_0f7a4 : List Nat := [0, 53]
theorem kJ6_bitCount_0f7a4 : ab_cks cJ6_bitCount_0f7a4 12 (some .int) false 1 pJ6_bitCount_0f7a4 (fun _ => true) 0 bJ6_bitCount_0f7a4 = true := by decide +kernel
theorem eJ6_bitCount_0f7a4 {d mc ms : Nat} {av : List ab_V} {σ : ab_H} {post : ab_O → ab_H → Prop} (hav : (av.all ab_n1 && Nat.ble av.length 1) = true) (h : ∀ At, ab_rule bJ6_bitCount_0f7a4 d mc ms post At → At 0 (av.map some ++ List.replicate (1 - av.length) none) [] σ 0 0) : ab_call d mc ms yJ6_bitCount_0f7a4 av σ post :=
  ab_entry (o := 12) (ini := false) (ret := (some .int)) (maxL := 1) (ab_w_in (i := 432) (by decide +kernel)) (by decide +kernel) (by decide) (by decide +kernel) (by decide +kernel) rfl kJ6_bitCount_0f7a4 hav h
