def bX10_init : List (List ab_I) := [[(.aload_n 0, y0, []), (.invokespecial 1, y0, [0, 1400]), (.aload_n 0, y0, []), (.iconst 3, y0, []), (.newarray .int, y0, []), (.putfield 7, y0, [10, 1]), (.aload_n 0, y0, []), (.iconst (-1), y0, []), (.putfield 13, y0, [10, 5]), (.aload_n 0, y0, []), (.sipush 400, y0, []), (.newarray .int, y0, []), (.putfield 17, y0, [10, 9]), (.aload_n 0, y0, []), (.iconst 4, y0, []), (.bipush 7, y0, []), (.multianewarray 20 2, y0, []), (.putfield 22, y0, [10, 10]), (.aload_n 0, y0, []), (.bipush 7, y0, []), (.newarray .int, y0, []), (.putfield 25, y0, [10, 11]), (.aload_n 0, y0, []), (.iconst 4, y0, []), (.sipush 1500, y0, []), (.multianewarray 20 2, y0, []), (.putfield 28, y0, [10, 14]), (.aload_n 0, y0, []), (.sipush 1500, y0, []), (.newarray .boolean, y0, []), (.putfield 31, y0, [10, 15]), (.aload_n 0, y0, []), (.bipush 6, y0, []), (.bipush 100, y0, []), (.multianewarray 20 2, y0, []), (.putfield 35, y0, [10, 16]), (.aload_n 0, y0, []), (.sipush 200, y0, []), (.iconst 4, y0, []), (.multianewarray 20 2, y0, []), (.putfield 38, y0, [10, 17]), (.aload_n 0, y0, []), (.bipush 32, y0, []), (.bipush 100, y0, []), (.multianewarray 20 2, y0, []), (.putfield 41, y0, [10, 19]), (.aload_n 0, y0, []), (.bipush 100, y0, []), (.newarray .int, y0, []), (.putfield 44, y0, [10, 27]), (.aload_n 0, y0, []), (.bipush 100, y0, []), (.newarray .int, y0, []), (.putfield 47, y0, [10, 28]), (.aload_n 0, y0, []), (.sipush 200, y0, []), (.newarray .int, y0, []), (.putfield 50, y0, [10, 29]), (.aload_n 0, y0, []), (.sipush 1500, y0, []), (.newarray .int, y0, []), (.putfield 53, y0, [10, 30]), (.aload_n 0, y0, []), (.iconst 4, y0, []), (.newarray .int, y0, []), (.putfield 56, y0, [10, 31]), (.aload_n 0, y0, []), (.iconst 4, y0, []), (.newarray .int, y0, []), (.putfield 59, y0, [10, 32]), (.return_, y0, [])]]
def pX10_init : List Nat := [0, 150]
theorem kX10_init : ab_cks cX10_init 10 none true 1 pX10_init (fun _ => true) 0 bX10_init = true := by decide +kernel
theorem eX10_init {d mc ms : Nat} {av : List ab_V} {σ : ab_H} {post : ab_O → ab_H → Prop} (hav : (av.all ab_n1 && Nat.ble av.length 1) = true) (h : ∀ At, ab_rule bX10_init d mc ms post At → At 0 (av.map some ++ List.replicate (1 - av.length) none) [] σ 0 0) : ab_call d mc ms yX10_init av σ post :=
  ab_entry (o := 10) (ini := true) (ret := none) (maxL := 1) (ab_w_in (i := 1399) (by decide +kernel)) (by decide +kernel) (by decide) (by decide +kernel) (by decide +kernel) rfl kX10_init hav h
def bX10_thrown : List (List ab_I) := [[(.aload_n 0, y0, []), (.getfield 62, y0, [10, 0]), (.ireturn, y0, [])]]
def pX10_thrown : List Nat := [0, 5]
theorem kX10_thrown : ab_cks cX10_thrown 10 (some .int) false 1 pX10_thrown (fun _ => true) 0 bX10_thrown = true := by decide +kernel
theorem eX10_thrown {d mc ms : Nat} {av : List ab_V} {σ : ab_H} {post : ab_O → ab_H → Prop} (hav : (av.all ab_n1 && Nat.ble av.length 1) = true) (h : ∀ At, ab_rule bX10_thrown d mc ms post At → At 0 (av.map some ++ List.replicate (1 - av.length) none) [] σ 0 0) : ab_call d mc ms yX10_thrown av σ post :=
  ab_entry (o := 10) (ini := false) (ret := (some .int)) (maxL := 1) (ab_w_in (i := 1513) (by decide +kernel)) (by decide +kernel) (by decide) (by decide +kernel) (by decide +kernel) rfl kX10_thrown hav h
def bX10_bad : List (List ab_I) := [[(.iload_n 1, y0, []), (.ifCond .eq 25, y0, [3])],
  [(.aload_n 0, y0, []), (.getfield 62, y0, [10, 0]), (.ifCond .ne 18, y0, [3])],
  [(.aload_n 0, y0, []), (.iload_n 2, y0, []), (.putfield 62, y0, [10, 0]), (.aload_n 0, y0, []), (.getfield 7, y0, [10, 1]), (.iload_n 3, y0, []), (.dup2, y0, []), (.iaload, y0, []), (.iconst 1, y0, []), (.iadd, y0, []), (.iastore, y0, [])],
  [(.aload_n 0, y0, []), (.getfield 62, y0, [10, 0]), (.ifCond .eq 7, y0, [5])],
  [(.iconst 1, y0, []), (.goto 4, y0, [6])],
  [(.iconst 0, y0, [])],
  [(.ireturn, y0, [1])]]
def pX10_bad : List Nat := [0, 4, 11, 26, 33, 37, 38, 39]
theorem kX10_bad : ab_cks cX10_bad 10 (some .boolean) false 4 pX10_bad (fun _ => true) 0 bX10_bad = true := by decide +kernel
theorem eX10_bad {d mc ms : Nat} {av : List ab_V} {σ : ab_H} {post : ab_O → ab_H → Prop} (hav : (av.all ab_n1 && Nat.ble av.length 4) = true) (h : ∀ At, ab_rule bX10_bad d mc ms post At → At 0 (av.map some ++ List.replicate (4 - av.length) none) [] σ 0 0) : ab_call d mc ms yX10_bad av σ post :=
  ab_entry (o := 10) (ini := false) (ret := (some .boolean)) (maxL := 4) (ab_w_in (i := 1531) (by decide +kernel)) (by decide +kernel) (by decide) (by decide +kernel) (by decide +kernel) rfl kX10_bad hav h
def bX10_in : List (List ab_I) := [[(.iload_n 0, y0, []), (.iload_n 1, y0, []), (.if_icmp .lt 12, y0, [3])],
  [(.iload_n 0, y0, []), (.iload_n 2, y0, []), (.if_icmp .gt 7, y0, [3])],
  [(.iconst 1, y0, []), (.goto 4, y0, [4])],
  [(.iconst 0, y0, [])],
  [(.ireturn, y0, [1])]]
def pX10_in : List Nat := [0, 5, 10, 14, 15, 16]
theorem kX10_in : ab_cks cX10_in 10 (some .boolean) false 3 pX10_in (fun _ => true) 0 bX10_in = true := by decide +kernel
theorem eX10_in {d mc ms : Nat} {av : List ab_V} {σ : ab_H} {post : ab_O → ab_H → Prop} (hav : (av.all ab_n1 && Nat.ble av.length 3) = true) (h : ∀ At, ab_rule bX10_in d mc ms post At → At 0 (av.map some ++ List.replicate (3 - av.length) none) [] σ 0 0) : ab_call d mc ms yX10_in av σ post :=
  ab_entry (o := 10) (ini := false) (ret := (some .boolean)) (maxL := 3) (ab_w_in (i := 1527) (by decide +kernel)) (by decide +kernel) (by decide) (by decide +kernel) (by decide +kernel) rfl kX10_in hav h
def bX10_less : List (List ab_I) := [[(.iload_n 0, y0, []), (.iload_n 1, y0, []), (.if_icmp .ge 7, y0, [2])],
  [(.iload_n 0, y0, []), (.goto 4, y0, [3])],
  [(.iload_n 1, y0, [])],
  [(.ireturn, y0, [])]]
def pX10_less : List Nat := [0, 5, 9, 10, 11]
theorem kX10_less : ab_cks cX10_less 10 (some .int) false 2 pX10_less (fun _ => true) 0 bX10_less = true := by decide +kernel
theorem eX10_less {d mc ms : Nat} {av : List ab_V} {σ : ab_H} {post : ab_O → ab_H → Prop} (hav : (av.all ab_n1 && Nat.ble av.length 2) = true) (h : ∀ At, ab_rule bX10_less d mc ms post At → At 0 (av.map some ++ List.replicate (2 - av.length) none) [] σ 0 0) : ab_call d mc ms yX10_less av σ post :=
  ab_entry (o := 10) (ini := false) (ret := (some .int)) (maxL := 2) (ab_w_in (i := 1524) (by decide +kernel)) (by decide +kernel) (by decide) (by decide +kernel) (by decide +kernel) rfl kX10_less hav h
def bX10_more : List (List ab_I) := [[(.iload_n 0, y0, []), (.iload_n 1, y0, []), (.if_icmp .le 7, y0, [2])],
  [(.iload_n 0, y0, []), (.goto 4, y0, [3])],
  [(.iload_n 1, y0, [])],
  [(.ireturn, y0, [])]]
def pX10_more : List Nat := [0, 5, 9, 10, 11]
theorem kX10_more : ab_cks cX10_more 10 (some .int) false 2 pX10_more (fun _ => true) 0 bX10_more = true := by decide +kernel
theorem eX10_more {d mc ms : Nat} {av : List ab_V} {σ : ab_H} {post : ab_O → ab_H → Prop} (hav : (av.all ab_n1 && Nat.ble av.length 2) = true) (h : ∀ At, ab_rule bX10_more d mc ms post At → At 0 (av.map some ++ List.replicate (2 - av.length) none) [] σ 0 0) : ab_call d mc ms yX10_more av σ post :=
  ab_entry (o := 10) (ini := false) (ret := (some .int)) (maxL := 2) (ab_w_in (i := 1616) (by decide +kernel)) (by decide +kernel) (by decide) (by decide +kernel) (by decide +kernel) rfl kX10_more hav h
def bX10_groups : List (List ab_I) := [[(.aload_n 0, y0, []), (.getfield 65, y0, [10, 13]), (.bipush 15, y0, []), (.iadd, y0, []), (.iconst 1, y0, []), (.isub, y0, []), (.bipush 15, y0, []), (.idiv, y0, []), (.ireturn, y0, [])]]
def pX10_groups : List Nat := [0, 13]
theorem kX10_groups : ab_cks cX10_groups 10 (some .int) false 1 pX10_groups (fun _ => true) 0 bX10_groups = true := by decide +kernel
theorem eX10_groups {d mc ms : Nat} {av : List ab_V} {σ : ab_H} {post : ab_O → ab_H → Prop} (hav : (av.all ab_n1 && Nat.ble av.length 1) = true) (h : ∀ At, ab_rule bX10_groups d mc ms post At → At 0 (av.map some ++ List.replicate (1 - av.length) none) [] σ 0 0) : ab_call d mc ms yX10_groups av σ post :=
  ab_entry (o := 10) (ini := false) (ret := (some .int)) (maxL := 1) (ab_w_in (i := 1708) (by decide +kernel)) (by decide +kernel) (by decide) (by decide +kernel) (by decide +kernel) rfl kX10_groups hav h
def bX10_rowsOf : List (List ab_I) := [[(.bipush 15, y0, []), (.aload_n 0, y0, []), (.getfield 65, y0, [10, 13]), (.bipush 15, y0, []), (.iload_n 1, y0, []), (.imul, y0, []), (.isub, y0, []), (.invokestatic 68, yX10_less, [2]), (.ireturn, y0, [])]]
def pX10_rowsOf : List Nat := [0, 15]
theorem kX10_rowsOf : ab_cks cX10_rowsOf 10 (some .int) false 2 pX10_rowsOf (fun _ => true) 0 bX10_rowsOf = true := by decide +kernel
theorem eX10_rowsOf {d mc ms : Nat} {av : List ab_V} {σ : ab_H} {post : ab_O → ab_H → Prop} (hav : (av.all ab_n1 && Nat.ble av.length 2) = true) (h : ∀ At, ab_rule bX10_rowsOf d mc ms post At → At 0 (av.map some ++ List.replicate (2 - av.length) none) [] σ 0 0) : ab_call d mc ms yX10_rowsOf av σ post :=
  ab_entry (o := 10) (ini := false) (ret := (some .int)) (maxL := 2) (ab_w_in (i := 1716) (by decide +kernel)) (by decide +kernel) (by decide) (by decide +kernel) (by decide +kernel) rfl kX10_rowsOf hav h
def bX10_whole : List (List ab_I) := [[(.iconst 1, y0, []), (.aload_n 0, y0, []), (.iload_n 1, y0, []), (.invokevirtual 72, yX10_rowsOf, [10, 1]), (.ishl, y0, []), (.iconst 1, y0, []), (.isub, y0, []), (.ireturn, y0, [])]]
def pX10_whole : List Nat := [0, 10]
theorem kX10_whole : ab_cks cX10_whole 10 (some .int) false 2 pX10_whole (fun _ => true) 0 bX10_whole = true := by decide +kernel
theorem eX10_whole {d mc ms : Nat} {av : List ab_V} {σ : ab_H} {post : ab_O → ab_H → Prop} (hav : (av.all ab_n1 && Nat.ble av.length 2) = true) (h : ∀ At, ab_rule bX10_whole d mc ms post At → At 0 (av.map some ++ List.replicate (2 - av.length) none) [] σ 0 0) : ab_call d mc ms yX10_whole av σ post :=
  ab_entry (o := 10) (ini := false) (ret := (some .int)) (maxL := 2) (ab_w_in (i := 1712) (by decide +kernel)) (by decide +kernel) (by decide) (by decide +kernel) (by decide +kernel) rfl kX10_whole hav h
def bX10_has : List (List ab_I) := [[(.aload_n 0, y0, []), (.iload_n 1, y0, []), (.bipush 15, y0, []), (.idiv, y0, []), (.iaload, y0, []), (.iload_n 1, y0, []), (.bipush 15, y0, []), (.irem, y0, []), (.ishr, y0, []), (.iconst 1, y0, []), (.iand, y0, []), (.iconst 1, y0, []), (.if_icmp .ne 7, y0, [2])],
  [(.iconst 1, y0, []), (.goto 4, y0, [3])],
  [(.iconst 0, y0, [])],
  [(.ireturn, y0, [1])]]
def pX10_has : List Nat := [0, 17, 21, 22, 23]
theorem kX10_has : ab_cks cX10_has 10 (some .boolean) false 2 pX10_has (fun _ => true) 0 bX10_has = true := by decide +kernel
theorem eX10_has {d mc ms : Nat} {av : List ab_V} {σ : ab_H} {post : ab_O → ab_H → Prop} (hav : (av.all ab_n1 && Nat.ble av.length 2) = true) (h : ∀ At, ab_rule bX10_has d mc ms post At → At 0 (av.map some ++ List.replicate (2 - av.length) none) [] σ 0 0) : ab_call d mc ms yX10_has av σ post :=
  ab_entry (o := 10) (ini := false) (ret := (some .boolean)) (maxL := 2) (ab_w_in (i := 1634) (by decide +kernel)) (by decide +kernel) (by decide) (by decide +kernel) (by decide +kernel) rfl kX10_has hav h
def bX10_sets : List (List ab_I) := [[(.aload_n 0, y0, []), (.iload_n 1, y0, []), (.bipush 15, y0, []), (.idiv, y0, []), (.dup2, y0, []), (.iaload, y0, []), (.iconst 1, y0, []), (.iload_n 1, y0, []), (.bipush 15, y0, []), (.irem, y0, []), (.ishl, y0, []), (.ior, y0, []), (.iastore, y0, []), (.return_, y0, [])]]
def pX10_sets : List Nat := [0, 16]
theorem kX10_sets : ab_cks cX10_sets 10 none false 2 pX10_sets (fun _ => true) 0 bX10_sets = true := by decide +kernel
theorem eX10_sets {d mc ms : Nat} {av : List ab_V} {σ : ab_H} {post : ab_O → ab_H → Prop} (hav : (av.all ab_n1 && Nat.ble av.length 2) = true) (h : ∀ At, ab_rule bX10_sets d mc ms post At → At 0 (av.map some ++ List.replicate (2 - av.length) none) [] σ 0 0) : ab_call d mc ms yX10_sets av σ post :=
  ab_entry (o := 10) (ini := false) (ret := none) (maxL := 2) (ab_w_in (i := 1637) (by decide +kernel)) (by decide +kernel) (by decide) (by decide +kernel) (by decide +kernel) rfl kX10_sets hav h
def bX10_empties : List (List ab_I) := [[(.iconst 0, y0, []), (.istore_n 1, y0, [])],
  [(.iload_n 1, y0, []), (.bipush 100, y0, []), (.if_icmp .ge 13, y0, [3])],
  [(.aload_n 0, y0, []), (.iload_n 1, y0, []), (.iconst 0, y0, []), (.iastore, y0, []), (.iinc 1 1, y0, []), (.goto (-13), y0, [1])],
  [(.return_, y0, [])]]
def pX10_empties : List Nat := [0, 2, 8, 18, 19]
theorem kX10_empties : ab_cks cX10_empties 10 none false 2 pX10_empties (fun _ => true) 0 bX10_empties = true := by decide +kernel
theorem eX10_empties {d mc ms : Nat} {av : List ab_V} {σ : ab_H} {post : ab_O → ab_H → Prop} (hav : (av.all ab_n1 && Nat.ble av.length 2) = true) (h : ∀ At, ab_rule bX10_empties d mc ms post At → At 0 (av.map some ++ List.replicate (2 - av.length) none) [] σ 0 0) : ab_call d mc ms yX10_empties av σ post :=
  ab_entry (o := 10) (ini := false) (ret := none) (maxL := 2) (ab_w_in (i := 1631) (by decide +kernel)) (by decide +kernel) (by decide) (by decide +kernel) (by decide +kernel) rfl kX10_empties hav h
def bX10_sort : List (List ab_I) := [[(.aload_n 0, y0, []), (.iload_n 1, y0, []), (.iaload, y0, []), (.ifCond .ne 7, y0, [2])],
  [(.iconst 0, y0, []), (.goto 17, y0, [5])],
  [(.aload_n 0, y0, []), (.iload_n 1, y0, []), (.iaload, y0, []), (.sipush 32767, y0, []), (.if_icmp .ne 7, y0, [4])],
  [(.iconst 1, y0, []), (.goto 4, y0, [5])],
  [(.iconst 2, y0, [])],
  [(.ireturn, y0, [])]]
def pX10_sort : List Nat := [0, 6, 10, 19, 23, 24, 25]
theorem kX10_sort : ab_cks cX10_sort 10 (some .int) false 2 pX10_sort (fun _ => true) 0 bX10_sort = true := by decide +kernel
theorem eX10_sort {d mc ms : Nat} {av : List ab_V} {σ : ab_H} {post : ab_O → ab_H → Prop} (hav : (av.all ab_n1 && Nat.ble av.length 2) = true) (h : ∀ At, ab_rule bX10_sort d mc ms post At → At 0 (av.map some ++ List.replicate (2 - av.length) none) [] σ 0 0) : ab_call d mc ms yX10_sort av σ post :=
  ab_entry (o := 10) (ini := false) (ret := (some .int)) (maxL := 2) (ab_w_in (i := 1759) (by decide +kernel)) (by decide +kernel) (by decide) (by decide +kernel) (by decide +kernel) rfl kX10_sort hav h
def bX10_stretch : List (List ab_I) := [[(.aload_n 1, y0, []), (.iload_n 2, y0, []), (.invokestatic 76, yX10_sort, [2]), (.istore_n 3, y0, []), (.iconst 1, y0, []), (.istore 4, y0, [])],
  [(.iload_n 3, y0, []), (.iconst 2, y0, []), (.if_icmp .ge 32, y0, [5])],
  [(.iload_n 2, y0, []), (.iload 4, y0, []), (.iadd, y0, []), (.aload_n 0, y0, []), (.invokevirtual 80, yX10_groups, [10, 0]), (.if_icmp .ge 21, y0, [5])],
  [(.aload_n 1, y0, []), (.iload_n 2, y0, []), (.iload 4, y0, []), (.iadd, y0, []), (.invokestatic 76, yX10_sort, [2]), (.iload_n 3, y0, []), (.if_icmp .ne 9, y0, [5])],
  [(.iinc 4 1, y0, []), (.goto (-31), y0, [1])],
  [(.iload 4, y0, []), (.ireturn, y0, [])]]
def pX10_stretch : List Nat := [0, 9, 14, 25, 37, 43, 46]
theorem kX10_stretch : ab_cks cX10_stretch 10 (some .int) false 5 pX10_stretch (fun _ => true) 0 bX10_stretch = true := by decide +kernel
theorem eX10_stretch {d mc ms : Nat} {av : List ab_V} {σ : ab_H} {post : ab_O → ab_H → Prop} (hav : (av.all ab_n1 && Nat.ble av.length 5) = true) (h : ∀ At, ab_rule bX10_stretch d mc ms post At → At 0 (av.map some ++ List.replicate (5 - av.length) none) [] σ 0 0) : ab_call d mc ms yX10_stretch av σ post :=
  ab_entry (o := 10) (ini := false) (ret := (some .int)) (maxL := 5) (ab_w_in (i := 1756) (by decide +kernel)) (by decide +kernel) (by decide) (by decide +kernel) (by decide +kernel) rfl kX10_stretch hav h
def bX10_words : List (List ab_I) := [[(.iconst 0, y0, []), (.istore_n 3, y0, []), (.iconst 0, y0, []), (.istore 4, y0, [])],
  [(.iload 4, y0, []), (.aload_n 0, y0, []), (.invokevirtual 80, yX10_groups, [10, 0]), (.if_icmp .ge 63, y0, [13])],
  [(.aload_n 1, y0, []), (.iload 4, y0, []), (.invokestatic 76, yX10_sort, [2]), (.iconst 2, y0, []), (.if_icmp .ne 7, y0, [4])],
  [(.iconst 1, y0, []), (.goto 4, y0, [5])],
  [(.iconst 0, y0, [])],
  [(.istore 5, y0, []), (.iload_n 3, y0, []), (.iload_n 2, y0, []), (.iconst 1, y0, []), (.if_icmp .eq 18, y0, [10])],
  [(.iload 5, y0, []), (.iload_n 2, y0, []), (.iconst 2, y0, []), (.if_icmp .ne 7, y0, [8])],
  [(.iconst 1, y0, []), (.goto 4, y0, [9])],
  [(.iconst 0, y0, [])],
  [(.if_icmp .ne 7, y0, [11])],
  [(.iconst 1, y0, []), (.goto 4, y0, [12])],
  [(.iconst 0, y0, [])],
  [(.iadd, y0, []), (.istore_n 3, y0, []), (.iload 4, y0, []), (.aload_n 0, y0, []), (.aload_n 1, y0, []), (.iload 4, y0, []), (.invokevirtual 84, yX10_stretch, [10, 2]), (.iadd, y0, []), (.istore 4, y0, []), (.goto (-66), y0, [1])],
  [(.iload_n 3, y0, []), (.ireturn, y0, [])]]
def pX10_words : List Nat := [0, 5, 14, 24, 28, 29, 37, 44, 48, 49, 52, 56, 57, 74, 76]
theorem kX10_words : ab_cks cX10_words 10 (some .int) false 6 pX10_words (fun _ => true) 0 bX10_words = true := by decide +kernel
theorem eX10_words {d mc ms : Nat} {av : List ab_V} {σ : ab_H} {post : ab_O → ab_H → Prop} (hav : (av.all ab_n1 && Nat.ble av.length 6) = true) (h : ∀ At, ab_rule bX10_words d mc ms post At → At 0 (av.map some ++ List.replicate (6 - av.length) none) [] σ 0 0) : ab_call d mc ms yX10_words av σ post :=
  ab_entry (o := 10) (ini := false) (ret := (some .int)) (maxL := 6) (ab_w_in (i := 1782) (by decide +kernel)) (by decide +kernel) (by decide) (by decide +kernel) (by decide +kernel) rfl kX10_words hav h
def bX10_wordAt : List (List ab_I) := [[(.iconst 0, y0, []), (.istore_n 3, y0, []), (.iconst 0, y0, []), (.istore 4, y0, [])],
  [(.iload 4, y0, []), (.aload_n 0, y0, []), (.invokevirtual 80, yX10_groups, [10, 0]), (.if_icmp .ge 72, y0, [11])],
  [(.iload_n 3, y0, []), (.iload_n 2, y0, []), (.if_icmp .ne 49, y0, [10])],
  [(.aload_n 1, y0, []), (.iload 4, y0, []), (.invokestatic 76, yX10_sort, [2]), (.iconst 2, y0, []), (.if_icmp .ne 10, y0, [5])],
  [(.aload_n 1, y0, []), (.iload 4, y0, []), (.iaload, y0, []), (.goto 31, y0, [9])],
  [(.ldc 87, y0, [32768]), (.aload_n 1, y0, []), (.iload 4, y0, []), (.invokestatic 76, yX10_sort, [2]), (.iconst 1, y0, []), (.if_icmp .ne 9, y0, [7])],
  [(.sipush 16384, y0, []), (.goto 4, y0, [8])],
  [(.iconst 0, y0, [])],
  [(.iadd, y0, []), (.aload_n 0, y0, []), (.aload_n 1, y0, []), (.iload 4, y0, []), (.invokevirtual 84, yX10_stretch, [10, 2]), (.iadd, y0, [])],
  [(.ireturn, y0, [])],
  [(.iinc 3 1, y0, []), (.iload 4, y0, []), (.aload_n 0, y0, []), (.aload_n 1, y0, []), (.iload 4, y0, []), (.invokevirtual 84, yX10_stretch, [10, 2]), (.iadd, y0, []), (.istore 4, y0, []), (.goto (-75), y0, [1])],
  [(.iconst (-1), y0, []), (.ireturn, y0, [])]]
def pX10_wordAt : List Nat := [0, 5, 14, 19, 29, 36, 48, 54, 55, 64, 65, 83, 85]
theorem kX10_wordAt : ab_cks cX10_wordAt 10 (some .int) false 5 pX10_wordAt (fun _ => true) 0 bX10_wordAt = true := by decide +kernel
theorem eX10_wordAt {d mc ms : Nat} {av : List ab_V} {σ : ab_H} {post : ab_O → ab_H → Prop} (hav : (av.all ab_n1 && Nat.ble av.length 5) = true) (h : ∀ At, ab_rule bX10_wordAt d mc ms post At → At 0 (av.map some ++ List.replicate (5 - av.length) none) [] σ 0 0) : ab_call d mc ms yX10_wordAt av σ post :=
  ab_entry (o := 10) (ini := false) (ret := (some .int)) (maxL := 5) (ab_w_in (i := 1902) (by decide +kernel)) (by decide +kernel) (by decide) (by decide +kernel) (by decide +kernel) rfl kX10_wordAt hav h
def bX10_ones : List (List ab_I) := [[(.iconst 0, y0, []), (.istore_n 1, y0, []), (.iload_n 0, y0, []), (.istore_n 2, y0, [])],
  [(.iload_n 2, y0, []), (.ifCond .le 16, y0, [3])],
  [(.iload_n 1, y0, []), (.iload_n 2, y0, []), (.iconst 1, y0, []), (.iand, y0, []), (.iadd, y0, []), (.istore_n 1, y0, []), (.iload_n 2, y0, []), (.iconst 1, y0, []), (.ishr, y0, []), (.istore_n 2, y0, []), (.goto (-14), y0, [1])],
  [(.iload_n 1, y0, []), (.ireturn, y0, [])]]
def pX10_ones : List Nat := [0, 4, 8, 21, 23]
theorem kX10_ones : ab_cks cX10_ones 10 (some .int) false 3 pX10_ones (fun _ => true) 0 bX10_ones = true := by decide +kernel
theorem eX10_ones {d mc ms : Nat} {av : List ab_V} {σ : ab_H} {post : ab_O → ab_H → Prop} (hav : (av.all ab_n1 && Nat.ble av.length 3) = true) (h : ∀ At, ab_rule bX10_ones d mc ms post At → At 0 (av.map some ++ List.replicate (3 - av.length) none) [] σ 0 0) : ab_call d mc ms yX10_ones av σ post :=
  ab_entry (o := 10) (ini := false) (ret := (some .int)) (maxL := 3) (ab_w_in (i := 1821) (by decide +kernel)) (by decide +kernel) (by decide) (by decide +kernel) (by decide +kernel) rfl kX10_ones hav h
def bX10_many : List (List ab_I) := [[(.iconst 0, y0, []), (.istore_n 2, y0, []), (.iconst 0, y0, []), (.istore_n 3, y0, [])],
  [(.iload_n 3, y0, []), (.aload_n 0, y0, []), (.invokevirtual 80, yX10_groups, [10, 0]), (.if_icmp .ge 18, y0, [3])],
  [(.iload_n 2, y0, []), (.aload_n 1, y0, []), (.iload_n 3, y0, []), (.iaload, y0, []), (.invokestatic 88, yX10_ones, [1]), (.iadd, y0, []), (.istore_n 2, y0, []), (.iinc 3 1, y0, []), (.goto (-20), y0, [1])],
  [(.iload_n 2, y0, []), (.ireturn, y0, [])]]
def pX10_many : List Nat := [0, 4, 12, 27, 29]
theorem kX10_many : ab_cks cX10_many 10 (some .int) false 4 pX10_many (fun _ => true) 0 bX10_many = true := by decide +kernel
theorem eX10_many {d mc ms : Nat} {av : List ab_V} {σ : ab_H} {post : ab_O → ab_H → Prop} (hav : (av.all ab_n1 && Nat.ble av.length 4) = true) (h : ∀ At, ab_rule bX10_many d mc ms post At → At 0 (av.map some ++ List.replicate (4 - av.length) none) [] σ 0 0) : ab_call d mc ms yX10_many av σ post :=
  ab_entry (o := 10) (ini := false) (ret := (some .int)) (maxL := 4) (ab_w_in (i := 1818) (by decide +kernel)) (by decide +kernel) (by decide) (by decide +kernel) (by decide +kernel) rfl kX10_many hav h
def bX10_nextIn : List (List ab_I) := [[(.iload_n 2, y0, []), (.istore_n 3, y0, [])],
  [(.iload_n 3, y0, []), (.aload_n 0, y0, []), (.getfield 65, y0, [10, 13]), (.if_icmp .ge 19, y0, [5])],
  [(.aload_n 1, y0, []), (.iload_n 3, y0, []), (.invokestatic 91, yX10_has, [2]), (.ifCond .eq 5, y0, [4])],
  [(.iload_n 3, y0, []), (.ireturn, y0, [])],
  [(.iinc 3 1, y0, []), (.goto (-21), y0, [1])],
  [(.iconst (-1), y0, []), (.ireturn, y0, [])]]
def pX10_nextIn : List Nat := [0, 2, 10, 18, 20, 26, 28]
theorem kX10_nextIn : ab_cks cX10_nextIn 10 (some .int) false 4 pX10_nextIn (fun _ => true) 0 bX10_nextIn = true := by decide +kernel
theorem eX10_nextIn {d mc ms : Nat} {av : List ab_V} {σ : ab_H} {post : ab_O → ab_H → Prop} (hav : (av.all ab_n1 && Nat.ble av.length 4) = true) (h : ∀ At, ab_rule bX10_nextIn d mc ms post At → At 0 (av.map some ++ List.replicate (4 - av.length) none) [] σ 0 0) : ab_call d mc ms yX10_nextIn av σ post :=
  ab_entry (o := 10) (ini := false) (ret := (some .int)) (maxL := 4) (ab_w_in (i := 1890) (by decide +kernel)) (by decide +kernel) (by decide) (by decide +kernel) (by decide +kernel) rfl kX10_nextIn hav h
def bX10_lastIn : List (List ab_I) := [[(.aload_n 0, y0, []), (.getfield 65, y0, [10, 13]), (.iconst 1, y0, []), (.isub, y0, []), (.istore_n 2, y0, [])],
  [(.iload_n 2, y0, []), (.ifCond .lt 19, y0, [5])],
  [(.aload_n 1, y0, []), (.iload_n 2, y0, []), (.invokestatic 91, yX10_has, [2]), (.ifCond .eq 5, y0, [4])],
  [(.iload_n 2, y0, []), (.ireturn, y0, [])],
  [(.iinc 2 (-1), y0, []), (.goto (-17), y0, [1])],
  [(.iconst (-1), y0, []), (.ireturn, y0, [])]]
def pX10_lastIn : List Nat := [0, 7, 11, 19, 21, 27, 29]
theorem kX10_lastIn : ab_cks cX10_lastIn 10 (some .int) false 3 pX10_lastIn (fun _ => true) 0 bX10_lastIn = true := by decide +kernel
theorem eX10_lastIn {d mc ms : Nat} {av : List ab_V} {σ : ab_H} {post : ab_O → ab_H → Prop} (hav : (av.all ab_n1 && Nat.ble av.length 3) = true) (h : ∀ At, ab_rule bX10_lastIn d mc ms post At → At 0 (av.map some ++ List.replicate (3 - av.length) none) [] σ 0 0) : ab_call d mc ms yX10_lastIn av σ post :=
  ab_entry (o := 10) (ini := false) (ret := (some .int)) (maxL := 3) (ab_w_in (i := 1894) (by decide +kernel)) (by decide +kernel) (by decide) (by decide +kernel) (by decide +kernel) rfl kX10_lastIn hav h
def bX10_stepsOf : List (List ab_I) := [[(.iconst 0, y0, []), (.istore_n 3, y0, []), (.iconst 0, y0, []), (.istore 4, y0, [])],
  [(.iload 4, y0, []), (.aload_n 0, y0, []), (.invokevirtual 80, yX10_groups, [10, 0]), (.if_icmp .ge 31, y0, [3])],
  [(.iload 4, y0, []), (.aload_n 0, y0, []), (.aload_n 1, y0, []), (.iload 4, y0, []), (.invokevirtual 84, yX10_stretch, [10, 2]), (.aload_n 0, y0, []), (.aload_n 2, y0, []), (.iload 4, y0, []), (.invokevirtual 84, yX10_stretch, [10, 2]), (.invokestatic 68, yX10_less, [2]), (.iadd, y0, []), (.istore 4, y0, []), (.iinc 3 1, y0, []), (.goto (-34), y0, [1])],
  [(.iload_n 3, y0, []), (.ireturn, y0, [])]]
def pX10_stepsOf : List Nat := [0, 5, 14, 42, 44]
theorem kX10_stepsOf : ab_cks cX10_stepsOf 10 (some .int) false 5 pX10_stepsOf (fun _ => true) 0 bX10_stepsOf = true := by decide +kernel
theorem eX10_stepsOf {d mc ms : Nat} {av : List ab_V} {σ : ab_H} {post : ab_O → ab_H → Prop} (hav : (av.all ab_n1 && Nat.ble av.length 5) = true) (h : ∀ At, ab_rule bX10_stepsOf d mc ms post At → At 0 (av.map some ++ List.replicate (5 - av.length) none) [] σ 0 0) : ab_call d mc ms yX10_stepsOf av σ post :=
  ab_entry (o := 10) (ini := false) (ret := (some .int)) (maxL := 5) (ab_w_in (i := 1752) (by decide +kernel)) (by decide +kernel) (by decide) (by decide +kernel) (by decide +kernel) rfl kX10_stepsOf hav h
def bX10_joined : List (List ab_I) := [[(.iload_n 0, y0, []), (.ifCond .ne 9, y0, [2])],
  [(.iload_n 1, y0, []), (.iload_n 2, y0, []), (.iand, y0, []), (.goto 30, y0, [7])],
  [(.iload_n 0, y0, []), (.iconst 1, y0, []), (.if_icmp .ne 9, y0, [4])],
  [(.iload_n 1, y0, []), (.iload_n 2, y0, []), (.ior, y0, []), (.goto 19, y0, [7])],
  [(.iload_n 0, y0, []), (.iconst 2, y0, []), (.if_icmp .ne 9, y0, [6])],
  [(.iload_n 1, y0, []), (.iload_n 2, y0, []), (.ixor, y0, []), (.goto 8, y0, [7])],
  [(.iload_n 1, y0, []), (.iload_n 2, y0, []), (.iconst (-1), y0, []), (.ixor, y0, []), (.iand, y0, [])],
  [(.ireturn, y0, [])]]
def pX10_joined : List Nat := [0, 4, 10, 15, 21, 26, 32, 37, 38]
theorem kX10_joined : ab_cks cX10_joined 10 (some .int) false 3 pX10_joined (fun _ => true) 0 bX10_joined = true := by decide +kernel
theorem eX10_joined {d mc ms : Nat} {av : List ab_V} {σ : ab_H} {post : ab_O → ab_H → Prop} (hav : (av.all ab_n1 && Nat.ble av.length 3) = true) (h : ∀ At, ab_rule bX10_joined d mc ms post At → At 0 (av.map some ++ List.replicate (3 - av.length) none) [] σ 0 0) : ab_call d mc ms yX10_joined av σ post :=
  ab_entry (o := 10) (ini := false) (ret := (some .int)) (maxL := 3) (ab_w_in (i := 1766) (by decide +kernel)) (by decide +kernel) (by decide) (by decide +kernel) (by decide +kernel) rfl kX10_joined hav h
def bX10_joins : List (List ab_I) := [[(.iconst 0, y0, []), (.istore 5, y0, [])],
  [(.iload 5, y0, []), (.bipush 100, y0, []), (.if_icmp .ge 26, y0, [3])],
  [(.aload 4, y0, []), (.iload 5, y0, []), (.iload_n 1, y0, []), (.aload_n 2, y0, []), (.iload 5, y0, []), (.iaload, y0, []), (.aload_n 3, y0, []), (.iload 5, y0, []), (.iaload, y0, []), (.invokestatic 95, yX10_joined, [3]), (.iastore, y0, []), (.iinc 5 1, y0, []), (.goto (-27), y0, [1])],
  [(.return_, y0, [])]]
def pX10_joins : List Nat := [0, 3, 10, 33, 34]
theorem kX10_joins : ab_cks cX10_joins 10 none false 6 pX10_joins (fun _ => true) 0 bX10_joins = true := by decide +kernel
theorem eX10_joins {d mc ms : Nat} {av : List ab_V} {σ : ab_H} {post : ab_O → ab_H → Prop} (hav : (av.all ab_n1 && Nat.ble av.length 6) = true) (h : ∀ At, ab_rule bX10_joins d mc ms post At → At 0 (av.map some ++ List.replicate (6 - av.length) none) [] σ 0 0) : ab_call d mc ms yX10_joins av σ post :=
  ab_entry (o := 10) (ini := false) (ret := none) (maxL := 6) (ab_w_in (i := 1763) (by decide +kernel)) (by decide +kernel) (by decide) (by decide +kernel) (by decide +kernel) rfl kX10_joins hav h
def bX10_turns : List (List ab_I) := [[(.iconst 0, y0, []), (.istore_n 2, y0, [])],
  [(.iload_n 2, y0, []), (.aload_n 0, y0, []), (.invokevirtual 80, yX10_groups, [10, 0]), (.if_icmp .ge 23, y0, [3])],
  [(.aload_n 1, y0, []), (.iload_n 2, y0, []), (.aload_n 0, y0, []), (.iload_n 2, y0, []), (.invokevirtual 99, yX10_whole, [10, 1]), (.aload_n 1, y0, []), (.iload_n 2, y0, []), (.iaload, y0, []), (.iconst (-1), y0, []), (.ixor, y0, []), (.iand, y0, []), (.iastore, y0, []), (.iinc 2 1, y0, []), (.goto (-25), y0, [1])],
  [(.return_, y0, [])]]
def pX10_turns : List Nat := [0, 2, 10, 30, 31]
theorem kX10_turns : ab_cks cX10_turns 10 none false 3 pX10_turns (fun _ => true) 0 bX10_turns = true := by decide +kernel
theorem eX10_turns {d mc ms : Nat} {av : List ab_V} {σ : ab_H} {post : ab_O → ab_H → Prop} (hav : (av.all ab_n1 && Nat.ble av.length 3) = true) (h : ∀ At, ab_rule bX10_turns d mc ms post At → At 0 (av.map some ++ List.replicate (3 - av.length) none) [] σ 0 0) : ab_call d mc ms yX10_turns av σ post :=
  ab_entry (o := 10) (ini := false) (ret := none) (maxL := 3) (ab_w_in (i := 1786) (by decide +kernel)) (by decide +kernel) (by decide) (by decide +kernel) (by decide +kernel) rfl kX10_turns hav h
def bX10_copies : List (List ab_I) := [[(.iconst 0, y0, []), (.istore_n 2, y0, [])],
  [(.iload_n 2, y0, []), (.bipush 100, y0, []), (.if_icmp .ge 15, y0, [3])],
  [(.aload_n 1, y0, []), (.iload_n 2, y0, []), (.aload_n 0, y0, []), (.iload_n 2, y0, []), (.iaload, y0, []), (.iastore, y0, []), (.iinc 2 1, y0, []), (.goto (-15), y0, [1])],
  [(.return_, y0, [])]]
def pX10_copies : List Nat := [0, 2, 8, 20, 21]
theorem kX10_copies : ab_cks cX10_copies 10 none false 3 pX10_copies (fun _ => true) 0 bX10_copies = true := by decide +kernel
theorem eX10_copies {d mc ms : Nat} {av : List ab_V} {σ : ab_H} {post : ab_O → ab_H → Prop} (hav : (av.all ab_n1 && Nat.ble av.length 3) = true) (h : ∀ At, ab_rule bX10_copies d mc ms post At → At 0 (av.map some ++ List.replicate (3 - av.length) none) [] σ 0 0) : ab_call d mc ms yX10_copies av σ post :=
  ab_entry (o := 10) (ini := false) (ret := none) (maxL := 3) (ab_w_in (i := 1640) (by decide +kernel)) (by decide +kernel) (by decide) (by decide +kernel) (by decide +kernel) rfl kX10_copies hav h
def bX10_unit : List (List ab_I) := [[(.iconst 1, y0, []), (.istore_n 3, y0, []), (.iconst 1, y0, []), (.istore 4, y0, [])],
  [(.iload 4, y0, []), (.iload_n 2, y0, []), (.if_icmp .ge 23, y0, [3])],
  [(.iload_n 3, y0, []), (.aload_n 0, y0, []), (.getfield 22, y0, [10, 10]), (.iload_n 1, y0, []), (.aaload, y0, [2]), (.iconst 2, y0, []), (.iload 4, y0, []), (.iadd, y0, []), (.iaload, y0, []), (.imul, y0, []), (.istore_n 3, y0, []), (.iinc 4 1, y0, []), (.goto (-23), y0, [1])],
  [(.iload_n 3, y0, []), (.ireturn, y0, [])]]
def pX10_unit : List Nat := [0, 5, 11, 31, 33]
theorem kX10_unit : ab_cks cX10_unit 10 (some .int) false 5 pX10_unit (fun _ => true) 0 bX10_unit = true := by decide +kernel
theorem eX10_unit {d mc ms : Nat} {av : List ab_V} {σ : ab_H} {post : ab_O → ab_H → Prop} (hav : (av.all ab_n1 && Nat.ble av.length 5) = true) (h : ∀ At, ab_rule bX10_unit d mc ms post At → At 0 (av.map some ++ List.replicate (5 - av.length) none) [] σ 0 0) : ab_call d mc ms yX10_unit av σ post :=
  ab_entry (o := 10) (ini := false) (ret := (some .int)) (maxL := 5) (ab_w_in (i := 1724) (by decide +kernel)) (by decide +kernel) (by decide) (by decide +kernel) (by decide +kernel) rfl kX10_unit hav h
def bX10_baseOf : List (List ab_I) := [[(.aload_n 0, y0, []), (.getfield 22, y0, [10, 10]), (.iload_n 1, y0, []), (.aaload, y0, [2]), (.iconst 2, y0, []), (.iload_n 2, y0, []), (.iadd, y0, []), (.iaload, y0, []), (.ireturn, y0, [])]]
def pX10_baseOf : List Nat := [0, 11]
theorem kX10_baseOf : ab_cks cX10_baseOf 10 (some .int) false 3 pX10_baseOf (fun _ => true) 0 bX10_baseOf = true := by decide +kernel
theorem eX10_baseOf {d mc ms : Nat} {av : List ab_V} {σ : ab_H} {post : ab_O → ab_H → Prop} (hav : (av.all ab_n1 && Nat.ble av.length 3) = true) (h : ∀ At, ab_rule bX10_baseOf d mc ms post At → At 0 (av.map some ++ List.replicate (3 - av.length) none) [] σ 0 0) : ab_call d mc ms yX10_baseOf av σ post :=
  ab_entry (o := 10) (ini := false) (ret := (some .int)) (maxL := 3) (ab_w_in (i := 1728) (by decide +kernel)) (by decide +kernel) (by decide) (by decide +kernel) (by decide +kernel) rfl kX10_baseOf hav h
def bX10_digit : List (List ab_I) := [[(.iload_n 3, y0, []), (.aload_n 0, y0, []), (.iload_n 1, y0, []), (.iload_n 2, y0, []), (.invokevirtual 102, yX10_unit, [10, 2]), (.idiv, y0, []), (.aload_n 0, y0, []), (.iload_n 1, y0, []), (.iload_n 2, y0, []), (.invokevirtual 105, yX10_baseOf, [10, 2]), (.irem, y0, []), (.ireturn, y0, [])]]
def pX10_digit : List Nat := [0, 16]
theorem kX10_digit : ab_cks cX10_digit 10 (some .int) false 4 pX10_digit (fun _ => true) 0 bX10_digit = true := by decide +kernel
theorem eX10_digit {d mc ms : Nat} {av : List ab_V} {σ : ab_H} {post : ab_O → ab_H → Prop} (hav : (av.all ab_n1 && Nat.ble av.length 4) = true) (h : ∀ At, ab_rule bX10_digit d mc ms post At → At 0 (av.map some ++ List.replicate (4 - av.length) none) [] σ 0 0) : ab_call d mc ms yX10_digit av σ post :=
  ab_entry (o := 10) (ini := false) (ret := (some .int)) (maxL := 4) (ab_w_in (i := 1720) (by decide +kernel)) (by decide +kernel) (by decide) (by decide +kernel) (by decide +kernel) rfl kX10_digit hav h
def bX10_isRange : List (List ab_I) := [[(.aload_n 0, y0, []), (.getfield 22, y0, [10, 10]), (.iload_n 1, y0, []), (.aaload, y0, [2]), (.iconst 2, y0, []), (.iaload, y0, []), (.iconst 1, y0, []), (.if_icmp .ne 7, y0, [2])],
  [(.iconst 1, y0, []), (.goto 4, y0, [3])],
  [(.iconst 0, y0, [])],
  [(.ireturn, y0, [1])]]
def pX10_isRange : List Nat := [0, 12, 16, 17, 18]
theorem kX10_isRange : ab_cks cX10_isRange 10 (some .boolean) false 2 pX10_isRange (fun _ => true) 0 bX10_isRange = true := by decide +kernel
theorem eX10_isRange {d mc ms : Nat} {av : List ab_V} {σ : ab_H} {post : ab_O → ab_H → Prop} (hav : (av.all ab_n1 && Nat.ble av.length 2) = true) (h : ∀ At, ab_rule bX10_isRange d mc ms post At → At 0 (av.map some ++ List.replicate (2 - av.length) none) [] σ 0 0) : ab_call d mc ms yX10_isRange av σ post :=
  ab_entry (o := 10) (ini := false) (ret := (some .boolean)) (maxL := 2) (ab_w_in (i := 1732) (by decide +kernel)) (by decide +kernel) (by decide) (by decide +kernel) (by decide +kernel) rfl kX10_isRange hav h
def bX10_bitmapsOf : List (List ab_I) := [[(.aload_n 0, y0, []), (.iload_n 1, y0, []), (.iload_n 2, y0, []), (.invokevirtual 105, yX10_baseOf, [10, 2]), (.aload_n 0, y0, []), (.iload_n 1, y0, []), (.invokevirtual 108, yX10_isRange, [10, 1]), (.ifCond .eq 7, y0, [2])],
  [(.iconst 1, y0, []), (.goto 4, y0, [3])],
  [(.iconst 0, y0, [])],
  [(.isub, y0, []), (.ireturn, y0, [])]]
def pX10_bitmapsOf : List Nat := [0, 14, 18, 19, 21]
theorem kX10_bitmapsOf : ab_cks cX10_bitmapsOf 10 (some .int) false 3 pX10_bitmapsOf (fun _ => true) 0 bX10_bitmapsOf = true := by decide +kernel
theorem eX10_bitmapsOf {d mc ms : Nat} {av : List ab_V} {σ : ab_H} {post : ab_O → ab_H → Prop} (hav : (av.all ab_n1 && Nat.ble av.length 3) = true) (h : ∀ At, ab_rule bX10_bitmapsOf d mc ms post At → At 0 (av.map some ++ List.replicate (3 - av.length) none) [] σ 0 0) : ab_call d mc ms yX10_bitmapsOf av σ post :=
  ab_entry (o := 10) (ini := false) (ret := (some .int)) (maxL := 3) (ab_w_in (i := 1854) (by decide +kernel)) (by decide +kernel) (by decide) (by decide +kernel) (by decide +kernel) rfl kX10_bitmapsOf hav h
def bX10_laysBitmap : List (List ab_I) := [[(.aload 4, y0, []), (.invokestatic 112, yX10_empties, [1]), (.iconst 0, y0, []), (.istore 5, y0, [])],
  [(.iload 5, y0, []), (.aload_n 0, y0, []), (.getfield 65, y0, [10, 13]), (.if_icmp .ge 56, y0, [8])],
  [(.aload_n 0, y0, []), (.iload_n 1, y0, []), (.iload_n 2, y0, []), (.aload_n 0, y0, []), (.getfield 28, y0, [10, 14]), (.iload_n 1, y0, []), (.aaload, y0, [2]), (.iload 5, y0, []), (.iaload, y0, []), (.invokevirtual 116, yX10_digit, [10, 3]), (.istore 6, y0, []), (.aload_n 0, y0, []), (.iload_n 1, y0, []), (.invokevirtual 108, yX10_isRange, [10, 1]), (.ifCond .eq 12, y0, [5])],
  [(.iload 6, y0, []), (.iload_n 3, y0, []), (.if_icmp .gt 19, y0, [7])],
  [(.goto 9, y0, [6])],
  [(.iload 6, y0, []), (.iload_n 3, y0, []), (.if_icmp .ne 10, y0, [7])],
  [(.aload 4, y0, []), (.iload 5, y0, []), (.invokestatic 119, yX10_sets, [2])],
  [(.iinc 5 1, y0, []), (.goto (-59), y0, [1])],
  [(.return_, y0, [])]]
def pX10_laysBitmap : List Nat := [0, 8, 17, 42, 48, 51, 57, 64, 70, 71]
theorem kX10_laysBitmap : ab_cks cX10_laysBitmap 10 none false 7 pX10_laysBitmap (fun _ => true) 0 bX10_laysBitmap = true := by decide +kernel
theorem eX10_laysBitmap {d mc ms : Nat} {av : List ab_V} {σ : ab_H} {post : ab_O → ab_H → Prop} (hav : (av.all ab_n1 && Nat.ble av.length 7) = true) (h : ∀ At, ab_rule bX10_laysBitmap d mc ms post At → At 0 (av.map some ++ List.replicate (7 - av.length) none) [] σ 0 0) : ab_call d mc ms yX10_laysBitmap av σ post :=
  ab_entry (o := 10) (ini := false) (ret := none) (maxL := 7) (ab_w_in (i := 1740) (by decide +kernel)) (by decide +kernel) (by decide) (by decide +kernel) (by decide +kernel) rfl kX10_laysBitmap hav h
def bX10_laysLive : List (List ab_I) := [[(.aload_n 1, y0, []), (.invokestatic 112, yX10_empties, [1]), (.iconst 0, y0, []), (.istore_n 2, y0, [])],
  [(.iload_n 2, y0, []), (.aload_n 0, y0, []), (.getfield 65, y0, [10, 13]), (.if_icmp .ge 23, y0, [5])],
  [(.aload_n 0, y0, []), (.getfield 31, y0, [10, 15]), (.iload_n 2, y0, []), (.baload, y0, []), (.ifCond .ne 8, y0, [4])],
  [(.aload_n 1, y0, []), (.iload_n 2, y0, []), (.invokestatic 119, yX10_sets, [2])],
  [(.iinc 2 1, y0, []), (.goto (-25), y0, [1])],
  [(.return_, y0, [])]]
def pX10_laysLive : List Nat := [0, 6, 14, 23, 28, 34, 35]
theorem kX10_laysLive : ab_cks cX10_laysLive 10 none false 3 pX10_laysLive (fun _ => true) 0 bX10_laysLive = true := by decide +kernel
theorem eX10_laysLive {d mc ms : Nat} {av : List ab_V} {σ : ab_H} {post : ab_O → ab_H → Prop} (hav : (av.all ab_n1 && Nat.ble av.length 3) = true) (h : ∀ At, ab_rule bX10_laysLive d mc ms post At → At 0 (av.map some ++ List.replicate (3 - av.length) none) [] σ 0 0) : ab_call d mc ms yX10_laysLive av σ post :=
  ab_entry (o := 10) (ini := false) (ret := none) (maxL := 3) (ab_w_in (i := 1814) (by decide +kernel)) (by decide +kernel) (by decide) (by decide +kernel) (by decide +kernel) rfl kX10_laysLive hav h
def bX10_laysAll : List (List ab_I) := [[(.aload_n 1, y0, []), (.invokestatic 112, yX10_empties, [1]), (.iconst 0, y0, []), (.istore_n 2, y0, [])],
  [(.iload_n 2, y0, []), (.aload_n 0, y0, []), (.invokevirtual 80, yX10_groups, [10, 0]), (.if_icmp .ge 17, y0, [3])],
  [(.aload_n 1, y0, []), (.iload_n 2, y0, []), (.aload_n 0, y0, []), (.iload_n 2, y0, []), (.invokevirtual 99, yX10_whole, [10, 1]), (.iastore, y0, []), (.iinc 2 1, y0, []), (.goto (-19), y0, [1])],
  [(.return_, y0, [])]]
def pX10_laysAll : List Nat := [0, 6, 14, 28, 29]
theorem kX10_laysAll : ab_cks cX10_laysAll 10 none false 3 pX10_laysAll (fun _ => true) 0 bX10_laysAll = true := by decide +kernel
theorem eX10_laysAll {d mc ms : Nat} {av : List ab_V} {σ : ab_H} {post : ab_O → ab_H → Prop} (hav : (av.all ab_n1 && Nat.ble av.length 3) = true) (h : ∀ At, ab_rule bX10_laysAll d mc ms post At → At 0 (av.map some ++ List.replicate (3 - av.length) none) [] σ 0 0) : ab_call d mc ms yX10_laysAll av σ post :=
  ab_entry (o := 10) (ini := false) (ret := none) (maxL := 3) (ab_w_in (i := 1704) (by decide +kernel)) (by decide +kernel) (by decide) (by decide +kernel) (by decide +kernel) rfl kX10_laysAll hav h
def bX10_bitmap : List (List ab_I) := [[(.iload_n 1, y0, []), (.bipush 6, y0, []), (.if_icmp .ge 10, y0, [2])],
  [(.aload_n 0, y0, []), (.getfield 35, y0, [10, 16]), (.iload_n 1, y0, []), (.aaload, y0, [2]), (.areturn, y0, [])],
  [(.aload_n 0, y0, []), (.aload_n 0, y0, []), (.getfield 47, y0, [10, 28]), (.invokevirtual 123, yX10_laysLive, [10, 1]), (.aload_n 0, y0, []), (.getfield 47, y0, [10, 28]), (.areturn, y0, [])]]
def pX10_bitmap : List Nat := [0, 6, 13, 26]
theorem kX10_bitmap : ab_cks cX10_bitmap 10 (some (.array .int)) false 2 pX10_bitmap (fun _ => true) 0 bX10_bitmap = true := by decide +kernel
theorem eX10_bitmap {d mc ms : Nat} {av : List ab_V} {σ : ab_H} {post : ab_O → ab_H → Prop} (hav : (av.all ab_n1 && Nat.ble av.length 2) = true) (h : ∀ At, ab_rule bX10_bitmap d mc ms post At → At 0 (av.map some ++ List.replicate (2 - av.length) none) [] σ 0 0) : ab_call d mc ms yX10_bitmap av σ post :=
  ab_entry (o := 10) (ini := false) (ret := (some (.array .int))) (maxL := 2) (ab_w_in (i := 1914) (by decide +kernel)) (by decide +kernel) (by decide) (by decide +kernel) (by decide +kernel) rfl kX10_bitmap hav h
def bX10_feed : List (List ab_I) := [[(.aload_n 0, y0, []), (.iconst 0, y0, []), (.putfield 62, y0, [10, 0]), (.aload_n 0, y0, []), (.getfield 126, y0, [10, 2]), (.bipush 20, y0, []), (.iadd, y0, []), (.sipush 400, y0, []), (.if_icmp .le 5, y0, [2])],
  [(.iconst (-1), y0, []), (.ireturn, y0, [])],
  [(.iconst 0, y0, []), (.istore 6, y0, [])],
  [(.iload 6, y0, []), (.bipush 20, y0, []), (.if_icmp .ge 93, y0, [14])],
  [(.iload 6, y0, []), (.iconst 4, y0, []), (.if_icmp .ge 7, y0, [6])],
  [(.iload_n 1, y0, []), (.goto 39, y0, [13])],
  [(.iload 6, y0, []), (.bipush 8, y0, []), (.if_icmp .ge 7, y0, [8])],
  [(.iload_n 2, y0, []), (.goto 28, y0, [13])],
  [(.iload 6, y0, []), (.bipush 12, y0, []), (.if_icmp .ge 7, y0, [10])],
  [(.iload_n 3, y0, []), (.goto 17, y0, [13])],
  [(.iload 6, y0, []), (.bipush 16, y0, []), (.if_icmp .ge 8, y0, [12])],
  [(.iload 4, y0, []), (.goto 5, y0, [13])],
  [(.iload 5, y0, [])],
  [(.istore 7, y0, []), (.aload_n 0, y0, []), (.getfield 17, y0, [10, 9]), (.aload_n 0, y0, []), (.getfield 126, y0, [10, 2]), (.iload 7, y0, []), (.bipush 24, y0, []), (.bipush 8, y0, []), (.iload 6, y0, []), (.iconst 4, y0, []), (.irem, y0, []), (.imul, y0, []), (.isub, y0, []), (.ishr, y0, []), (.sipush 255, y0, []), (.iand, y0, []), (.iastore, y0, []), (.aload_n 0, y0, []), (.dup, y0, []), (.getfield 126, y0, [10, 2]), (.iconst 1, y0, []), (.iadd, y0, []), (.putfield 126, y0, [10, 2]), (.iinc 6 1, y0, []), (.goto (-94), y0, [3])],
  [(.aload_n 0, y0, []), (.getfield 126, y0, [10, 2]), (.ireturn, y0, [])]]
def pX10_feed : List Nat := [0, 18, 20, 23, 30, 36, 40, 47, 51, 58, 62, 69, 74, 76, 120, 125]
theorem kX10_feed : ab_cks cX10_feed 10 (some .int) false 8 pX10_feed (fun _ => true) 0 bX10_feed = true := by decide +kernel
theorem eX10_feed {d mc ms : Nat} {av : List ab_V} {σ : ab_H} {post : ab_O → ab_H → Prop} (hav : (av.all ab_n1 && Nat.ble av.length 8) = true) (h : ∀ At, ab_rule bX10_feed d mc ms post At → At 0 (av.map some ++ List.replicate (8 - av.length) none) [] σ 0 0) : ab_call d mc ms yX10_feed av σ post :=
  ab_entry (o := 10) (ini := false) (ret := (some .int)) (maxL := 8) (ab_w_in (i := 1517) (by decide +kernel)) (by decide +kernel) (by decide) (by decide +kernel) (by decide +kernel) rfl kX10_feed hav h
def bX10_byteAt : List (List ab_I) := [[(.iload_n 1, y0, []), (.aload_n 0, y0, []), (.getfield 129, y0, [10, 3]), (.if_icmp .lt 7, y0, [2])],
  [(.iconst (-1), y0, []), (.goto 9, y0, [3])],
  [(.aload_n 0, y0, []), (.getfield 17, y0, [10, 9]), (.iload_n 1, y0, []), (.iaload, y0, [])],
  [(.ireturn, y0, [])]]
def pX10_byteAt : List Nat := [0, 8, 12, 18, 19]
theorem kX10_byteAt : ab_cks cX10_byteAt 10 (some .int) false 2 pX10_byteAt (fun _ => true) 0 bX10_byteAt = true := by decide +kernel
theorem eX10_byteAt {d mc ms : Nat} {av : List ab_V} {σ : ab_H} {post : ab_O → ab_H → Prop} (hav : (av.all ab_n1 && Nat.ble av.length 2) = true) (h : ∀ At, ab_rule bX10_byteAt d mc ms post At → At 0 (av.map some ++ List.replicate (2 - av.length) none) [] σ 0 0) : ab_call d mc ms yX10_byteAt av σ post :=
  ab_entry (o := 10) (ini := false) (ret := (some .int)) (maxL := 2) (ab_w_in (i := 1562) (by decide +kernel)) (by decide +kernel) (by decide) (by decide +kernel) (by decide +kernel) rfl kX10_byteAt hav h
def bX10_here : List (List ab_I) := [[(.aload_n 0, y0, []), (.aload_n 0, y0, []), (.getfield 132, y0, [10, 4]), (.invokevirtual 135, yX10_byteAt, [10, 1]), (.bipush 32, y0, []), (.if_icmp .ne 16, y0, [2])],
  [(.aload_n 0, y0, []), (.dup, y0, []), (.getfield 132, y0, [10, 4]), (.iconst 1, y0, []), (.iadd, y0, []), (.putfield 132, y0, [10, 4]), (.goto (-23), y0, [0])],
  [(.aload_n 0, y0, []), (.aload_n 0, y0, []), (.getfield 132, y0, [10, 4]), (.invokevirtual 135, yX10_byteAt, [10, 1]), (.ireturn, y0, [])]]
def pX10_here : List Nat := [0, 13, 26, 35]
theorem kX10_here : ab_cks cX10_here 10 (some .int) false 1 pX10_here (fun _ => true) 0 bX10_here = true := by decide +kernel
theorem eX10_here {d mc ms : Nat} {av : List ab_V} {σ : ab_H} {post : ab_O → ab_H → Prop} (hav : (av.all ab_n1 && Nat.ble av.length 1) = true) (h : ∀ At, ab_rule bX10_here d mc ms post At → At 0 (av.map some ++ List.replicate (1 - av.length) none) [] σ 0 0) : ab_call d mc ms yX10_here av σ post :=
  ab_entry (o := 10) (ini := false) (ret := (some .int)) (maxL := 1) (ab_w_in (i := 1558) (by decide +kernel)) (by decide +kernel) (by decide) (by decide +kernel) (by decide +kernel) rfl kX10_here hav h
def bX10_fine : List (List ab_I) := [[(.aload_n 0, y0, []), (.getfield 138, y0, [10, 6]), (.ifCond .ne 7, y0, [2])],
  [(.iconst 1, y0, []), (.goto 4, y0, [3])],
  [(.iconst 0, y0, [])],
  [(.ireturn, y0, [1])]]
def pX10_fine : List Nat := [0, 7, 11, 12, 13]
theorem kX10_fine : ab_cks cX10_fine 10 (some .boolean) false 1 pX10_fine (fun _ => true) 0 bX10_fine = true := by decide +kernel
theorem eX10_fine {d mc ms : Nat} {av : List ab_V} {σ : ab_H} {post : ab_O → ab_H → Prop} (hav : (av.all ab_n1 && Nat.ble av.length 1) = true) (h : ∀ At, ab_rule bX10_fine d mc ms post At → At 0 (av.map some ++ List.replicate (1 - av.length) none) [] σ 0 0) : ab_call d mc ms yX10_fine av σ post :=
  ab_entry (o := 10) (ini := false) (ret := (some .boolean)) (maxL := 1) (ab_w_in (i := 1550) (by decide +kernel)) (by decide +kernel) (by decide) (by decide +kernel) (by decide +kernel) rfl kX10_fine hav h
def bX10_wrong : List (List ab_I) := [[(.aload_n 0, y0, []), (.getfield 138, y0, [10, 6]), (.ifCond .ne 13, y0, [2])],
  [(.aload_n 0, y0, []), (.iload_n 1, y0, []), (.putfield 138, y0, [10, 6]), (.aload_n 0, y0, []), (.iload_n 2, y0, []), (.putfield 141, y0, [10, 7])],
  [(.return_, y0, [])]]
def pX10_wrong : List Nat := [0, 7, 17, 18]
theorem kX10_wrong : ab_cks cX10_wrong 10 none false 3 pX10_wrong (fun _ => true) 0 bX10_wrong = true := by decide +kernel
theorem eX10_wrong {d mc ms : Nat} {av : List ab_V} {σ : ab_H} {post : ab_O → ab_H → Prop} (hav : (av.all ab_n1 && Nat.ble av.length 3) = true) (h : ∀ At, ab_rule bX10_wrong d mc ms post At → At 0 (av.map some ++ List.replicate (3 - av.length) none) [] σ 0 0) : ab_call d mc ms yX10_wrong av σ post :=
  ab_entry (o := 10) (ini := false) (ret := none) (maxL := 3) (ab_w_in (i := 1573) (by decide +kernel)) (by decide +kernel) (by decide) (by decide +kernel) (by decide +kernel) rfl kX10_wrong hav h
def bX10_starts : List (List ab_I) := [[(.aload_n 0, y0, []), (.iconst 0, y0, []), (.putfield 126, y0, [10, 2]), (.aload_n 0, y0, []), (.iload_n 1, y0, []), (.putfield 129, y0, [10, 3]), (.aload_n 0, y0, []), (.iconst 0, y0, []), (.putfield 132, y0, [10, 4]), (.aload_n 0, y0, []), (.iconst 0, y0, []), (.putfield 138, y0, [10, 6]), (.aload_n 0, y0, []), (.iconst (-1), y0, []), (.putfield 141, y0, [10, 7]), (.aload_n 0, y0, []), (.iconst 0, y0, []), (.putfield 144, y0, [10, 8]), (.return_, y0, [])]]
def pX10_starts : List Nat := [0, 31]
theorem kX10_starts : ab_cks cX10_starts 10 none false 2 pX10_starts (fun _ => true) 0 bX10_starts = true := by decide +kernel
theorem eX10_starts {d mc ms : Nat} {av : List ab_V} {σ : ab_H} {post : ab_O → ab_H → Prop} (hav : (av.all ab_n1 && Nat.ble av.length 2) = true) (h : ∀ At, ab_rule bX10_starts d mc ms post At → At 0 (av.map some ++ List.replicate (2 - av.length) none) [] σ 0 0) : ab_call d mc ms yX10_starts av σ post :=
  ab_entry (o := 10) (ini := false) (ret := none) (maxL := 2) (ab_w_in (i := 1535) (by decide +kernel)) (by decide +kernel) (by decide) (by decide +kernel) (by decide +kernel) rfl kX10_starts hav h
def bX10_ends : List (List ab_I) := [[(.aload_n 0, y0, []), (.aload_n 0, y0, []), (.getfield 141, y0, [10, 7]), (.putfield 13, y0, [10, 5]), (.aload_n 0, y0, []), (.invokevirtual 147, yX10_fine, [10, 0]), (.ifCond .eq 7, y0, [2])],
  [(.iload_n 1, y0, []), (.goto 10, y0, [3])],
  [(.aload_n 0, y0, []), (.getfield 138, y0, [10, 6]), (.bipush 10, y0, []), (.isub, y0, [])],
  [(.ireturn, y0, [])]]
def pX10_ends : List Nat := [0, 15, 19, 26, 27]
theorem kX10_ends : ab_cks cX10_ends 10 (some .int) false 2 pX10_ends (fun _ => true) 0 bX10_ends = true := by decide +kernel
theorem eX10_ends {d mc ms : Nat} {av : List ab_V} {σ : ab_H} {post : ab_O → ab_H → Prop} (hav : (av.all ab_n1 && Nat.ble av.length 2) = true) (h : ∀ At, ab_rule bX10_ends d mc ms post At → At 0 (av.map some ++ List.replicate (2 - av.length) none) [] σ 0 0) : ab_call d mc ms yX10_ends av σ post :=
  ab_entry (o := 10) (ini := false) (ret := (some .int)) (maxL := 2) (ab_w_in (i := 1593) (by decide +kernel)) (by decide +kernel) (by decide) (by decide +kernel) (by decide +kernel) rfl kX10_ends hav h
def bX10_isDigit : List (List ab_I) := [[(.iload_n 0, y0, []), (.bipush 48, y0, []), (.if_icmp .lt 13, y0, [3])],
  [(.iload_n 0, y0, []), (.bipush 57, y0, []), (.if_icmp .gt 7, y0, [3])],
  [(.iconst 1, y0, []), (.goto 4, y0, [4])],
  [(.iconst 0, y0, [])],
  [(.ireturn, y0, [1])]]
def pX10_isDigit : List Nat := [0, 6, 12, 16, 17, 18]
theorem kX10_isDigit : ab_cks cX10_isDigit 10 (some .boolean) false 1 pX10_isDigit (fun _ => true) 0 bX10_isDigit = true := by decide +kernel
theorem eX10_isDigit {d mc ms : Nat} {av : List ab_V} {σ : ab_H} {post : ab_O → ab_H → Prop} (hav : (av.all ab_n1 && Nat.ble av.length 1) = true) (h : ∀ At, ab_rule bX10_isDigit d mc ms post At → At 0 (av.map some ++ List.replicate (1 - av.length) none) [] σ 0 0) : ab_call d mc ms yX10_isDigit av σ post :=
  ab_entry (o := 10) (ini := false) (ret := (some .boolean)) (maxL := 1) (ab_w_in (i := 1580) (by decide +kernel)) (by decide +kernel) (by decide) (by decide +kernel) (by decide +kernel) rfl kX10_isDigit hav h
def bX10_isSmall : List (List ab_I) := [[(.iload_n 0, y0, []), (.bipush 97, y0, []), (.if_icmp .lt 13, y0, [3])],
  [(.iload_n 0, y0, []), (.bipush 122, y0, []), (.if_icmp .gt 7, y0, [3])],
  [(.iconst 1, y0, []), (.goto 4, y0, [4])],
  [(.iconst 0, y0, [])],
  [(.ireturn, y0, [1])]]
def pX10_isSmall : List Nat := [0, 6, 12, 16, 17, 18]
theorem kX10_isSmall : ab_cks cX10_isSmall 10 (some .boolean) false 1 pX10_isSmall (fun _ => true) 0 bX10_isSmall = true := by decide +kernel
theorem eX10_isSmall {d mc ms : Nat} {av : List ab_V} {σ : ab_H} {post : ab_O → ab_H → Prop} (hav : (av.all ab_n1 && Nat.ble av.length 1) = true) (h : ∀ At, ab_rule bX10_isSmall d mc ms post At → At 0 (av.map some ++ List.replicate (1 - av.length) none) [] σ 0 0) : ab_call d mc ms yX10_isSmall av σ post :=
  ab_entry (o := 10) (ini := false) (ret := (some .boolean)) (maxL := 1) (ab_w_in (i := 1565) (by decide +kernel)) (by decide +kernel) (by decide) (by decide +kernel) (by decide +kernel) rfl kX10_isSmall hav h
def bX10_number : List (List ab_I) := [[(.aload_n 0, y0, []), (.invokevirtual 147, yX10_fine, [10, 0]), (.ifCond .ne 5, y0, [2])],
  [(.iconst 0, y0, []), (.ireturn, y0, [])],
  [(.aload_n 0, y0, []), (.invokevirtual 151, yX10_here, [10, 0]), (.invokestatic 154, yX10_isDigit, [1]), (.ifCond .ne 12, y0, [4])],
  [(.aload_n 0, y0, []), (.iconst 1, y0, []), (.aload_n 0, y0, []), (.getfield 132, y0, [10, 4]), (.invokevirtual 157, yX10_wrong, [10, 2])],
  [(.aload_n 0, y0, []), (.getfield 132, y0, [10, 4]), (.istore_n 3, y0, []), (.iconst 0, y0, []), (.istore 4, y0, [])],
  [(.aload_n 0, y0, []), (.aload_n 0, y0, []), (.getfield 132, y0, [10, 4]), (.invokevirtual 135, yX10_byteAt, [10, 1]), (.invokestatic 154, yX10_isDigit, [1]), (.ifCond .eq 40, y0, [7])],
  [(.ldc 161, y0, [100000]), (.bipush 10, y0, []), (.iload 4, y0, []), (.imul, y0, []), (.aload_n 0, y0, []), (.aload_n 0, y0, []), (.getfield 132, y0, [10, 4]), (.invokevirtual 135, yX10_byteAt, [10, 1]), (.iadd, y0, []), (.bipush 48, y0, []), (.isub, y0, []), (.invokestatic 68, yX10_less, [2]), (.istore 4, y0, []), (.aload_n 0, y0, []), (.dup, y0, []), (.getfield 132, y0, [10, 4]), (.iconst 1, y0, []), (.iadd, y0, []), (.putfield 132, y0, [10, 4]), (.goto (-48), y0, [5])],
  [(.iload 4, y0, []), (.iload_n 1, y0, []), (.iload_n 2, y0, []), (.invokestatic 162, yX10_in, [3]), (.ifCond .ne 9, y0, [9])],
  [(.aload_n 0, y0, []), (.iconst 2, y0, []), (.iload_n 3, y0, []), (.invokevirtual 157, yX10_wrong, [10, 2])],
  [(.aload_n 0, y0, []), (.invokevirtual 147, yX10_fine, [10, 0]), (.ifCond .eq 8, y0, [11])],
  [(.iload 4, y0, []), (.goto 4, y0, [12])],
  [(.iconst 0, y0, [])],
  [(.ireturn, y0, [])]]
def pX10_number : List Nat := [0, 7, 9, 19, 28, 36, 50, 87, 97, 103, 110, 115, 116, 117]
theorem kX10_number : ab_cks cX10_number 10 (some .int) false 5 pX10_number (fun _ => true) 0 bX10_number = true := by decide +kernel
theorem eX10_number {d mc ms : Nat} {av : List ab_V} {σ : ab_H} {post : ab_O → ab_H → Prop} (hav : (av.all ab_n1 && Nat.ble av.length 5) = true) (h : ∀ At, ab_rule bX10_number d mc ms post At → At 0 (av.map some ++ List.replicate (5 - av.length) none) [] σ 0 0) : ab_call d mc ms yX10_number av σ post :=
  ab_entry (o := 10) (ini := false) (ret := (some .int)) (maxL := 5) (ab_w_in (i := 1584) (by decide +kernel)) (by decide +kernel) (by decide) (by decide +kernel) (by decide +kernel) rfl kX10_number hav h
def bX10_wordHere : List (List ab_I) := [[(.aload_n 0, y0, []), (.invokevirtual 151, yX10_here, [10, 0]), (.pop, y0, []), (.iconst 0, y0, []), (.istore_n 1, y0, []), (.iconst 0, y0, []), (.istore_n 2, y0, [])],
  [(.aload_n 0, y0, []), (.aload_n 0, y0, []), (.getfield 132, y0, [10, 4]), (.iload_n 2, y0, []), (.iadd, y0, []), (.invokevirtual 135, yX10_byteAt, [10, 1]), (.invokestatic 166, yX10_isSmall, [1]), (.ifCond .eq 40, y0, [6])],
  [(.iload_n 2, y0, []), (.bipush 6, y0, []), (.if_icmp .ge 26, y0, [4])],
  [(.bipush 27, y0, []), (.iload_n 1, y0, []), (.imul, y0, []), (.aload_n 0, y0, []), (.aload_n 0, y0, []), (.getfield 132, y0, [10, 4]), (.iload_n 2, y0, []), (.iadd, y0, []), (.invokevirtual 135, yX10_byteAt, [10, 1]), (.iadd, y0, []), (.bipush 97, y0, []), (.isub, y0, []), (.iconst 1, y0, []), (.iadd, y0, []), (.goto 4, y0, [5])],
  [(.iload_n 1, y0, [])],
  [(.istore_n 1, y0, []), (.iinc 2 1, y0, []), (.goto (-50), y0, [1])],
  [(.iload_n 2, y0, []), (.bipush 6, y0, []), (.if_icmp .gt 7, y0, [8])],
  [(.iload_n 2, y0, []), (.ifCond .ne 7, y0, [9])],
  [(.iconst (-1), y0, []), (.goto 4, y0, [10])],
  [(.iload_n 1, y0, [])],
  [(.ireturn, y0, [])]]
def pX10_wordHere : List Nat := [0, 9, 25, 31, 54, 55, 62, 68, 72, 76, 77, 78]
theorem kX10_wordHere : ab_cks cX10_wordHere 10 (some .int) false 3 pX10_wordHere (fun _ => true) 0 bX10_wordHere = true := by decide +kernel
theorem eX10_wordHere {d mc ms : Nat} {av : List ab_V} {σ : ab_H} {post : ab_O → ab_H → Prop} (hav : (av.all ab_n1 && Nat.ble av.length 3) = true) (h : ∀ At, ab_rule bX10_wordHere d mc ms post At → At 0 (av.map some ++ List.replicate (3 - av.length) none) [] σ 0 0) : ab_call d mc ms yX10_wordHere av σ post :=
  ab_entry (o := 10) (ini := false) (ret := (some .int)) (maxL := 3) (ab_w_in (i := 1554) (by decide +kernel)) (by decide +kernel) (by decide) (by decide +kernel) (by decide +kernel) rfl kX10_wordHere hav h
def bX10_letters : List (List ab_I) := [[(.bipush 27, y0, []), (.iload_n 0, y0, []), (.imul, y0, []), (.iload_n 1, y0, []), (.iadd, y0, []), (.istore 6, y0, []), (.iload_n 2, y0, []), (.ifCond .ne 8, y0, [2])],
  [(.iload 6, y0, []), (.goto 10, y0, [3])],
  [(.bipush 27, y0, []), (.iload 6, y0, []), (.imul, y0, []), (.iload_n 2, y0, []), (.iadd, y0, [])],
  [(.istore 6, y0, []), (.iload_n 3, y0, []), (.ifCond .ne 8, y0, [5])],
  [(.iload 6, y0, []), (.goto 10, y0, [6])],
  [(.bipush 27, y0, []), (.iload 6, y0, []), (.imul, y0, []), (.iload_n 3, y0, []), (.iadd, y0, [])],
  [(.istore 6, y0, []), (.iload 4, y0, []), (.ifCond .ne 8, y0, [8])],
  [(.iload 6, y0, []), (.goto 11, y0, [9])],
  [(.bipush 27, y0, []), (.iload 6, y0, []), (.imul, y0, []), (.iload 4, y0, []), (.iadd, y0, [])],
  [(.istore 6, y0, []), (.iload 5, y0, []), (.ifCond .ne 8, y0, [11])],
  [(.iload 6, y0, []), (.goto 11, y0, [12])],
  [(.bipush 27, y0, []), (.iload 6, y0, []), (.imul, y0, []), (.iload 5, y0, []), (.iadd, y0, [])],
  [(.ireturn, y0, [])]]
def pX10_letters : List Nat := [0, 12, 17, 24, 30, 35, 42, 49, 54, 62, 69, 74, 82, 83]
theorem kX10_letters : ab_cks cX10_letters 10 (some .int) false 7 pX10_letters (fun _ => true) 0 bX10_letters = true := by decide +kernel
theorem eX10_letters {d mc ms : Nat} {av : List ab_V} {σ : ab_H} {post : ab_O → ab_H → Prop} (hav : (av.all ab_n1 && Nat.ble av.length 7) = true) (h : ∀ At, ab_rule bX10_letters d mc ms post At → At 0 (av.map some ++ List.replicate (7 - av.length) none) [] σ 0 0) : ab_call d mc ms yX10_letters av σ post :=
  ab_entry (o := 10) (ini := false) (ret := (some .int)) (maxL := 7) (ab_w_in (i := 1542) (by decide +kernel)) (by decide +kernel) (by decide) (by decide +kernel) (by decide +kernel) rfl kX10_letters hav h
def bX10_skipWord : List (List ab_I) := [[(.aload_n 0, y0, []), (.aload_n 0, y0, []), (.getfield 132, y0, [10, 4]), (.invokevirtual 135, yX10_byteAt, [10, 1]), (.invokestatic 166, yX10_isSmall, [1]), (.ifCond .eq 16, y0, [2])],
  [(.aload_n 0, y0, []), (.dup, y0, []), (.getfield 132, y0, [10, 4]), (.iconst 1, y0, []), (.iadd, y0, []), (.putfield 132, y0, [10, 4]), (.goto (-24), y0, [0])],
  [(.return_, y0, [])]]
def pX10_skipWord : List Nat := [0, 14, 27, 28]
theorem kX10_skipWord : ab_cks cX10_skipWord 10 none false 1 pX10_skipWord (fun _ => true) 0 bX10_skipWord = true := by decide +kernel
theorem eX10_skipWord {d mc ms : Nat} {av : List ab_V} {σ : ab_H} {post : ab_O → ab_H → Prop} (hav : (av.all ab_n1 && Nat.ble av.length 1) = true) (h : ∀ At, ab_rule bX10_skipWord d mc ms post At → At 0 (av.map some ++ List.replicate (1 - av.length) none) [] σ 0 0) : ab_call d mc ms yX10_skipWord av σ post :=
  ab_entry (o := 10) (ini := false) (ret := none) (maxL := 1) (ab_w_in (i := 1569) (by decide +kernel)) (by decide +kernel) (by decide) (by decide +kernel) (by decide +kernel) rfl kX10_skipWord hav h
def bX10_takes : List (List ab_I) := [[(.aload_n 0, y0, []), (.invokevirtual 147, yX10_fine, [10, 0]), (.ifCond .eq 11, y0, [2])],
  [(.aload_n 0, y0, []), (.invokevirtual 169, yX10_wordHere, [10, 0]), (.iload_n 1, y0, []), (.if_icmp .eq 5, y0, [3])],
  [(.iconst 0, y0, []), (.ireturn, y0, [1])],
  [(.aload_n 0, y0, []), (.invokevirtual 172, yX10_skipWord, [10, 0]), (.iconst 1, y0, []), (.ireturn, y0, [1])]]
def pX10_takes : List Nat := [0, 7, 15, 17, 23]
theorem kX10_takes : ab_cks cX10_takes 10 (some .boolean) false 2 pX10_takes (fun _ => true) 0 bX10_takes = true := by decide +kernel
theorem eX10_takes {d mc ms : Nat} {av : List ab_V} {σ : ab_H} {post : ab_O → ab_H → Prop} (hav : (av.all ab_n1 && Nat.ble av.length 2) = true) (h : ∀ At, ab_rule bX10_takes d mc ms post At → At 0 (av.map some ++ List.replicate (2 - av.length) none) [] σ 0 0) : ab_call d mc ms yX10_takes av σ post :=
  ab_entry (o := 10) (ini := false) (ret := (some .boolean)) (maxL := 2) (ab_w_in (i := 1546) (by decide +kernel)) (by decide +kernel) (by decide) (by decide +kernel) (by decide +kernel) rfl kX10_takes hav h
def bX10_sign : List (List ab_I) := [[(.aload_n 0, y0, []), (.invokevirtual 147, yX10_fine, [10, 0]), (.ifCond .ne 4, y0, [2])],
  [(.return_, y0, [])],
  [(.aload_n 0, y0, []), (.invokevirtual 151, yX10_here, [10, 0]), (.iload_n 1, y0, []), (.if_icmp .ne 16, y0, [4])],
  [(.aload_n 0, y0, []), (.dup, y0, []), (.getfield 132, y0, [10, 4]), (.iconst 1, y0, []), (.iadd, y0, []), (.putfield 132, y0, [10, 4]), (.goto 12, y0, [5])],
  [(.aload_n 0, y0, []), (.iconst 1, y0, []), (.aload_n 0, y0, []), (.getfield 132, y0, [10, 4]), (.invokevirtual 157, yX10_wrong, [10, 2])],
  [(.return_, y0, [])]]
def pX10_sign : List Nat := [0, 7, 8, 16, 29, 38, 39]
theorem kX10_sign : ab_cks cX10_sign 10 none false 2 pX10_sign (fun _ => true) 0 bX10_sign = true := by decide +kernel
theorem eX10_sign {d mc ms : Nat} {av : List ab_V} {σ : ab_H} {post : ab_O → ab_H → Prop} (hav : (av.all ab_n1 && Nat.ble av.length 2) = true) (h : ∀ At, ab_rule bX10_sign d mc ms post At → At 0 (av.map some ++ List.replicate (2 - av.length) none) [] σ 0 0) : ab_call d mc ms yX10_sign av σ post :=
  ab_entry (o := 10) (ini := false) (ret := none) (maxL := 2) (ab_w_in (i := 1668) (by decide +kernel)) (by decide +kernel) (by decide) (by decide +kernel) (by decide +kernel) rfl kX10_sign hav h
def bX10_end : List (List ab_I) := [[(.aload_n 0, y0, []), (.invokevirtual 147, yX10_fine, [10, 0]), (.ifCond .eq 20, y0, [3])],
  [(.aload_n 0, y0, []), (.invokevirtual 151, yX10_here, [10, 0]), (.iconst (-1), y0, []), (.if_icmp .eq 12, y0, [3])],
  [(.aload_n 0, y0, []), (.iconst 1, y0, []), (.aload_n 0, y0, []), (.getfield 132, y0, [10, 4]), (.invokevirtual 157, yX10_wrong, [10, 2])],
  [(.return_, y0, [])]]
def pX10_end : List Nat := [0, 7, 15, 24, 25]
theorem kX10_end : ab_cks cX10_end 10 none false 1 pX10_end (fun _ => true) 0 bX10_end = true := by decide +kernel
theorem eX10_end {d mc ms : Nat} {av : List ab_V} {σ : ab_H} {post : ab_O → ab_H → Prop} (hav : (av.all ab_n1 && Nat.ble av.length 1) = true) (h : ∀ At, ab_rule bX10_end d mc ms post At → At 0 (av.map some ++ List.replicate (1 - av.length) none) [] σ 0 0) : ab_call d mc ms yX10_end av σ post :=
  ab_entry (o := 10) (ini := false) (ret := none) (maxL := 1) (ab_w_in (i := 1589) (by decide +kernel)) (by decide +kernel) (by decide) (by decide +kernel) (by decide +kernel) rfl kX10_end hav h
def bX10_readsBase : List (List ab_I) := [[(.aload_n 0, y0, []), (.invokevirtual 147, yX10_fine, [10, 0]), (.ifCond .eq 32, y0, [4])],
  [(.aload_n 0, y0, []), (.invokevirtual 151, yX10_here, [10, 0]), (.invokestatic 154, yX10_isDigit, [1]), (.ifCond .eq 22, y0, [4])],
  [(.aload_n 0, y0, []), (.getfield 25, y0, [10, 11]), (.iconst 1, y0, []), (.iaload, y0, []), (.iconst 4, y0, []), (.if_icmp .ne 12, y0, [4])],
  [(.aload_n 0, y0, []), (.iconst 3, y0, []), (.aload_n 0, y0, []), (.getfield 132, y0, [10, 4]), (.invokevirtual 157, yX10_wrong, [10, 2])],
  [(.aload_n 0, y0, []), (.iconst 2, y0, []), (.sipush 200, y0, []), (.invokevirtual 175, yX10_number, [10, 2]), (.istore_n 1, y0, []), (.aload_n 0, y0, []), (.invokevirtual 147, yX10_fine, [10, 0]), (.ifCond .ne 4, y0, [6])],
  [(.return_, y0, [])],
  [(.aload_n 0, y0, []), (.getfield 25, y0, [10, 11]), (.iconst 3, y0, []), (.aload_n 0, y0, []), (.getfield 25, y0, [10, 11]), (.iconst 1, y0, []), (.iaload, y0, []), (.iadd, y0, []), (.iload_n 1, y0, []), (.iastore, y0, []), (.aload_n 0, y0, []), (.getfield 25, y0, [10, 11]), (.iconst 1, y0, []), (.dup2, y0, []), (.iaload, y0, []), (.iconst 1, y0, []), (.iadd, y0, []), (.iastore, y0, []), (.return_, y0, [])]]
def pX10_readsBase : List Nat := [0, 7, 17, 27, 36, 52, 53, 78]
theorem kX10_readsBase : ab_cks cX10_readsBase 10 none false 2 pX10_readsBase (fun _ => true) 0 bX10_readsBase = true := by decide +kernel
theorem eX10_readsBase {d mc ms : Nat} {av : List ab_V} {σ : ab_H} {post : ab_O → ab_H → Prop} (hav : (av.all ab_n1 && Nat.ble av.length 2) = true) (h : ∀ At, ab_rule bX10_readsBase d mc ms post At → At 0 (av.map some ++ List.replicate (2 - av.length) none) [] σ 0 0) : ab_call d mc ms yX10_readsBase av σ post :=
  ab_entry (o := 10) (ini := false) (ret := none) (maxL := 2) (ab_w_in (i := 1577) (by decide +kernel)) (by decide +kernel) (by decide) (by decide +kernel) (by decide +kernel) rfl kX10_readsBase hav h
def bX10_readsColumn : List (List ab_I) := [[(.aload_n 0, y0, []), (.bipush 18, y0, []), (.iconst 1, y0, []), (.bipush 14, y0, []), (.bipush 7, y0, []), (.iconst 5, y0, []), (.iconst 0, y0, []), (.invokestatic 178, yX10_letters, [6]), (.invokevirtual 182, yX10_takes, [10, 1]), (.istore_n 1, y0, []), (.iload_n 1, y0, []), (.ifCond .ne 31, y0, [3])],
  [(.aload_n 0, y0, []), (.iconst 5, y0, []), (.bipush 17, y0, []), (.bipush 21, y0, []), (.iconst 1, y0, []), (.bipush 12, y0, []), (.iconst 0, y0, []), (.invokestatic 178, yX10_letters, [6]), (.invokevirtual 182, yX10_takes, [10, 1]), (.ifCond .ne 12, y0, [3])],
  [(.aload_n 0, y0, []), (.iconst 1, y0, []), (.aload_n 0, y0, []), (.getfield 132, y0, [10, 4]), (.invokevirtual 157, yX10_wrong, [10, 2])],
  [(.aload_n 0, y0, []), (.getfield 25, y0, [10, 11]), (.iconst 1, y0, []), (.iconst 0, y0, []), (.iastore, y0, []), (.aload_n 0, y0, []), (.getfield 25, y0, [10, 11]), (.iconst 2, y0, []), (.iload_n 1, y0, []), (.ifCond .eq 7, y0, [5])],
  [(.iconst 1, y0, []), (.goto 4, y0, [6])],
  [(.iconst 0, y0, [])],
  [(.iastore, y0, []), (.aload_n 0, y0, []), (.invokevirtual 185, yX10_readsBase, [10, 0])],
  [(.aload_n 0, y0, []), (.bipush 24, y0, []), (.invokevirtual 182, yX10_takes, [10, 1]), (.ifCond .eq 10, y0, [9])],
  [(.aload_n 0, y0, []), (.invokevirtual 185, yX10_readsBase, [10, 0]), (.goto (-13), y0, [7])],
  [(.aload_n 0, y0, []), (.invokevirtual 147, yX10_fine, [10, 0]), (.ifCond .eq 30, y0, [12])],
  [(.aload_n 0, y0, []), (.bipush 15, y0, []), (.bipush 6, y0, []), (.iconst 0, y0, []), (.iconst 0, y0, []), (.iconst 0, y0, []), (.iconst 0, y0, []), (.invokestatic 178, yX10_letters, [6]), (.invokevirtual 182, yX10_takes, [10, 1]), (.ifCond .ne 12, y0, [12])],
  [(.aload_n 0, y0, []), (.iconst 1, y0, []), (.aload_n 0, y0, []), (.getfield 132, y0, [10, 4]), (.invokevirtual 157, yX10_wrong, [10, 2])],
  [(.aload_n 0, y0, []), (.invokevirtual 151, yX10_here, [10, 0]), (.pop, y0, []), (.aload_n 0, y0, []), (.getfield 132, y0, [10, 4]), (.istore_n 2, y0, []), (.iconst 1, y0, []), (.istore_n 3, y0, []), (.aload_n 0, y0, []), (.getfield 25, y0, [10, 11]), (.iconst 0, y0, []), (.aload_n 0, y0, []), (.iconst 2, y0, []), (.sipush 200, y0, []), (.invokevirtual 175, yX10_number, [10, 2]), (.iastore, y0, []), (.iconst 0, y0, []), (.istore 4, y0, [])],
  [(.iload 4, y0, []), (.aload_n 0, y0, []), (.getfield 25, y0, [10, 11]), (.iconst 1, y0, []), (.iaload, y0, []), (.if_icmp .ge 21, y0, [15])],
  [(.iload_n 3, y0, []), (.aload_n 0, y0, []), (.getfield 25, y0, [10, 11]), (.iconst 3, y0, []), (.iload 4, y0, []), (.iadd, y0, []), (.iaload, y0, []), (.imul, y0, []), (.istore_n 3, y0, []), (.iinc 4 1, y0, []), (.goto (-26), y0, [13])],
  [(.iload_n 3, y0, []), (.aload_n 0, y0, []), (.getfield 25, y0, [10, 11]), (.iconst 0, y0, []), (.iaload, y0, []), (.if_icmp .ge 9, y0, [17])],
  [(.aload_n 0, y0, []), (.iconst 4, y0, []), (.iload_n 2, y0, []), (.invokevirtual 157, yX10_wrong, [10, 2])],
  [(.aload_n 0, y0, []), (.invokevirtual 188, yX10_end, [10, 0]), (.return_, y0, [])]]
def pX10_readsColumn : List Nat := [0, 21, 40, 49, 65, 69, 70, 75, 84, 91, 98, 116, 125, 154, 165, 183, 193, 199, 204]
theorem kX10_readsColumn : ab_cks cX10_readsColumn 10 none false 5 pX10_readsColumn (fun _ => true) 0 bX10_readsColumn = true := by decide +kernel
theorem eX10_readsColumn {d mc ms : Nat} {av : List ab_V} {σ : ab_H} {post : ab_O → ab_H → Prop} (hav : (av.all ab_n1 && Nat.ble av.length 5) = true) (h : ∀ At, ab_rule bX10_readsColumn d mc ms post At → At 0 (av.map some ++ List.replicate (5 - av.length) none) [] σ 0 0) : ab_call d mc ms yX10_readsColumn av σ post :=
  ab_entry (o := 10) (ini := false) (ret := none) (maxL := 5) (ab_w_in (i := 1539) (by decide +kernel)) (by decide +kernel) (by decide) (by decide +kernel) (by decide +kernel) rfl kX10_readsColumn hav h
def bX10_column : List (List ab_I) := [[(.aload_n 0, y0, []), (.iconst 0, y0, []), (.putfield 62, y0, [10, 0]), (.aload_n 0, y0, []), (.iload_n 1, y0, []), (.iconst 0, y0, []), (.sipush 200, y0, []), (.aload_n 0, y0, []), (.getfield 126, y0, [10, 2]), (.invokestatic 68, yX10_less, [2]), (.invokestatic 162, yX10_in, [3]), (.ifCond .ne 7, y0, [2])],
  [(.iconst 1, y0, []), (.goto 4, y0, [3])],
  [(.iconst 0, y0, [])],
  [(.iconst 1, y0, []), (.iconst 1, y0, []), (.invokevirtual 191, yX10_bad, [10, 3]), (.ifCond .ne 32, y0, [9])],
  [(.aload_n 0, y0, []), (.aload_n 0, y0, []), (.getfield 65, y0, [10, 13]), (.ifCond .gt 11, y0, [6])],
  [(.aload_n 0, y0, []), (.getfield 195, y0, [10, 12]), (.iconst 4, y0, []), (.if_icmp .ne 7, y0, [7])],
  [(.iconst 1, y0, []), (.goto 4, y0, [8])],
  [(.iconst 0, y0, [])],
  [(.iconst 2, y0, []), (.iconst 2, y0, []), (.invokevirtual 191, yX10_bad, [10, 3]), (.ifCond .eq 5, y0, [10])],
  [(.iconst 0, y0, []), (.ireturn, y0, [])],
  [(.aload_n 0, y0, []), (.iload_n 1, y0, []), (.invokevirtual 198, yX10_starts, [10, 1]), (.aload_n 0, y0, []), (.invokevirtual 202, yX10_readsColumn, [10, 0]), (.aload_n 0, y0, []), (.invokevirtual 147, yX10_fine, [10, 0]), (.ifCond .eq 44, y0, [15])],
  [(.iconst 0, y0, []), (.istore_n 2, y0, [])],
  [(.iload_n 2, y0, []), (.bipush 7, y0, []), (.if_icmp .ge 26, y0, [14])],
  [(.aload_n 0, y0, []), (.getfield 22, y0, [10, 10]), (.aload_n 0, y0, []), (.getfield 195, y0, [10, 12]), (.aaload, y0, [2]), (.iload_n 2, y0, []), (.aload_n 0, y0, []), (.getfield 25, y0, [10, 11]), (.iload_n 2, y0, []), (.iaload, y0, []), (.iastore, y0, []), (.iinc 2 1, y0, []), (.goto (-26), y0, [12])],
  [(.aload_n 0, y0, []), (.dup, y0, []), (.getfield 195, y0, [10, 12]), (.iconst 1, y0, []), (.iadd, y0, []), (.putfield 195, y0, [10, 12])],
  [(.aload_n 0, y0, []), (.aload_n 0, y0, []), (.getfield 195, y0, [10, 12]), (.iconst 1, y0, []), (.isub, y0, []), (.invokevirtual 205, yX10_ends, [10, 1]), (.ireturn, y0, [])]]
def pX10_column : List Nat := [0, 24, 28, 29, 37, 45, 53, 57, 58, 66, 68, 84, 86, 92, 115, 125, 136]
theorem kX10_column : ab_cks cX10_column 10 (some .int) false 3 pX10_column (fun _ => true) 0 bX10_column = true := by decide +kernel
theorem eX10_column {d mc ms : Nat} {av : List ab_V} {σ : ab_H} {post : ab_O → ab_H → Prop} (hav : (av.all ab_n1 && Nat.ble av.length 3) = true) (h : ∀ At, ab_rule bX10_column d mc ms post At → At 0 (av.map some ++ List.replicate (3 - av.length) none) [] σ 0 0) : ab_call d mc ms yX10_column av σ post :=
  ab_entry (o := 10) (ini := false) (ret := (some .int)) (maxL := 3) (ab_w_in (i := 1521) (by decide +kernel)) (by decide +kernel) (by decide) (by decide +kernel) (by decide +kernel) rfl kX10_column hav h
def bX10_areValues : List (List ab_I) := [[(.aload_n 0, y0, []), (.getfield 195, y0, [10, 12]), (.iconst 1, y0, []), (.if_icmp .lt 21, y0, [2])],
  [(.iload_n 1, y0, []), (.iconst 0, y0, []), (.aload_n 0, y0, []), (.getfield 22, y0, [10, 10]), (.iconst 0, y0, []), (.aaload, y0, [2]), (.iconst 0, y0, []), (.iaload, y0, []), (.iconst 1, y0, []), (.isub, y0, []), (.invokestatic 162, yX10_in, [3]), (.ifCond .eq 86, y0, [9])],
  [(.aload_n 0, y0, []), (.getfield 195, y0, [10, 12]), (.iconst 2, y0, []), (.if_icmp .lt 21, y0, [4])],
  [(.iload_n 2, y0, []), (.iconst 0, y0, []), (.aload_n 0, y0, []), (.getfield 22, y0, [10, 10]), (.iconst 1, y0, []), (.aaload, y0, [2]), (.iconst 0, y0, []), (.iaload, y0, []), (.iconst 1, y0, []), (.isub, y0, []), (.invokestatic 162, yX10_in, [3]), (.ifCond .eq 60, y0, [9])],
  [(.aload_n 0, y0, []), (.getfield 195, y0, [10, 12]), (.iconst 3, y0, []), (.if_icmp .lt 21, y0, [6])],
  [(.iload_n 3, y0, []), (.iconst 0, y0, []), (.aload_n 0, y0, []), (.getfield 22, y0, [10, 10]), (.iconst 2, y0, []), (.aaload, y0, [2]), (.iconst 0, y0, []), (.iaload, y0, []), (.iconst 1, y0, []), (.isub, y0, []), (.invokestatic 162, yX10_in, [3]), (.ifCond .eq 34, y0, [9])],
  [(.aload_n 0, y0, []), (.getfield 195, y0, [10, 12]), (.iconst 4, y0, []), (.if_icmp .lt 22, y0, [8])],
  [(.iload 4, y0, []), (.iconst 0, y0, []), (.aload_n 0, y0, []), (.getfield 22, y0, [10, 10]), (.iconst 3, y0, []), (.aaload, y0, [2]), (.iconst 0, y0, []), (.iaload, y0, []), (.iconst 1, y0, []), (.isub, y0, []), (.invokestatic 162, yX10_in, [3]), (.ifCond .eq 7, y0, [9])],
  [(.iconst 1, y0, []), (.goto 4, y0, [10])],
  [(.iconst 0, y0, [])],
  [(.ireturn, y0, [1])]]
def pX10_areValues : List Nat := [0, 8, 26, 34, 52, 60, 78, 86, 105, 109, 110, 111]
theorem kX10_areValues : ab_cks cX10_areValues 10 (some .boolean) false 5 pX10_areValues (fun _ => true) 0 bX10_areValues = true := by decide +kernel
theorem eX10_areValues {d mc ms : Nat} {av : List ab_V} {σ : ab_H} {post : ab_O → ab_H → Prop} (hav : (av.all ab_n1 && Nat.ble av.length 5) = true) (h : ∀ At, ab_rule bX10_areValues d mc ms post At → At 0 (av.map some ++ List.replicate (5 - av.length) none) [] σ 0 0) : ab_call d mc ms yX10_areValues av σ post :=
  ab_entry (o := 10) (ini := false) (ret := (some .boolean)) (maxL := 5) (ab_w_in (i := 1601) (by decide +kernel)) (by decide +kernel) (by decide) (by decide +kernel) (by decide +kernel) rfl kX10_areValues hav h
def bX10_adds : List (List ab_I) := [[(.aload_n 0, y0, []), (.getfield 28, y0, [10, 14]), (.iconst 0, y0, []), (.aaload, y0, [2]), (.aload_n 0, y0, []), (.getfield 65, y0, [10, 13]), (.iload_n 1, y0, []), (.iastore, y0, []), (.aload_n 0, y0, []), (.getfield 28, y0, [10, 14]), (.iconst 1, y0, []), (.aaload, y0, [2]), (.aload_n 0, y0, []), (.getfield 65, y0, [10, 13]), (.iload_n 2, y0, []), (.iastore, y0, []), (.aload_n 0, y0, []), (.getfield 28, y0, [10, 14]), (.iconst 2, y0, []), (.aaload, y0, [2]), (.aload_n 0, y0, []), (.getfield 65, y0, [10, 13]), (.iload_n 3, y0, []), (.iastore, y0, []), (.aload_n 0, y0, []), (.getfield 28, y0, [10, 14]), (.iconst 3, y0, []), (.aaload, y0, [2]), (.aload_n 0, y0, []), (.getfield 65, y0, [10, 13]), (.iload 4, y0, []), (.iastore, y0, []), (.aload_n 0, y0, []), (.getfield 31, y0, [10, 15]), (.aload_n 0, y0, []), (.getfield 65, y0, [10, 13]), (.iconst 0, y0, []), (.bastore, y0, []), (.aload_n 0, y0, []), (.dup, y0, []), (.getfield 65, y0, [10, 13]), (.iconst 1, y0, []), (.iadd, y0, []), (.putfield 65, y0, [10, 13]), (.return_, y0, [])]]
def pX10_adds : List Nat := [0, 70]
theorem kX10_adds : ab_cks cX10_adds 10 none false 5 pX10_adds (fun _ => true) 0 bX10_adds = true := by decide +kernel
theorem eX10_adds {d mc ms : Nat} {av : List ab_V} {σ : ab_H} {post : ab_O → ab_H → Prop} (hav : (av.all ab_n1 && Nat.ble av.length 5) = true) (h : ∀ At, ab_rule bX10_adds d mc ms post At → At 0 (av.map some ++ List.replicate (5 - av.length) none) [] σ 0 0) : ab_call d mc ms yX10_adds av σ post :=
  ab_entry (o := 10) (ini := false) (ret := none) (maxL := 5) (ab_w_in (i := 1605) (by decide +kernel)) (by decide +kernel) (by decide) (by decide +kernel) (by decide +kernel) rfl kX10_adds hav h
def bX10_add : List (List ab_I) := [[(.aload_n 0, y0, []), (.iconst 0, y0, []), (.putfield 62, y0, [10, 0]), (.aload_n 0, y0, []), (.aload_n 0, y0, []), (.iload_n 1, y0, []), (.iload_n 2, y0, []), (.iload_n 3, y0, []), (.iload 4, y0, []), (.invokevirtual 208, yX10_areValues, [10, 4]), (.ifCond .ne 7, y0, [2])],
  [(.iconst 1, y0, []), (.goto 4, y0, [3])],
  [(.iconst 0, y0, [])],
  [(.iconst 1, y0, []), (.iconst 1, y0, []), (.invokevirtual 191, yX10_bad, [10, 3]), (.ifCond .ne 27, y0, [8])],
  [(.aload_n 0, y0, []), (.aload_n 0, y0, []), (.getfield 65, y0, [10, 13]), (.sipush 1500, y0, []), (.if_icmp .ne 7, y0, [6])],
  [(.iconst 1, y0, []), (.goto 4, y0, [7])],
  [(.iconst 0, y0, [])],
  [(.iconst 2, y0, []), (.iconst 2, y0, []), (.invokevirtual 191, yX10_bad, [10, 3]), (.ifCond .eq 5, y0, [9])],
  [(.iconst 0, y0, []), (.ireturn, y0, [])],
  [(.aload_n 0, y0, []), (.iload_n 1, y0, []), (.iload_n 2, y0, []), (.iload_n 3, y0, []), (.iload 4, y0, []), (.invokevirtual 212, yX10_adds, [10, 4]), (.aload_n 0, y0, []), (.getfield 65, y0, [10, 13]), (.iconst 1, y0, []), (.isub, y0, []), (.ireturn, y0, [])]]
def pX10_add : List Nat := [0, 18, 22, 23, 31, 42, 46, 47, 55, 57, 73]
theorem kX10_add : ab_cks cX10_add 10 (some .int) false 5 pX10_add (fun _ => true) 0 bX10_add = true := by decide +kernel
theorem eX10_add {d mc ms : Nat} {av : List ab_V} {σ : ab_H} {post : ab_O → ab_H → Prop} (hav : (av.all ab_n1 && Nat.ble av.length 5) = true) (h : ∀ At, ab_rule bX10_add d mc ms post At → At 0 (av.map some ++ List.replicate (5 - av.length) none) [] σ 0 0) : ab_call d mc ms yX10_add av σ post :=
  ab_entry (o := 10) (ini := false) (ret := (some .int)) (maxL := 5) (ab_w_in (i := 1597) (by decide +kernel)) (by decide +kernel) (by decide) (by decide +kernel) (by decide +kernel) rfl kX10_add hav h
def bX10_many_ : List (List ab_I) := [[(.aload_n 0, y0, []), (.iconst 0, y0, []), (.putfield 62, y0, [10, 0]), (.aload_n 0, y0, []), (.iload_n 1, y0, []), (.iconst 1, y0, []), (.sipush 400, y0, []), (.invokestatic 162, yX10_in, [3]), (.ifCond .eq 16, y0, [2])],
  [(.aload_n 0, y0, []), (.iload_n 2, y0, []), (.iload_n 3, y0, []), (.iload 4, y0, []), (.iload 5, y0, []), (.invokevirtual 208, yX10_areValues, [10, 4]), (.ifCond .ne 7, y0, [3])],
  [(.iconst 1, y0, []), (.goto 4, y0, [4])],
  [(.iconst 0, y0, [])],
  [(.iconst 1, y0, []), (.iconst 1, y0, []), (.invokevirtual 191, yX10_bad, [10, 3]), (.ifCond .ne 29, y0, [9])],
  [(.aload_n 0, y0, []), (.aload_n 0, y0, []), (.getfield 65, y0, [10, 13]), (.iload_n 1, y0, []), (.iadd, y0, []), (.sipush 1500, y0, []), (.if_icmp .le 7, y0, [7])],
  [(.iconst 1, y0, []), (.goto 4, y0, [8])],
  [(.iconst 0, y0, [])],
  [(.iconst 2, y0, []), (.iconst 2, y0, []), (.invokevirtual 191, yX10_bad, [10, 3]), (.ifCond .eq 5, y0, [10])],
  [(.iconst 0, y0, []), (.ireturn, y0, [])],
  [(.iconst 0, y0, []), (.istore 6, y0, [])],
  [(.iload 6, y0, []), (.iload_n 1, y0, []), (.if_icmp .ge 19, y0, [13])],
  [(.aload_n 0, y0, []), (.iload_n 2, y0, []), (.iload_n 3, y0, []), (.iload 4, y0, []), (.iload 5, y0, []), (.invokevirtual 212, yX10_adds, [10, 4]), (.iinc 6 1, y0, []), (.goto (-19), y0, [11])],
  [(.aload_n 0, y0, []), (.getfield 65, y0, [10, 13]), (.ireturn, y0, [])]]
def pX10_many_ : List Nat := [0, 17, 30, 34, 35, 43, 56, 60, 61, 69, 71, 74, 80, 96, 101]
theorem kX10_many_ : ab_cks cX10_many_ 10 (some .int) false 7 pX10_many_ (fun _ => true) 0 bX10_many_ = true := by decide +kernel
theorem eX10_many_ {d mc ms : Nat} {av : List ab_V} {σ : ab_H} {post : ab_O → ab_H → Prop} (hav : (av.all ab_n1 && Nat.ble av.length 7) = true) (h : ∀ At, ab_rule bX10_many_ d mc ms post At → At 0 (av.map some ++ List.replicate (7 - av.length) none) [] σ 0 0) : ab_call d mc ms yX10_many_ av σ post :=
  ab_entry (o := 10) (ini := false) (ret := (some .int)) (maxL := 7) (ab_w_in (i := 1609) (by decide +kernel)) (by decide +kernel) (by decide) (by decide +kernel) (by decide +kernel) rfl kX10_many_ hav h
def bX10_alive : List (List ab_I) := [[(.iconst 0, y0, []), (.istore_n 1, y0, []), (.iconst 0, y0, []), (.istore_n 2, y0, [])],
  [(.iload_n 2, y0, []), (.aload_n 0, y0, []), (.getfield 65, y0, [10, 13]), (.if_icmp .ge 26, y0, [6])],
  [(.iload_n 1, y0, []), (.aload_n 0, y0, []), (.getfield 31, y0, [10, 15]), (.iload_n 2, y0, []), (.baload, y0, []), (.ifCond .eq 7, y0, [4])],
  [(.iconst 0, y0, []), (.goto 4, y0, [5])],
  [(.iconst 1, y0, [])],
  [(.iadd, y0, []), (.istore_n 1, y0, []), (.iinc 2 1, y0, []), (.goto (-28), y0, [1])],
  [(.iload_n 1, y0, []), (.ireturn, y0, [])]]
def pX10_alive : List Nat := [0, 4, 12, 22, 26, 27, 35, 37]
theorem kX10_alive : ab_cks cX10_alive 10 (some .int) false 3 pX10_alive (fun _ => true) 0 bX10_alive = true := by decide +kernel
theorem eX10_alive {d mc ms : Nat} {av : List ab_V} {σ : ab_H} {post : ab_O → ab_H → Prop} (hav : (av.all ab_n1 && Nat.ble av.length 3) = true) (h : ∀ At, ab_rule bX10_alive d mc ms post At → At 0 (av.map some ++ List.replicate (3 - av.length) none) [] σ 0 0) : ab_call d mc ms yX10_alive av σ post :=
  ab_entry (o := 10) (ini := false) (ret := (some .int)) (maxL := 3) (ab_w_in (i := 1620) (by decide +kernel)) (by decide +kernel) (by decide) (by decide +kernel) (by decide +kernel) rfl kX10_alive hav h
def bX10_delete : List (List ab_I) := [[(.aload_n 0, y0, []), (.iconst 0, y0, []), (.putfield 62, y0, [10, 0]), (.aload_n 0, y0, []), (.iload_n 1, y0, []), (.iconst 0, y0, []), (.aload_n 0, y0, []), (.getfield 65, y0, [10, 13]), (.iconst 1, y0, []), (.isub, y0, []), (.invokestatic 162, yX10_in, [3]), (.ifCond .eq 22, y0, [2])],
  [(.aload_n 0, y0, []), (.getfield 31, y0, [10, 15]), (.iload_n 1, y0, []), (.iconst 0, y0, []), (.invokestatic 216, yX10_more, [2]), (.sipush 1499, y0, []), (.invokestatic 68, yX10_less, [2]), (.baload, y0, []), (.ifCond .eq 7, y0, [3])],
  [(.iconst 1, y0, []), (.goto 4, y0, [4])],
  [(.iconst 0, y0, [])],
  [(.iconst 1, y0, []), (.iconst 0, y0, []), (.invokevirtual 191, yX10_bad, [10, 3]), (.ifCond .eq 5, y0, [6])],
  [(.iconst 0, y0, []), (.ireturn, y0, [])],
  [(.aload_n 0, y0, []), (.getfield 31, y0, [10, 15]), (.iload_n 1, y0, []), (.iconst 1, y0, []), (.bastore, y0, []), (.aload_n 0, y0, []), (.invokevirtual 219, yX10_alive, [10, 0]), (.ireturn, y0, [])]]
def pX10_delete : List Nat := [0, 20, 39, 43, 44, 52, 54, 66]
theorem kX10_delete : ab_cks cX10_delete 10 (some .int) false 2 pX10_delete (fun _ => true) 0 bX10_delete = true := by decide +kernel
theorem eX10_delete {d mc ms : Nat} {av : List ab_V} {σ : ab_H} {post : ab_O → ab_H → Prop} (hav : (av.all ab_n1 && Nat.ble av.length 2) = true) (h : ∀ At, ab_rule bX10_delete d mc ms post At → At 0 (av.map some ++ List.replicate (2 - av.length) none) [] σ 0 0) : ab_call d mc ms yX10_delete av σ post :=
  ab_entry (o := 10) (ini := false) (ret := (some .int)) (maxL := 2) (ab_w_in (i := 1613) (by decide +kernel)) (by decide +kernel) (by decide) (by decide +kernel) (by decide +kernel) rfl kX10_delete hav h
def bX10_closes : List (List ab_I) := [[(.aload_n 0, y0, []), (.getfield 44, y0, [10, 27]), (.invokestatic 112, yX10_empties, [1]), (.iconst 0, y0, []), (.istore_n 2, y0, []), (.iconst 0, y0, []), (.istore_n 3, y0, [])],
  [(.iload_n 3, y0, []), (.aload_n 0, y0, []), (.getfield 65, y0, [10, 13]), (.if_icmp .ge 40, y0, [8])],
  [(.aload_n 0, y0, []), (.getfield 31, y0, [10, 15]), (.iload_n 3, y0, []), (.baload, y0, []), (.ifCond .eq 6, y0, [4])],
  [(.goto 22, y0, [7])],
  [(.aload_n 1, y0, []), (.iload_n 3, y0, []), (.invokestatic 91, yX10_has, [2]), (.ifCond .eq 11, y0, [6])],
  [(.aload_n 0, y0, []), (.getfield 44, y0, [10, 27]), (.iload_n 2, y0, []), (.invokestatic 119, yX10_sets, [2])],
  [(.iinc 2 1, y0, [])],
  [(.iinc 3 1, y0, []), (.goto (-42), y0, [1])],
  [(.aload_n 0, y0, []), (.getfield 44, y0, [10, 27]), (.aload_n 1, y0, []), (.invokestatic 222, yX10_copies, [2]), (.return_, y0, [])]]
def pX10_closes : List Nat := [0, 11, 19, 28, 31, 39, 47, 50, 56, 65]
theorem kX10_closes : ab_cks cX10_closes 10 none false 4 pX10_closes (fun _ => true) 0 bX10_closes = true := by decide +kernel
theorem eX10_closes {d mc ms : Nat} {av : List ab_V} {σ : ab_H} {post : ab_O → ab_H → Prop} (hav : (av.all ab_n1 && Nat.ble av.length 4) = true) (h : ∀ At, ab_rule bX10_closes d mc ms post At → At 0 (av.map some ++ List.replicate (4 - av.length) none) [] σ 0 0) : ab_call d mc ms yX10_closes av σ post :=
  ab_entry (o := 10) (ini := false) (ret := none) (maxL := 4) (ab_w_in (i := 1628) (by decide +kernel)) (by decide +kernel) (by decide) (by decide +kernel) (by decide +kernel) rfl kX10_closes hav h
def bX10_close : List (List ab_I) := [[(.aload_n 0, y0, []), (.iconst 0, y0, []), (.putfield 62, y0, [10, 0]), (.aload_n 0, y0, []), (.getfield 65, y0, [10, 13]), (.istore_n 1, y0, []), (.iconst 0, y0, []), (.istore_n 2, y0, []), (.iconst 0, y0, []), (.istore_n 3, y0, [])],
  [(.iload_n 3, y0, []), (.bipush 6, y0, []), (.if_icmp .ge 19, y0, [3])],
  [(.aload_n 0, y0, []), (.aload_n 0, y0, []), (.getfield 35, y0, [10, 16]), (.iload_n 3, y0, []), (.aaload, y0, [2]), (.invokevirtual 226, yX10_closes, [10, 1]), (.iinc 3 1, y0, []), (.goto (-19), y0, [1])],
  [(.iconst 0, y0, []), (.istore_n 3, y0, [])],
  [(.iload_n 3, y0, []), (.iload_n 1, y0, []), (.if_icmp .ge 57, y0, [12])],
  [(.aload_n 0, y0, []), (.getfield 31, y0, [10, 15]), (.iload_n 3, y0, []), (.baload, y0, []), (.ifCond .eq 6, y0, [7])],
  [(.goto 39, y0, [11])],
  [(.iconst 0, y0, []), (.istore 4, y0, [])],
  [(.iload 4, y0, []), (.iconst 4, y0, []), (.if_icmp .ge 27, y0, [10])],
  [(.aload_n 0, y0, []), (.getfield 28, y0, [10, 14]), (.iload 4, y0, []), (.aaload, y0, [2]), (.iload_n 2, y0, []), (.aload_n 0, y0, []), (.getfield 28, y0, [10, 14]), (.iload 4, y0, []), (.aaload, y0, [2]), (.iload_n 3, y0, []), (.iaload, y0, []), (.iastore, y0, []), (.iinc 4 1, y0, []), (.goto (-27), y0, [8])],
  [(.iinc 2 1, y0, [])],
  [(.iinc 3 1, y0, []), (.goto (-56), y0, [4])],
  [(.iconst 0, y0, []), (.istore_n 3, y0, [])],
  [(.iload_n 3, y0, []), (.iload_n 1, y0, []), (.if_icmp .ge 16, y0, [15])],
  [(.aload_n 0, y0, []), (.getfield 31, y0, [10, 15]), (.iload_n 3, y0, []), (.iconst 0, y0, []), (.bastore, y0, []), (.iinc 3 1, y0, []), (.goto (-15), y0, [13])],
  [(.aload_n 0, y0, []), (.iload_n 2, y0, []), (.putfield 65, y0, [10, 13]), (.iload_n 1, y0, []), (.iload_n 2, y0, []), (.isub, y0, []), (.ireturn, y0, [])]]
def pX10_close : List Nat := [0, 14, 20, 36, 38, 43, 52, 55, 58, 64, 88, 91, 97, 99, 104, 117, 126]
theorem kX10_close : ab_cks cX10_close 10 (some .int) false 5 pX10_close (fun _ => true) 0 bX10_close = true := by decide +kernel
theorem eX10_close {d mc ms : Nat} {av : List ab_V} {σ : ab_H} {post : ab_O → ab_H → Prop} (hav : (av.all ab_n1 && Nat.ble av.length 5) = true) (h : ∀ At, ab_rule bX10_close d mc ms post At → At 0 (av.map some ++ List.replicate (5 - av.length) none) [] σ 0 0) : ab_call d mc ms yX10_close av σ post :=
  ab_entry (o := 10) (ini := false) (ret := (some .int)) (maxL := 5) (ab_w_in (i := 1624) (by decide +kernel)) (by decide +kernel) (by decide) (by decide +kernel) (by decide +kernel) rfl kX10_close hav h
def bX10_opens : List (List ab_I) := [[(.aload_n 0, y0, []), (.invokevirtual 147, yX10_fine, [10, 0]), (.ifCond .ne 5, y0, [2])],
  [(.iconst 0, y0, []), (.ireturn, y0, [1])],
  [(.aload_n 0, y0, []), (.invokevirtual 151, yX10_here, [10, 0]), (.bipush 40, y0, []), (.if_icmp .eq 15, y0, [4])],
  [(.aload_n 0, y0, []), (.iconst 1, y0, []), (.aload_n 0, y0, []), (.getfield 132, y0, [10, 4]), (.invokevirtual 157, yX10_wrong, [10, 2]), (.goto 20, y0, [6])],
  [(.aload_n 0, y0, []), (.getfield 144, y0, [10, 8]), (.iconst 5, y0, []), (.if_icmp .ne 12, y0, [6])],
  [(.aload_n 0, y0, []), (.iconst 3, y0, []), (.aload_n 0, y0, []), (.getfield 132, y0, [10, 4]), (.invokevirtual 157, yX10_wrong, [10, 2])],
  [(.aload_n 0, y0, []), (.invokevirtual 147, yX10_fine, [10, 0]), (.ifCond .ne 5, y0, [8])],
  [(.iconst 0, y0, []), (.ireturn, y0, [1])],
  [(.aload_n 0, y0, []), (.dup, y0, []), (.getfield 144, y0, [10, 8]), (.iconst 1, y0, []), (.iadd, y0, []), (.putfield 144, y0, [10, 8]), (.aload_n 0, y0, []), (.dup, y0, []), (.getfield 132, y0, [10, 4]), (.iconst 1, y0, []), (.iadd, y0, []), (.putfield 132, y0, [10, 4]), (.iconst 1, y0, []), (.ireturn, y0, [1])]]
def pX10_opens : List Nat := [0, 7, 9, 18, 30, 38, 47, 54, 56, 78]
theorem kX10_opens : ab_cks cX10_opens 10 (some .boolean) false 1 pX10_opens (fun _ => true) 0 bX10_opens = true := by decide +kernel
theorem eX10_opens {d mc ms : Nat} {av : List ab_V} {σ : ab_H} {post : ab_O → ab_H → Prop} (hav : (av.all ab_n1 && Nat.ble av.length 1) = true) (h : ∀ At, ab_rule bX10_opens d mc ms post At → At 0 (av.map some ++ List.replicate (1 - av.length) none) [] σ 0 0) : ab_call d mc ms yX10_opens av σ post :=
  ab_entry (o := 10) (ini := false) (ret := (some .boolean)) (maxL := 1) (ab_w_in (i := 1660) (by decide +kernel)) (by decide +kernel) (by decide) (by decide +kernel) (by decide +kernel) rfl kX10_opens hav h
def bX10_closesSign : List (List ab_I) := [[(.aload_n 0, y0, []), (.bipush 41, y0, []), (.invokevirtual 229, yX10_sign, [10, 1]), (.aload_n 0, y0, []), (.dup, y0, []), (.getfield 144, y0, [10, 8]), (.iconst 1, y0, []), (.isub, y0, []), (.putfield 144, y0, [10, 8]), (.return_, y0, [])]]
def pX10_closesSign : List Nat := [0, 17]
theorem kX10_closesSign : ab_cks cX10_closesSign 10 none false 1 pX10_closesSign (fun _ => true) 0 bX10_closesSign = true := by decide +kernel
theorem eX10_closesSign {d mc ms : Nat} {av : List ab_V} {σ : ab_H} {post : ab_O → ab_H → Prop} (hav : (av.all ab_n1 && Nat.ble av.length 1) = true) (h : ∀ At, ab_rule bX10_closesSign d mc ms post At → At 0 (av.map some ++ List.replicate (1 - av.length) none) [] σ 0 0) : ab_call d mc ms yX10_closesSign av σ post :=
  ab_entry (o := 10) (ini := false) (ret := none) (maxL := 1) (ab_w_in (i := 1684) (by decide +kernel)) (by decide +kernel) (by decide) (by decide +kernel) (by decide +kernel) rfl kX10_closesSign hav h
def bX10_addsAct : List (List ab_I) := [[(.aload_n 0, y0, []), (.invokevirtual 147, yX10_fine, [10, 0]), (.ifCond .ne 4, y0, [2])],
  [(.return_, y0, [])],
  [(.aload_n 0, y0, []), (.getfield 38, y0, [10, 17]), (.aload_n 0, y0, []), (.getfield 232, y0, [10, 18]), (.aaload, y0, [2]), (.astore 5, y0, []), (.aload 5, y0, []), (.iconst 0, y0, []), (.iload_n 1, y0, []), (.iastore, y0, []), (.aload 5, y0, []), (.iconst 1, y0, []), (.iload_n 2, y0, []), (.iastore, y0, []), (.aload 5, y0, []), (.iconst 2, y0, []), (.iload_n 3, y0, []), (.iastore, y0, []), (.aload 5, y0, []), (.iconst 3, y0, []), (.iload 4, y0, []), (.iastore, y0, []), (.aload_n 0, y0, []), (.dup, y0, []), (.getfield 232, y0, [10, 18]), (.iconst 1, y0, []), (.iadd, y0, []), (.putfield 232, y0, [10, 18]), (.return_, y0, [])]]
def pX10_addsAct : List Nat := [0, 7, 8, 51]
theorem kX10_addsAct : ab_cks cX10_addsAct 10 none false 6 pX10_addsAct (fun _ => true) 0 bX10_addsAct = true := by decide +kernel
theorem eX10_addsAct {d mc ms : Nat} {av : List ab_V} {σ : ab_H} {post : ab_O → ab_H → Prop} (hav : (av.all ab_n1 && Nat.ble av.length 6) = true) (h : ∀ At, ab_rule bX10_addsAct d mc ms post At → At 0 (av.map some ++ List.replicate (6 - av.length) none) [] σ 0 0) : ab_call d mc ms yX10_addsAct av σ post :=
  ab_entry (o := 10) (ini := false) (ret := none) (maxL := 6) (ab_w_in (i := 1672) (by decide +kernel)) (by decide +kernel) (by decide) (by decide +kernel) (by decide +kernel) rfl kX10_addsAct hav h
def bX10_whichHere : List (List ab_I) := [[(.aload_n 0, y0, []), (.invokevirtual 169, yX10_wordHere, [10, 0]), (.istore_n 1, y0, []), (.iload_n 1, y0, []), (.iconst (-1), y0, []), (.if_icmp .ne 5, y0, [2])],
  [(.iconst (-1), y0, []), (.ireturn, y0, [])],
  [(.iload_n 1, y0, []), (.bipush 12, y0, []), (.iconst 5, y0, []), (.iconst 0, y0, []), (.iconst 0, y0, []), (.iconst 0, y0, []), (.iconst 0, y0, []), (.invokestatic 178, yX10_letters, [6]), (.if_icmp .ne 5, y0, [4])],
  [(.iconst 0, y0, []), (.ireturn, y0, [])],
  [(.iload_n 1, y0, []), (.bipush 12, y0, []), (.bipush 20, y0, []), (.iconst 0, y0, []), (.iconst 0, y0, []), (.iconst 0, y0, []), (.iconst 0, y0, []), (.invokestatic 178, yX10_letters, [6]), (.if_icmp .ne 5, y0, [6])],
  [(.iconst 1, y0, []), (.ireturn, y0, [])],
  [(.iload_n 1, y0, []), (.bipush 7, y0, []), (.iconst 5, y0, []), (.iconst 0, y0, []), (.iconst 0, y0, []), (.iconst 0, y0, []), (.iconst 0, y0, []), (.invokestatic 178, yX10_letters, [6]), (.if_icmp .ne 5, y0, [8])],
  [(.iconst 2, y0, []), (.ireturn, y0, [])],
  [(.iload_n 1, y0, []), (.bipush 7, y0, []), (.bipush 20, y0, []), (.iconst 0, y0, []), (.iconst 0, y0, []), (.iconst 0, y0, []), (.iconst 0, y0, []), (.invokestatic 178, yX10_letters, [6]), (.if_icmp .ne 5, y0, [10])],
  [(.iconst 3, y0, []), (.ireturn, y0, [])],
  [(.iload_n 1, y0, []), (.iconst 5, y0, []), (.bipush 17, y0, []), (.iconst 0, y0, []), (.iconst 0, y0, []), (.iconst 0, y0, []), (.iconst 0, y0, []), (.invokestatic 178, yX10_letters, [6]), (.if_icmp .ne 5, y0, [12])],
  [(.iconst 4, y0, []), (.ireturn, y0, [])],
  [(.iload_n 1, y0, []), (.bipush 14, y0, []), (.iconst 5, y0, []), (.iconst 0, y0, []), (.iconst 0, y0, []), (.iconst 0, y0, []), (.iconst 0, y0, []), (.invokestatic 178, yX10_letters, [6]), (.if_icmp .ne 5, y0, [14])],
  [(.iconst 5, y0, []), (.ireturn, y0, [])],
  [(.iload_n 1, y0, []), (.bipush 9, y0, []), (.bipush 14, y0, []), (.iconst 0, y0, []), (.iconst 0, y0, []), (.iconst 0, y0, []), (.iconst 0, y0, []), (.invokestatic 178, yX10_letters, [6]), (.if_icmp .ne 6, y0, [16])],
  [(.bipush 6, y0, []), (.ireturn, y0, [])],
  [(.iload_n 1, y0, []), (.iconst 1, y0, []), (.bipush 14, y0, []), (.iconst 4, y0, []), (.iconst 0, y0, []), (.iconst 0, y0, []), (.iconst 0, y0, []), (.invokestatic 178, yX10_letters, [6]), (.if_icmp .ne 6, y0, [18])],
  [(.bipush 7, y0, []), (.ireturn, y0, [])],
  [(.iload_n 1, y0, []), (.bipush 15, y0, []), (.bipush 18, y0, []), (.iconst 0, y0, []), (.iconst 0, y0, []), (.iconst 0, y0, []), (.iconst 0, y0, []), (.invokestatic 178, yX10_letters, [6]), (.if_icmp .ne 6, y0, [20])],
  [(.bipush 8, y0, []), (.ireturn, y0, [])],
  [(.iload_n 1, y0, []), (.bipush 24, y0, []), (.bipush 15, y0, []), (.bipush 18, y0, []), (.iconst 0, y0, []), (.iconst 0, y0, []), (.iconst 0, y0, []), (.invokestatic 178, yX10_letters, [6]), (.if_icmp .ne 6, y0, [22])],
  [(.bipush 9, y0, []), (.ireturn, y0, [])],
  [(.iload_n 1, y0, []), (.bipush 12, y0, []), (.iconst 5, y0, []), (.bipush 19, y0, []), (.bipush 19, y0, []), (.iconst 0, y0, []), (.iconst 0, y0, []), (.invokestatic 178, yX10_letters, [6]), (.if_icmp .ne 6, y0, [24])],
  [(.bipush 10, y0, []), (.ireturn, y0, [])],
  [(.iload_n 1, y0, []), (.bipush 14, y0, []), (.bipush 15, y0, []), (.bipush 20, y0, []), (.iconst 0, y0, []), (.iconst 0, y0, []), (.iconst 0, y0, []), (.invokestatic 178, yX10_letters, [6]), (.if_icmp .ne 6, y0, [26])],
  [(.bipush 11, y0, []), (.ireturn, y0, [])],
  [(.iload_n 1, y0, []), (.iconst 1, y0, []), (.bipush 12, y0, []), (.bipush 12, y0, []), (.iconst 0, y0, []), (.iconst 0, y0, []), (.iconst 0, y0, []), (.invokestatic 178, yX10_letters, [6]), (.if_icmp .ne 6, y0, [28])],
  [(.bipush 12, y0, []), (.ireturn, y0, [])],
  [(.iload_n 1, y0, []), (.bipush 14, y0, []), (.bipush 15, y0, []), (.bipush 14, y0, []), (.iconst 5, y0, []), (.iconst 0, y0, []), (.iconst 0, y0, []), (.invokestatic 178, yX10_letters, [6]), (.if_icmp .ne 6, y0, [30])],
  [(.bipush 13, y0, []), (.ireturn, y0, [])],
  [(.iload_n 1, y0, []), (.bipush 18, y0, []), (.iconst 5, y0, []), (.bipush 19, y0, []), (.bipush 21, y0, []), (.bipush 12, y0, []), (.bipush 20, y0, []), (.invokestatic 178, yX10_letters, [6]), (.if_icmp .ne 8, y0, [32])],
  [(.bipush 14, y0, []), (.goto 4, y0, [33])],
  [(.iconst (-1), y0, [])],
  [(.ireturn, y0, [])]]
def pX10_whichHere : List Nat := [0, 10, 12, 26, 28, 43, 45, 59, 61, 76, 78, 92, 94, 108, 110, 125, 128, 142, 145, 160, 163, 179, 182, 198, 201, 217, 220, 235, 238, 254, 257, 275, 280, 281, 282]
theorem kX10_whichHere : ab_cks cX10_whichHere 10 (some .int) false 2 pX10_whichHere (fun _ => true) 0 bX10_whichHere = true := by decide +kernel
theorem eX10_whichHere {d mc ms : Nat} {av : List ab_V} {σ : ab_H} {post : ab_O → ab_H → Prop} (hav : (av.all ab_n1 && Nat.ble av.length 2) = true) (h : ∀ At, ab_rule bX10_whichHere d mc ms post At → At 0 (av.map some ++ List.replicate (2 - av.length) none) [] σ 0 0) : ab_call d mc ms yX10_whichHere av σ post :=
  ab_entry (o := 10) (ini := false) (ret := (some .int)) (maxL := 2) (ab_w_in (i := 1656) (by decide +kernel)) (by decide +kernel) (by decide) (by decide +kernel) (by decide +kernel) rfl kX10_whichHere hav h
def bX10_readsMany : List (List ab_I) := [[(.aload_n 0, y0, []), (.invokevirtual 235, yX10_readsQuestion, [10, 0]), (.aload_n 0, y0, []), (.bipush 44, y0, []), (.invokevirtual 229, yX10_sign, [10, 1]), (.aload_n 0, y0, []), (.invokevirtual 235, yX10_readsQuestion, [10, 0]), (.iconst 2, y0, []), (.istore_n 2, y0, [])],
  [(.aload_n 0, y0, []), (.invokevirtual 147, yX10_fine, [10, 0]), (.ifCond .eq 46, y0, [6])],
  [(.aload_n 0, y0, []), (.invokevirtual 151, yX10_here, [10, 0]), (.bipush 44, y0, []), (.if_icmp .ne 37, y0, [6])],
  [(.iload_n 2, y0, []), (.iconst 4, y0, []), (.if_icmp .ne 12, y0, [5])],
  [(.aload_n 0, y0, []), (.iconst 3, y0, []), (.aload_n 0, y0, []), (.getfield 132, y0, [10, 4]), (.invokevirtual 157, yX10_wrong, [10, 2])],
  [(.aload_n 0, y0, []), (.dup, y0, []), (.getfield 132, y0, [10, 4]), (.iconst 1, y0, []), (.iadd, y0, []), (.putfield 132, y0, [10, 4]), (.aload_n 0, y0, []), (.invokevirtual 235, yX10_readsQuestion, [10, 0]), (.iinc 2 1, y0, []), (.goto (-47), y0, [1])],
  [(.aload_n 0, y0, []), (.iload_n 1, y0, []), (.iload_n 2, y0, []), (.iconst 0, y0, []), (.iconst 0, y0, []), (.invokevirtual 238, yX10_addsAct, [10, 4]), (.return_, y0, [])]]
def pX10_readsMany : List Nat := [0, 16, 23, 32, 37, 46, 66, 75]
theorem kX10_readsMany : ab_cks cX10_readsMany 10 none false 3 pX10_readsMany (fun _ => true) 0 bX10_readsMany = true := by decide +kernel
theorem eX10_readsMany {d mc ms : Nat} {av : List ab_V} {σ : ab_H} {post : ab_O → ab_H → Prop} (hav : (av.all ab_n1 && Nat.ble av.length 3) = true) (h : ∀ At, ab_rule bX10_readsMany d mc ms post At → At 0 (av.map some ++ List.replicate (3 - av.length) none) [] σ 0 0) : ab_call d mc ms yX10_readsMany av σ post :=
  ab_entry (o := 10) (ini := false) (ret := none) (maxL := 3) (ab_w_in (i := 1676) (by decide +kernel)) (by decide +kernel) (by decide) (by decide +kernel) (by decide +kernel) rfl kX10_readsMany hav h
def bX10_readsTwo : List (List ab_I) := [[(.aload_n 0, y0, []), (.invokevirtual 235, yX10_readsQuestion, [10, 0]), (.aload_n 0, y0, []), (.bipush 44, y0, []), (.invokevirtual 229, yX10_sign, [10, 1]), (.aload_n 0, y0, []), (.invokevirtual 235, yX10_readsQuestion, [10, 0]), (.aload_n 0, y0, []), (.iload_n 1, y0, []), (.iconst 2, y0, []), (.iconst 0, y0, []), (.iconst 0, y0, []), (.invokevirtual 238, yX10_addsAct, [10, 4]), (.return_, y0, [])]]
def pX10_readsTwo : List Nat := [0, 23]
theorem kX10_readsTwo : ab_cks cX10_readsTwo 10 none false 2 pX10_readsTwo (fun _ => true) 0 bX10_readsTwo = true := by decide +kernel
theorem eX10_readsTwo {d mc ms : Nat} {av : List ab_V} {σ : ab_H} {post : ab_O → ab_H → Prop} (hav : (av.all ab_n1 && Nat.ble av.length 2) = true) (h : ∀ At, ab_rule bX10_readsTwo d mc ms post At → At 0 (av.map some ++ List.replicate (2 - av.length) none) [] σ 0 0) : ab_call d mc ms yX10_readsTwo av σ post :=
  ab_entry (o := 10) (ini := false) (ret := none) (maxL := 2) (ab_w_in (i := 1680) (by decide +kernel)) (by decide +kernel) (by decide) (by decide +kernel) (by decide +kernel) rfl kX10_readsTwo hav h
def bX10_readsAsked : List (List ab_I) := [[(.aload_n 0, y0, []), (.iconst 0, y0, []), (.aload_n 0, y0, []), (.getfield 195, y0, [10, 12]), (.iconst 1, y0, []), (.isub, y0, []), (.invokevirtual 175, yX10_number, [10, 2]), (.istore_n 2, y0, []), (.aload_n 0, y0, []), (.bipush 44, y0, []), (.invokevirtual 229, yX10_sign, [10, 1]), (.aload_n 0, y0, []), (.iconst 0, y0, []), (.sipush 999, y0, []), (.invokevirtual 175, yX10_number, [10, 2]), (.istore_n 3, y0, []), (.iconst 0, y0, []), (.istore 4, y0, []), (.iload_n 1, y0, []), (.bipush 6, y0, []), (.if_icmp .ne 19, y0, [2])],
  [(.aload_n 0, y0, []), (.bipush 44, y0, []), (.invokevirtual 229, yX10_sign, [10, 1]), (.aload_n 0, y0, []), (.iconst 0, y0, []), (.sipush 999, y0, []), (.invokevirtual 175, yX10_number, [10, 2]), (.istore 4, y0, [])],
  [(.aload_n 0, y0, []), (.iload_n 1, y0, []), (.iload_n 2, y0, []), (.iload_n 3, y0, []), (.iload 4, y0, []), (.invokevirtual 238, yX10_addsAct, [10, 4]), (.return_, y0, [])]]
def pX10_readsAsked : List Nat := [0, 36, 52, 62]
theorem kX10_readsAsked : ab_cks cX10_readsAsked 10 none false 5 pX10_readsAsked (fun _ => true) 0 bX10_readsAsked = true := by decide +kernel
theorem eX10_readsAsked {d mc ms : Nat} {av : List ab_V} {σ : ab_H} {post : ab_O → ab_H → Prop} (hav : (av.all ab_n1 && Nat.ble av.length 5) = true) (h : ∀ At, ab_rule bX10_readsAsked d mc ms post At → At 0 (av.map some ++ List.replicate (5 - av.length) none) [] σ 0 0) : ab_call d mc ms yX10_readsAsked av σ post :=
  ab_entry (o := 10) (ini := false) (ret := none) (maxL := 5) (ab_w_in (i := 1664) (by decide +kernel)) (by decide +kernel) (by decide) (by decide +kernel) (by decide +kernel) rfl kX10_readsAsked hav h
def bX10_readsQuestion : List (List ab_I) := [[(.aload_n 0, y0, []), (.invokevirtual 147, yX10_fine, [10, 0]), (.ifCond .ne 4, y0, [2])],
  [(.return_, y0, [])],
  [(.aload_n 0, y0, []), (.invokevirtual 241, yX10_whichHere, [10, 0]), (.istore_n 1, y0, []), (.iload_n 1, y0, []), (.iconst (-1), y0, []), (.if_icmp .ne 12, y0, [4])],
  [(.aload_n 0, y0, []), (.iconst 1, y0, []), (.aload_n 0, y0, []), (.getfield 132, y0, [10, 4]), (.invokevirtual 157, yX10_wrong, [10, 2])],
  [(.aload_n 0, y0, []), (.invokevirtual 147, yX10_fine, [10, 0]), (.ifCond .ne 4, y0, [6])],
  [(.return_, y0, [])],
  [(.aload_n 0, y0, []), (.invokevirtual 172, yX10_skipWord, [10, 0]), (.aload_n 0, y0, []), (.invokevirtual 244, yX10_opens, [10, 0]), (.ifCond .ne 4, y0, [8])],
  [(.return_, y0, [])],
  [(.iload_n 1, y0, []), (.bipush 6, y0, []), (.if_icmp .gt 11, y0, [10])],
  [(.aload_n 0, y0, []), (.iload_n 1, y0, []), (.invokevirtual 247, yX10_readsAsked, [10, 1]), (.goto 76, y0, [20])],
  [(.iload_n 1, y0, []), (.bipush 8, y0, []), (.if_icmp .gt 11, y0, [12])],
  [(.aload_n 0, y0, []), (.iload_n 1, y0, []), (.invokevirtual 250, yX10_readsMany, [10, 1]), (.goto 62, y0, [20])],
  [(.iload_n 1, y0, []), (.bipush 10, y0, []), (.if_icmp .gt 11, y0, [14])],
  [(.aload_n 0, y0, []), (.iload_n 1, y0, []), (.invokevirtual 253, yX10_readsTwo, [10, 1]), (.goto 48, y0, [20])],
  [(.iload_n 1, y0, []), (.bipush 11, y0, []), (.if_icmp .ne 19, y0, [16])],
  [(.aload_n 0, y0, []), (.invokevirtual 235, yX10_readsQuestion, [10, 0]), (.aload_n 0, y0, []), (.bipush 11, y0, []), (.iconst 0, y0, []), (.iconst 0, y0, []), (.iconst 0, y0, []), (.invokevirtual 238, yX10_addsAct, [10, 4]), (.goto 26, y0, [20])],
  [(.aload_n 0, y0, []), (.iload_n 1, y0, []), (.iload_n 1, y0, []), (.bipush 14, y0, []), (.if_icmp .ne 12, y0, [18])],
  [(.aload_n 0, y0, []), (.iconst 0, y0, []), (.iconst 5, y0, []), (.invokevirtual 175, yX10_number, [10, 2]), (.goto 4, y0, [19])],
  [(.iconst 0, y0, [])],
  [(.iconst 0, y0, []), (.iconst 0, y0, []), (.invokevirtual 238, yX10_addsAct, [10, 4])],
  [(.aload_n 0, y0, []), (.invokevirtual 256, yX10_closesSign, [10, 0]), (.return_, y0, [])]]
def pX10_readsQuestion : List Nat := [0, 7, 8, 18, 27, 34, 35, 46, 47, 53, 61, 67, 75, 81, 89, 95, 111, 119, 128, 129, 134, 139]
theorem kX10_readsQuestion : ab_cks cX10_readsQuestion 10 none false 2 pX10_readsQuestion (fun _ => true) 0 bX10_readsQuestion = true := by decide +kernel
theorem eX10_readsQuestion {d mc ms : Nat} {av : List ab_V} {σ : ab_H} {post : ab_O → ab_H → Prop} (hav : (av.all ab_n1 && Nat.ble av.length 2) = true) (h : ∀ At, ab_rule bX10_readsQuestion d mc ms post At → At 0 (av.map some ++ List.replicate (2 - av.length) none) [] σ 0 0) : ab_call d mc ms yX10_readsQuestion av σ post :=
  ab_entry (o := 10) (ini := false) (ret := none) (maxL := 2) (ab_w_in (i := 1652) (by decide +kernel)) (by decide +kernel) (by decide) (by decide +kernel) (by decide +kernel) rfl kX10_readsQuestion hav h
def bX10_upper : List (List ab_I) := [[(.aload_n 0, y0, []), (.getfield 41, y0, [10, 19]), (.aload_n 0, y0, []), (.getfield 259, y0, [10, 20]), (.iconst 1, y0, []), (.isub, y0, []), (.aaload, y0, [2]), (.areturn, y0, [])]]
def pX10_upper : List Nat := [0, 12]
theorem kX10_upper : ab_cks cX10_upper 10 (some (.array .int)) false 1 pX10_upper (fun _ => true) 0 bX10_upper = true := by decide +kernel
theorem eX10_upper {d mc ms : Nat} {av : List ab_V} {σ : ab_H} {post : ab_O → ab_H → Prop} (hav : (av.all ab_n1 && Nat.ble av.length 1) = true) (h : ∀ At, ab_rule bX10_upper d mc ms post At → At 0 (av.map some ++ List.replicate (1 - av.length) none) [] σ 0 0) : ab_call d mc ms yX10_upper av σ post :=
  ab_entry (o := 10) (ini := false) (ret := (some (.array .int))) (maxL := 1) (ab_w_in (i := 1778) (by decide +kernel)) (by decide +kernel) (by decide) (by decide +kernel) (by decide +kernel) rfl kX10_upper hav h
def bX10_operates : List (List ab_I) := [[(.aload_n 0, y0, []), (.dup, y0, []), (.getfield 262, y0, [10, 22]), (.iconst 1, y0, []), (.iadd, y0, []), (.putfield 262, y0, [10, 22]), (.aload_n 0, y0, []), (.dup, y0, []), (.getfield 265, y0, [10, 23]), (.aload_n 0, y0, []), (.aload_n 0, y0, []), (.getfield 41, y0, [10, 19]), (.aload_n 0, y0, []), (.getfield 259, y0, [10, 20]), (.iconst 2, y0, []), (.isub, y0, []), (.aaload, y0, [2]), (.aload_n 0, y0, []), (.getfield 41, y0, [10, 19]), (.aload_n 0, y0, []), (.getfield 259, y0, [10, 20]), (.iconst 1, y0, []), (.isub, y0, []), (.aaload, y0, [2]), (.invokevirtual 268, yX10_stepsOf, [10, 2]), (.iadd, y0, []), (.putfield 265, y0, [10, 23]), (.aload_n 0, y0, []), (.iload_n 1, y0, []), (.aload_n 0, y0, []), (.getfield 41, y0, [10, 19]), (.aload_n 0, y0, []), (.getfield 259, y0, [10, 20]), (.iconst 2, y0, []), (.isub, y0, []), (.aaload, y0, [2]), (.aload_n 0, y0, []), (.getfield 41, y0, [10, 19]), (.aload_n 0, y0, []), (.getfield 259, y0, [10, 20]), (.iconst 1, y0, []), (.isub, y0, []), (.aaload, y0, [2]), (.aload_n 0, y0, []), (.getfield 41, y0, [10, 19]), (.aload_n 0, y0, []), (.getfield 259, y0, [10, 20]), (.iconst 2, y0, []), (.isub, y0, []), (.aaload, y0, [2]), (.invokevirtual 272, yX10_joins, [10, 4]), (.aload_n 0, y0, []), (.dup, y0, []), (.getfield 259, y0, [10, 20]), (.iconst 1, y0, []), (.isub, y0, []), (.putfield 259, y0, [10, 20]), (.return_, y0, [])]]
def pX10_operates : List Nat := [0, 94]
theorem kX10_operates : ab_cks cX10_operates 10 none false 2 pX10_operates (fun _ => true) 0 bX10_operates = true := by decide +kernel
theorem eX10_operates {d mc ms : Nat} {av : List ab_V} {σ : ab_H} {post : ab_O → ab_H → Prop} (hav : (av.all ab_n1 && Nat.ble av.length 2) = true) (h : ∀ At, ab_rule bX10_operates d mc ms post At → At 0 (av.map some ++ List.replicate (2 - av.length) none) [] σ 0 0) : ab_call d mc ms yX10_operates av σ post :=
  ab_entry (o := 10) (ini := false) (ret := none) (maxL := 2) (ab_w_in (i := 1748) (by decide +kernel)) (by decide +kernel) (by decide) (by decide +kernel) (by decide +kernel) rfl kX10_operates hav h
def bX10_turnsTop : List (List ab_I) := [[(.aload_n 0, y0, []), (.dup, y0, []), (.getfield 262, y0, [10, 22]), (.iconst 1, y0, []), (.iadd, y0, []), (.putfield 262, y0, [10, 22]), (.aload_n 0, y0, []), (.dup, y0, []), (.getfield 265, y0, [10, 23]), (.aload_n 0, y0, []), (.aload_n 0, y0, []), (.invokevirtual 276, yX10_upper, [10, 0]), (.iconst 1, y0, []), (.invokevirtual 280, yX10_words, [10, 2]), (.iadd, y0, []), (.putfield 265, y0, [10, 23]), (.aload_n 0, y0, []), (.aload_n 0, y0, []), (.invokevirtual 276, yX10_upper, [10, 0]), (.invokevirtual 283, yX10_turns, [10, 1]), (.return_, y0, [])]]
def pX10_turnsTop : List Nat := [0, 37]
theorem kX10_turnsTop : ab_cks cX10_turnsTop 10 none false 1 pX10_turnsTop (fun _ => true) 0 bX10_turnsTop = true := by decide +kernel
theorem eX10_turnsTop {d mc ms : Nat} {av : List ab_V} {σ : ab_H} {post : ab_O → ab_H → Prop} (hav : (av.all ab_n1 && Nat.ble av.length 1) = true) (h : ∀ At, ab_rule bX10_turnsTop d mc ms post At → At 0 (av.map some ++ List.replicate (1 - av.length) none) [] σ 0 0) : ab_call d mc ms yX10_turnsTop av σ post :=
  ab_entry (o := 10) (ini := false) (ret := none) (maxL := 1) (ab_w_in (i := 1774) (by decide +kernel)) (by decide +kernel) (by decide) (by decide +kernel) (by decide +kernel) rfl kX10_turnsTop hav h
def bX10_pushesAll : List (List ab_I) := [[(.iload_n 1, y0, []), (.ifCond .eq 19, y0, [2])],
  [(.aload_n 0, y0, []), (.aload_n 0, y0, []), (.getfield 41, y0, [10, 19]), (.aload_n 0, y0, []), (.getfield 259, y0, [10, 20]), (.aaload, y0, [2]), (.invokevirtual 286, yX10_laysAll, [10, 1]), (.goto 15, y0, [3])],
  [(.aload_n 0, y0, []), (.getfield 41, y0, [10, 19]), (.aload_n 0, y0, []), (.getfield 259, y0, [10, 20]), (.aaload, y0, [2]), (.invokestatic 112, yX10_empties, [1])],
  [(.aload_n 0, y0, []), (.dup, y0, []), (.getfield 259, y0, [10, 20]), (.iconst 1, y0, []), (.iadd, y0, []), (.putfield 259, y0, [10, 20]), (.return_, y0, [])]]
def pX10_pushesAll : List Nat := [0, 4, 20, 32, 43]
theorem kX10_pushesAll : ab_cks cX10_pushesAll 10 none false 2 pX10_pushesAll (fun _ => true) 0 bX10_pushesAll = true := by decide +kernel
theorem eX10_pushesAll {d mc ms : Nat} {av : List ab_V} {σ : ab_H} {post : ab_O → ab_H → Prop} (hav : (av.all ab_n1 && Nat.ble av.length 2) = true) (h : ∀ At, ab_rule bX10_pushesAll d mc ms post At → At 0 (av.map some ++ List.replicate (2 - av.length) none) [] σ 0 0) : ab_call d mc ms yX10_pushesAll av σ post :=
  ab_entry (o := 10) (ini := false) (ret := none) (maxL := 2) (ab_w_in (i := 1700) (by decide +kernel)) (by decide +kernel) (by decide) (by decide +kernel) (by decide +kernel) rfl kX10_pushesAll hav h
def bX10_pushesBitmap : List (List ab_I) := [[(.aload_n 0, y0, []), (.dup, y0, []), (.getfield 289, y0, [10, 21]), (.iconst 1, y0, []), (.iadd, y0, []), (.putfield 289, y0, [10, 21]), (.aload_n 0, y0, []), (.iload_n 1, y0, []), (.iload_n 2, y0, []), (.iload_n 3, y0, []), (.aload_n 0, y0, []), (.getfield 41, y0, [10, 19]), (.aload_n 0, y0, []), (.getfield 259, y0, [10, 20]), (.aaload, y0, [2]), (.invokevirtual 292, yX10_laysBitmap, [10, 4]), (.aload_n 0, y0, []), (.dup, y0, []), (.getfield 259, y0, [10, 20]), (.iconst 1, y0, []), (.iadd, y0, []), (.putfield 259, y0, [10, 20]), (.return_, y0, [])]]
def pX10_pushesBitmap : List Nat := [0, 37]
theorem kX10_pushesBitmap : ab_cks cX10_pushesBitmap 10 none false 4 pX10_pushesBitmap (fun _ => true) 0 bX10_pushesBitmap = true := by decide +kernel
theorem eX10_pushesBitmap {d mc ms : Nat} {av : List ab_V} {σ : ab_H} {post : ab_O → ab_H → Prop} (hav : (av.all ab_n1 && Nat.ble av.length 4) = true) (h : ∀ At, ab_rule bX10_pushesBitmap d mc ms post At → At 0 (av.map some ++ List.replicate (4 - av.length) none) [] σ 0 0) : ab_call d mc ms yX10_pushesBitmap av σ post :=
  ab_entry (o := 10) (ini := false) (ret := none) (maxL := 4) (ab_w_in (i := 1736) (by decide +kernel)) (by decide +kernel) (by decide) (by decide +kernel) (by decide +kernel) rfl kX10_pushesBitmap hav h
def bX10_joinsBitmap : List (List ab_I) := [[(.aload_n 0, y0, []), (.iload_n 2, y0, []), (.iload_n 3, y0, []), (.iload 4, y0, []), (.invokevirtual 296, yX10_pushesBitmap, [10, 3]), (.aload_n 0, y0, []), (.iload_n 1, y0, []), (.invokevirtual 300, yX10_operates, [10, 1]), (.return_, y0, [])]]
def pX10_joinsBitmap : List Nat := [0, 14]
theorem kX10_joinsBitmap : ab_cks cX10_joinsBitmap 10 none false 5 pX10_joinsBitmap (fun _ => true) 0 bX10_joinsBitmap = true := by decide +kernel
theorem eX10_joinsBitmap {d mc ms : Nat} {av : List ab_V} {σ : ab_H} {post : ab_O → ab_H → Prop} (hav : (av.all ab_n1 && Nat.ble av.length 5) = true) (h : ∀ At, ab_rule bX10_joinsBitmap d mc ms post At → At 0 (av.map some ++ List.replicate (5 - av.length) none) [] σ 0 0) : ab_call d mc ms yX10_joinsBitmap av σ post :=
  ab_entry (o := 10) (ini := false) (ret := none) (maxL := 5) (ab_w_in (i := 1744) (by decide +kernel)) (by decide +kernel) (by decide) (by decide +kernel) (by decide +kernel) rfl kX10_joinsBitmap hav h
def bX10_pushesLeast : List (List ab_I) := [[(.aload_n 0, y0, []), (.getfield 22, y0, [10, 10]), (.iload_n 1, y0, []), (.aaload, y0, [2]), (.iconst 1, y0, []), (.iaload, y0, []), (.istore_n 3, y0, []), (.iload_n 2, y0, []), (.aload_n 0, y0, []), (.getfield 22, y0, [10, 10]), (.iload_n 1, y0, []), (.aaload, y0, [2]), (.iconst 0, y0, []), (.iaload, y0, []), (.iconst 1, y0, []), (.isub, y0, []), (.if_icmp .lt 9, y0, [2])],
  [(.aload_n 0, y0, []), (.iconst 1, y0, []), (.invokevirtual 303, yX10_pushesAll, [10, 1]), (.return_, y0, [])],
  [(.aload_n 0, y0, []), (.iload_n 1, y0, []), (.iconst 1, y0, []), (.iload_n 2, y0, []), (.invokevirtual 116, yX10_digit, [10, 3]), (.istore 4, y0, []), (.aload_n 0, y0, []), (.iload_n 1, y0, []), (.invokevirtual 108, yX10_isRange, [10, 1]), (.ifCond .ne 38, y0, [7])],
  [(.aload_n 0, y0, []), (.iload_n 1, y0, []), (.iconst 1, y0, []), (.iconst 0, y0, []), (.invokevirtual 296, yX10_pushesBitmap, [10, 3]), (.iconst 1, y0, []), (.istore 5, y0, [])],
  [(.iload 5, y0, []), (.iload 4, y0, []), (.if_icmp .gt 18, y0, [6])],
  [(.aload_n 0, y0, []), (.iconst 1, y0, []), (.iload_n 1, y0, []), (.iconst 1, y0, []), (.iload 5, y0, []), (.invokevirtual 307, yX10_joinsBitmap, [10, 4]), (.iinc 5 1, y0, []), (.goto (-19), y0, [4])],
  [(.goto 32, y0, [10])],
  [(.iload 4, y0, []), (.aload_n 0, y0, []), (.iload_n 1, y0, []), (.iconst 1, y0, []), (.invokevirtual 105, yX10_baseOf, [10, 2]), (.iconst 1, y0, []), (.isub, y0, []), (.if_icmp .ne 11, y0, [9])],
  [(.aload_n 0, y0, []), (.iconst 1, y0, []), (.invokevirtual 303, yX10_pushesAll, [10, 1]), (.goto 11, y0, [10])],
  [(.aload_n 0, y0, []), (.iload_n 1, y0, []), (.iconst 1, y0, []), (.iload 4, y0, []), (.invokevirtual 296, yX10_pushesBitmap, [10, 3])],
  [(.iconst 2, y0, []), (.istore 5, y0, [])],
  [(.iload 5, y0, []), (.iload_n 3, y0, []), (.if_icmp .gt 96, y0, [22])],
  [(.aload_n 0, y0, []), (.iload_n 1, y0, []), (.iload 5, y0, []), (.iload_n 2, y0, []), (.invokevirtual 116, yX10_digit, [10, 3]), (.istore 4, y0, []), (.aload_n 0, y0, []), (.iload_n 1, y0, []), (.invokevirtual 108, yX10_isRange, [10, 1]), (.ifCond .eq 17, y0, [14])],
  [(.iload 4, y0, []), (.aload_n 0, y0, []), (.iload_n 1, y0, []), (.iload 5, y0, []), (.invokevirtual 105, yX10_baseOf, [10, 2]), (.iconst 1, y0, []), (.isub, y0, []), (.if_icmp .eq 13, y0, [15])],
  [(.aload_n 0, y0, []), (.iconst 0, y0, []), (.iload_n 1, y0, []), (.iload 5, y0, []), (.iload 4, y0, []), (.invokevirtual 307, yX10_joinsBitmap, [10, 4])],
  [(.aload_n 0, y0, []), (.iload_n 1, y0, []), (.invokevirtual 108, yX10_isRange, [10, 1]), (.ifCond .eq 14, y0, [17])],
  [(.iconst 0, y0, []), (.iload 4, y0, []), (.iconst 1, y0, []), (.isub, y0, []), (.invokestatic 216, yX10_more, [2]), (.goto 4, y0, [18])],
  [(.iconst 0, y0, [])],
  [(.istore 6, y0, [])],
  [(.iload 6, y0, []), (.iload 4, y0, []), (.if_icmp .ge 19, y0, [21])],
  [(.aload_n 0, y0, []), (.iconst 1, y0, []), (.iload_n 1, y0, []), (.iload 5, y0, []), (.iload 6, y0, []), (.invokevirtual 307, yX10_joinsBitmap, [10, 4]), (.iinc 6 1, y0, []), (.goto (-20), y0, [19])],
  [(.iinc 5 1, y0, []), (.goto (-96), y0, [11])],
  [(.return_, y0, [])]]
def pX10_pushesLeast : List Nat := [0, 23, 29, 46, 56, 63, 78, 81, 94, 102, 110, 113, 119, 137, 151, 161, 169, 180, 181, 183, 190, 206, 212, 213]
theorem kX10_pushesLeast : ab_cks cX10_pushesLeast 10 none false 7 pX10_pushesLeast (fun _ => true) 0 bX10_pushesLeast = true := by decide +kernel
theorem eX10_pushesLeast {d mc ms : Nat} {av : List ab_V} {σ : ab_H} {post : ab_O → ab_H → Prop} (hav : (av.all ab_n1 && Nat.ble av.length 7) = true) (h : ∀ At, ab_rule bX10_pushesLeast d mc ms post At → At 0 (av.map some ++ List.replicate (7 - av.length) none) [] σ 0 0) : ab_call d mc ms yX10_pushesLeast av σ post :=
  ab_entry (o := 10) (ini := false) (ret := none) (maxL := 7) (ab_w_in (i := 1696) (by decide +kernel)) (by decide +kernel) (by decide) (by decide +kernel) (by decide +kernel) rfl kX10_pushesLeast hav h
def bX10_pushesBelow : List (List ab_I) := [[(.iload_n 2, y0, []), (.ifCond .ne 11, y0, [2])],
  [(.aload_n 0, y0, []), (.iconst 0, y0, []), (.invokevirtual 303, yX10_pushesAll, [10, 1]), (.goto 11, y0, [3])],
  [(.aload_n 0, y0, []), (.iload_n 1, y0, []), (.iload_n 2, y0, []), (.iconst 1, y0, []), (.isub, y0, []), (.invokevirtual 310, yX10_pushesLeast, [10, 2])],
  [(.return_, y0, [])]]
def pX10_pushesBelow : List Nat := [0, 4, 12, 20, 21]
theorem kX10_pushesBelow : ab_cks cX10_pushesBelow 10 none false 3 pX10_pushesBelow (fun _ => true) 0 bX10_pushesBelow = true := by decide +kernel
theorem eX10_pushesBelow {d mc ms : Nat} {av : List ab_V} {σ : ab_H} {post : ab_O → ab_H → Prop} (hav : (av.all ab_n1 && Nat.ble av.length 3) = true) (h : ∀ At, ab_rule bX10_pushesBelow d mc ms post At → At 0 (av.map some ++ List.replicate (3 - av.length) none) [] σ 0 0) : ab_call d mc ms yX10_pushesBelow av σ post :=
  ab_entry (o := 10) (ini := false) (ret := none) (maxL := 3) (ab_w_in (i := 1770) (by decide +kernel)) (by decide +kernel) (by decide) (by decide +kernel) (by decide +kernel) rfl kX10_pushesBelow hav h
def bX10_pushesDigit : List (List ab_I) := [[(.aload_n 0, y0, []), (.iload_n 1, y0, []), (.invokevirtual 108, yX10_isRange, [10, 1]), (.ifCond .eq 7, y0, [2])],
  [(.iload_n 3, y0, []), (.ifCond .ne 11, y0, [3])],
  [(.aload_n 0, y0, []), (.iload_n 1, y0, []), (.iload_n 2, y0, []), (.iload_n 3, y0, []), (.invokevirtual 296, yX10_pushesBitmap, [10, 3]), (.return_, y0, [])],
  [(.iload_n 3, y0, []), (.aload_n 0, y0, []), (.iload_n 1, y0, []), (.iload_n 2, y0, []), (.invokevirtual 105, yX10_baseOf, [10, 2]), (.iconst 1, y0, []), (.isub, y0, []), (.if_icmp .ne 17, y0, [5])],
  [(.aload_n 0, y0, []), (.iload_n 1, y0, []), (.iload_n 2, y0, []), (.iload_n 3, y0, []), (.iconst 1, y0, []), (.isub, y0, []), (.invokevirtual 296, yX10_pushesBitmap, [10, 3]), (.aload_n 0, y0, []), (.invokevirtual 313, yX10_turnsTop, [10, 0]), (.return_, y0, [])],
  [(.aload_n 0, y0, []), (.iload_n 1, y0, []), (.iload_n 2, y0, []), (.iload_n 3, y0, []), (.invokevirtual 296, yX10_pushesBitmap, [10, 3]), (.aload_n 0, y0, []), (.iconst 2, y0, []), (.iload_n 1, y0, []), (.iload_n 2, y0, []), (.iload_n 3, y0, []), (.iconst 1, y0, []), (.isub, y0, []), (.invokevirtual 307, yX10_joinsBitmap, [10, 4]), (.return_, y0, [])]]
def pX10_pushesDigit : List Nat := [0, 8, 12, 20, 32, 46, 64]
theorem kX10_pushesDigit : ab_cks cX10_pushesDigit 10 none false 4 pX10_pushesDigit (fun _ => true) 0 bX10_pushesDigit = true := by decide +kernel
theorem eX10_pushesDigit {d mc ms : Nat} {av : List ab_V} {σ : ab_H} {post : ab_O → ab_H → Prop} (hav : (av.all ab_n1 && Nat.ble av.length 4) = true) (h : ∀ At, ab_rule bX10_pushesDigit d mc ms post At → At 0 (av.map some ++ List.replicate (4 - av.length) none) [] σ 0 0) : ab_call d mc ms yX10_pushesDigit av σ post :=
  ab_entry (o := 10) (ini := false) (ret := none) (maxL := 4) (ab_w_in (i := 1794) (by decide +kernel)) (by decide +kernel) (by decide) (by decide +kernel) (by decide +kernel) rfl kX10_pushesDigit hav h
def bX10_pushesEqual : List (List ab_I) := [[(.iload_n 2, y0, []), (.aload_n 0, y0, []), (.getfield 22, y0, [10, 10]), (.iload_n 1, y0, []), (.aaload, y0, [2]), (.iconst 0, y0, []), (.iaload, y0, []), (.if_icmp .lt 9, y0, [2])],
  [(.aload_n 0, y0, []), (.iconst 0, y0, []), (.invokevirtual 303, yX10_pushesAll, [10, 1]), (.return_, y0, [])],
  [(.aload_n 0, y0, []), (.iload_n 1, y0, []), (.iconst 1, y0, []), (.aload_n 0, y0, []), (.iload_n 1, y0, []), (.iconst 1, y0, []), (.iload_n 2, y0, []), (.invokevirtual 116, yX10_digit, [10, 3]), (.invokevirtual 316, yX10_pushesDigit, [10, 3]), (.iconst 2, y0, []), (.istore_n 3, y0, [])],
  [(.iload_n 3, y0, []), (.aload_n 0, y0, []), (.getfield 22, y0, [10, 10]), (.iload_n 1, y0, []), (.aaload, y0, [2]), (.iconst 1, y0, []), (.iaload, y0, []), (.if_icmp .gt 27, y0, [5])],
  [(.aload_n 0, y0, []), (.iload_n 1, y0, []), (.iload_n 3, y0, []), (.aload_n 0, y0, []), (.iload_n 1, y0, []), (.iload_n 3, y0, []), (.iload_n 2, y0, []), (.invokevirtual 116, yX10_digit, [10, 3]), (.invokevirtual 316, yX10_pushesDigit, [10, 3]), (.aload_n 0, y0, []), (.iconst 0, y0, []), (.invokevirtual 300, yX10_operates, [10, 1]), (.iinc 3 1, y0, []), (.goto (-33), y0, [3])],
  [(.return_, y0, [])]]
def pX10_pushesEqual : List Nat := [0, 12, 18, 33, 45, 69, 70]
theorem kX10_pushesEqual : ab_cks cX10_pushesEqual 10 none false 4 pX10_pushesEqual (fun _ => true) 0 bX10_pushesEqual = true := by decide +kernel
theorem eX10_pushesEqual {d mc ms : Nat} {av : List ab_V} {σ : ab_H} {post : ab_O → ab_H → Prop} (hav : (av.all ab_n1 && Nat.ble av.length 4) = true) (h : ∀ At, ab_rule bX10_pushesEqual d mc ms post At → At 0 (av.map some ++ List.replicate (4 - av.length) none) [] σ 0 0) : ab_call d mc ms yX10_pushesEqual av σ post :=
  ab_entry (o := 10) (ini := false) (ret := none) (maxL := 4) (ab_w_in (i := 1790) (by decide +kernel)) (by decide +kernel) (by decide) (by decide +kernel) (by decide +kernel) rfl kX10_pushesEqual hav h
def bX10_pushesBetween : List (List ab_I) := [[(.iload_n 2, y0, []), (.iload_n 3, y0, []), (.if_icmp .le 9, y0, [2])],
  [(.aload_n 0, y0, []), (.iconst 0, y0, []), (.invokevirtual 303, yX10_pushesAll, [10, 1]), (.return_, y0, [])],
  [(.aload_n 0, y0, []), (.iload_n 1, y0, []), (.iload_n 3, y0, []), (.invokevirtual 310, yX10_pushesLeast, [10, 2]), (.iload_n 2, y0, []), (.ifCond .ne 4, y0, [4])],
  [(.return_, y0, [])],
  [(.aload_n 0, y0, []), (.iload_n 1, y0, []), (.iload_n 2, y0, []), (.iconst 1, y0, []), (.isub, y0, []), (.invokevirtual 310, yX10_pushesLeast, [10, 2]), (.aload_n 0, y0, []), (.iconst 3, y0, []), (.invokevirtual 300, yX10_operates, [10, 1]), (.return_, y0, [])]]
def pX10_pushesBetween : List Nat := [0, 5, 11, 21, 22, 36]
theorem kX10_pushesBetween : ab_cks cX10_pushesBetween 10 none false 4 pX10_pushesBetween (fun _ => true) 0 bX10_pushesBetween = true := by decide +kernel
theorem eX10_pushesBetween {d mc ms : Nat} {av : List ab_V} {σ : ab_H} {post : ab_O → ab_H → Prop} (hav : (av.all ab_n1 && Nat.ble av.length 4) = true) (h : ∀ At, ab_rule bX10_pushesBetween d mc ms post At → At 0 (av.map some ++ List.replicate (4 - av.length) none) [] σ 0 0) : ab_call d mc ms yX10_pushesBetween av σ post :=
  ab_entry (o := 10) (ini := false) (ret := none) (maxL := 4) (ab_w_in (i := 1798) (by decide +kernel)) (by decide +kernel) (by decide) (by decide +kernel) (by decide +kernel) rfl kX10_pushesBetween hav h
def bX10_joinsAll : List (List ab_I) := [[(.aload_n 0, y0, []), (.getfield 259, y0, [10, 20]), (.iload_n 2, y0, []), (.isub, y0, []), (.istore_n 3, y0, []), (.iconst 1, y0, []), (.istore 4, y0, [])],
  [(.iload 4, y0, []), (.iload_n 2, y0, []), (.if_icmp .ge 73, y0, [3])],
  [(.aload_n 0, y0, []), (.dup, y0, []), (.getfield 262, y0, [10, 22]), (.iconst 1, y0, []), (.iadd, y0, []), (.putfield 262, y0, [10, 22]), (.aload_n 0, y0, []), (.dup, y0, []), (.getfield 265, y0, [10, 23]), (.aload_n 0, y0, []), (.aload_n 0, y0, []), (.getfield 41, y0, [10, 19]), (.iload_n 3, y0, []), (.aaload, y0, [2]), (.aload_n 0, y0, []), (.getfield 41, y0, [10, 19]), (.iload_n 3, y0, []), (.iload 4, y0, []), (.iadd, y0, []), (.aaload, y0, [2]), (.invokevirtual 268, yX10_stepsOf, [10, 2]), (.iadd, y0, []), (.putfield 265, y0, [10, 23]), (.aload_n 0, y0, []), (.iload_n 1, y0, []), (.aload_n 0, y0, []), (.getfield 41, y0, [10, 19]), (.iload_n 3, y0, []), (.aaload, y0, [2]), (.aload_n 0, y0, []), (.getfield 41, y0, [10, 19]), (.iload_n 3, y0, []), (.iload 4, y0, []), (.iadd, y0, []), (.aaload, y0, [2]), (.aload_n 0, y0, []), (.getfield 41, y0, [10, 19]), (.iload_n 3, y0, []), (.aaload, y0, [2]), (.invokevirtual 272, yX10_joins, [10, 4]), (.iinc 4 1, y0, []), (.goto (-73), y0, [1])],
  [(.aload_n 0, y0, []), (.iload_n 3, y0, []), (.iconst 1, y0, []), (.iadd, y0, []), (.putfield 259, y0, [10, 20]), (.return_, y0, [])]]
def pX10_joinsAll : List Nat := [0, 10, 16, 86, 94]
theorem kX10_joinsAll : ab_cks cX10_joinsAll 10 none false 5 pX10_joinsAll (fun _ => true) 0 bX10_joinsAll = true := by decide +kernel
theorem eX10_joinsAll {d mc ms : Nat} {av : List ab_V} {σ : ab_H} {post : ab_O → ab_H → Prop} (hav : (av.all ab_n1 && Nat.ble av.length 5) = true) (h : ∀ At, ab_rule bX10_joinsAll d mc ms post At → At 0 (av.map some ++ List.replicate (5 - av.length) none) [] σ 0 0) : ab_call d mc ms yX10_joinsAll av σ post :=
  ab_entry (o := 10) (ini := false) (ret := none) (maxL := 5) (ab_w_in (i := 1802) (by decide +kernel)) (by decide +kernel) (by decide) (by decide +kernel) (by decide +kernel) rfl kX10_joinsAll hav h
def bX10_pushesResult : List (List ab_I) := [[(.aload_n 0, y0, []), (.dup, y0, []), (.getfield 289, y0, [10, 21]), (.iconst 1, y0, []), (.iadd, y0, []), (.putfield 289, y0, [10, 21]), (.aload_n 0, y0, []), (.getfield 35, y0, [10, 16]), (.iload_n 1, y0, []), (.aaload, y0, [2]), (.aload_n 0, y0, []), (.getfield 41, y0, [10, 19]), (.aload_n 0, y0, []), (.getfield 259, y0, [10, 20]), (.aaload, y0, [2]), (.invokestatic 222, yX10_copies, [2]), (.aload_n 0, y0, []), (.dup, y0, []), (.getfield 259, y0, [10, 20]), (.iconst 1, y0, []), (.iadd, y0, []), (.putfield 259, y0, [10, 20]), (.return_, y0, [])]]
def pX10_pushesResult : List Nat := [0, 39]
theorem kX10_pushesResult : ab_cks cX10_pushesResult 10 none false 2 pX10_pushesResult (fun _ => true) 0 bX10_pushesResult = true := by decide +kernel
theorem eX10_pushesResult {d mc ms : Nat} {av : List ab_V} {σ : ab_H} {post : ab_O → ab_H → Prop} (hav : (av.all ab_n1 && Nat.ble av.length 2) = true) (h : ∀ At, ab_rule bX10_pushesResult d mc ms post At → At 0 (av.map some ++ List.replicate (2 - av.length) none) [] σ 0 0) : ab_call d mc ms yX10_pushesResult av σ post :=
  ab_entry (o := 10) (ini := false) (ret := none) (maxL := 2) (ab_w_in (i := 1806) (by decide +kernel)) (by decide +kernel) (by decide) (by decide +kernel) (by decide +kernel) rfl kX10_pushesResult hav h
def bX10_answers : List (List ab_I) := [[(.aload_n 1, y0, []), (.iconst 0, y0, []), (.iaload, y0, []), (.tableswitch 238 0 13 #[69, 82, 95, 112, 129, 142, 159, 175, 186, 197, 206, 215, 222, 230], y0, [15, 1, 2, 3, 4, 5, 6, 7, 8, 9, 10, 11, 12, 13, 14])],
  [(.aload_n 0, y0, []), (.aload_n 1, y0, []), (.iconst 1, y0, []), (.iaload, y0, []), (.aload_n 1, y0, []), (.iconst 2, y0, []), (.iaload, y0, []), (.invokevirtual 310, yX10_pushesLeast, [10, 2]), (.goto 166, y0, [16])],
  [(.aload_n 0, y0, []), (.aload_n 1, y0, []), (.iconst 1, y0, []), (.iaload, y0, []), (.aload_n 1, y0, []), (.iconst 2, y0, []), (.iaload, y0, []), (.invokevirtual 319, yX10_pushesBelow, [10, 2]), (.goto 153, y0, [16])],
  [(.aload_n 0, y0, []), (.aload_n 1, y0, []), (.iconst 1, y0, []), (.iaload, y0, []), (.aload_n 1, y0, []), (.iconst 2, y0, []), (.iaload, y0, []), (.invokevirtual 319, yX10_pushesBelow, [10, 2]), (.aload_n 0, y0, []), (.invokevirtual 313, yX10_turnsTop, [10, 0]), (.goto 136, y0, [16])],
  [(.aload_n 0, y0, []), (.aload_n 1, y0, []), (.iconst 1, y0, []), (.iaload, y0, []), (.aload_n 1, y0, []), (.iconst 2, y0, []), (.iaload, y0, []), (.invokevirtual 310, yX10_pushesLeast, [10, 2]), (.aload_n 0, y0, []), (.invokevirtual 313, yX10_turnsTop, [10, 0]), (.goto 119, y0, [16])],
  [(.aload_n 0, y0, []), (.aload_n 1, y0, []), (.iconst 1, y0, []), (.iaload, y0, []), (.aload_n 1, y0, []), (.iconst 2, y0, []), (.iaload, y0, []), (.invokevirtual 322, yX10_pushesEqual, [10, 2]), (.goto 106, y0, [16])],
  [(.aload_n 0, y0, []), (.aload_n 1, y0, []), (.iconst 1, y0, []), (.iaload, y0, []), (.aload_n 1, y0, []), (.iconst 2, y0, []), (.iaload, y0, []), (.invokevirtual 322, yX10_pushesEqual, [10, 2]), (.aload_n 0, y0, []), (.invokevirtual 313, yX10_turnsTop, [10, 0]), (.goto 89, y0, [16])],
  [(.aload_n 0, y0, []), (.aload_n 1, y0, []), (.iconst 1, y0, []), (.iaload, y0, []), (.aload_n 1, y0, []), (.iconst 2, y0, []), (.iaload, y0, []), (.aload_n 1, y0, []), (.iconst 3, y0, []), (.iaload, y0, []), (.invokevirtual 325, yX10_pushesBetween, [10, 3]), (.goto 73, y0, [16])],
  [(.aload_n 0, y0, []), (.iconst 0, y0, []), (.aload_n 1, y0, []), (.iconst 1, y0, []), (.iaload, y0, []), (.invokevirtual 328, yX10_joinsAll, [10, 2]), (.goto 62, y0, [16])],
  [(.aload_n 0, y0, []), (.iconst 1, y0, []), (.aload_n 1, y0, []), (.iconst 1, y0, []), (.iaload, y0, []), (.invokevirtual 328, yX10_joinsAll, [10, 2]), (.goto 51, y0, [16])],
  [(.aload_n 0, y0, []), (.iconst 2, y0, []), (.iconst 2, y0, []), (.invokevirtual 328, yX10_joinsAll, [10, 2]), (.goto 42, y0, [16])],
  [(.aload_n 0, y0, []), (.iconst 3, y0, []), (.iconst 2, y0, []), (.invokevirtual 328, yX10_joinsAll, [10, 2]), (.goto 33, y0, [16])],
  [(.aload_n 0, y0, []), (.invokevirtual 313, yX10_turnsTop, [10, 0]), (.goto 26, y0, [16])],
  [(.aload_n 0, y0, []), (.iconst 1, y0, []), (.invokevirtual 303, yX10_pushesAll, [10, 1]), (.goto 18, y0, [16])],
  [(.aload_n 0, y0, []), (.iconst 0, y0, []), (.invokevirtual 303, yX10_pushesAll, [10, 1]), (.goto 10, y0, [16])],
  [(.aload_n 0, y0, []), (.aload_n 1, y0, []), (.iconst 1, y0, []), (.iaload, y0, []), (.invokevirtual 331, yX10_pushesResult, [10, 1])],
  [(.return_, y0, [])]]
def pX10_answers : List Nat := [0, 72, 85, 98, 115, 132, 145, 162, 178, 189, 200, 209, 218, 225, 233, 241, 248, 249]
theorem kX10_answers : ab_cks cX10_answers 10 none false 2 pX10_answers (fun _ => true) 0 bX10_answers = true := by decide +kernel
theorem eX10_answers {d mc ms : Nat} {av : List ab_V} {σ : ab_H} {post : ab_O → ab_H → Prop} (hav : (av.all ab_n1 && Nat.ble av.length 2) = true) (h : ∀ At, ab_rule bX10_answers d mc ms post At → At 0 (av.map some ++ List.replicate (2 - av.length) none) [] σ 0 0) : ab_call d mc ms yX10_answers av σ post :=
  ab_entry (o := 10) (ini := false) (ret := none) (maxL := 2) (ab_w_in (i := 1692) (by decide +kernel)) (by decide +kernel) (by decide) (by decide +kernel) (by decide +kernel) rfl kX10_answers hav h
def bX10_clears : List (List ab_I) := [[(.aload_n 0, y0, []), (.iconst 0, y0, []), (.putfield 259, y0, [10, 20]), (.aload_n 0, y0, []), (.iconst 0, y0, []), (.putfield 289, y0, [10, 21]), (.aload_n 0, y0, []), (.iconst 0, y0, []), (.putfield 262, y0, [10, 22]), (.aload_n 0, y0, []), (.iconst 0, y0, []), (.putfield 265, y0, [10, 23]), (.return_, y0, [])]]
def pX10_clears : List Nat := [0, 21]
theorem kX10_clears : ab_cks cX10_clears 10 none false 1 pX10_clears (fun _ => true) 0 bX10_clears = true := by decide +kernel
theorem eX10_clears {d mc ms : Nat} {av : List ab_V} {σ : ab_H} {post : ab_O → ab_H → Prop} (hav : (av.all ab_n1 && Nat.ble av.length 1) = true) (h : ∀ At, ab_rule bX10_clears d mc ms post At → At 0 (av.map some ++ List.replicate (1 - av.length) none) [] σ 0 0) : ab_call d mc ms yX10_clears av σ post :=
  ab_entry (o := 10) (ini := false) (ret := none) (maxL := 1) (ab_w_in (i := 1688) (by decide +kernel)) (by decide +kernel) (by decide) (by decide +kernel) (by decide +kernel) rfl kX10_clears hav h
def bX10_withLive : List (List ab_I) := [[(.aload_n 0, y0, []), (.dup, y0, []), (.getfield 289, y0, [10, 21]), (.iconst 1, y0, []), (.iadd, y0, []), (.putfield 289, y0, [10, 21]), (.aload_n 0, y0, []), (.aload_n 0, y0, []), (.getfield 41, y0, [10, 19]), (.aload_n 0, y0, []), (.getfield 259, y0, [10, 20]), (.aaload, y0, [2]), (.invokevirtual 123, yX10_laysLive, [10, 1]), (.aload_n 0, y0, []), (.dup, y0, []), (.getfield 259, y0, [10, 20]), (.iconst 1, y0, []), (.iadd, y0, []), (.putfield 259, y0, [10, 20]), (.aload_n 0, y0, []), (.iconst 0, y0, []), (.invokevirtual 300, yX10_operates, [10, 1]), (.return_, y0, [])]]
def pX10_withLive : List Nat := [0, 39]
theorem kX10_withLive : ab_cks cX10_withLive 10 none false 1 pX10_withLive (fun _ => true) 0 bX10_withLive = true := by decide +kernel
theorem eX10_withLive {d mc ms : Nat} {av : List ab_V} {σ : ab_H} {post : ab_O → ab_H → Prop} (hav : (av.all ab_n1 && Nat.ble av.length 1) = true) (h : ∀ At, ab_rule bX10_withLive d mc ms post At → At 0 (av.map some ++ List.replicate (1 - av.length) none) [] σ 0 0) : ab_call d mc ms yX10_withLive av σ post :=
  ab_entry (o := 10) (ini := false) (ret := none) (maxL := 1) (ab_w_in (i := 1810) (by decide +kernel)) (by decide +kernel) (by decide) (by decide +kernel) (by decide +kernel) rfl kX10_withLive hav h
def bX10_isResult : List (List ab_I) := [[(.iload_n 1, y0, []), (.iconst 0, y0, []), (.iconst 5, y0, []), (.invokestatic 162, yX10_in, [3]), (.ireturn, y0, [1])]]
def pX10_isResult : List Nat := [0, 7]
theorem kX10_isResult : ab_cks cX10_isResult 10 (some .boolean) false 2 pX10_isResult (fun _ => true) 0 bX10_isResult = true := by decide +kernel
theorem eX10_isResult {d mc ms : Nat} {av : List ab_V} {σ : ab_H} {post : ab_O → ab_H → Prop} (hav : (av.all ab_n1 && Nat.ble av.length 2) = true) (h : ∀ At, ab_rule bX10_isResult d mc ms post At → At 0 (av.map some ++ List.replicate (2 - av.length) none) [] σ 0 0) : ab_call d mc ms yX10_isResult av σ post :=
  ab_entry (o := 10) (ini := false) (ret := (some .boolean)) (maxL := 2) (ab_w_in (i := 1648) (by decide +kernel)) (by decide +kernel) (by decide) (by decide +kernel) (by decide +kernel) rfl kX10_isResult hav h
def bX10_isSet : List (List ab_I) := [[(.iload_n 1, y0, []), (.iconst 0, y0, []), (.bipush 6, y0, []), (.invokestatic 162, yX10_in, [3]), (.ireturn, y0, [1])]]
def pX10_isSet : List Nat := [0, 8]
theorem kX10_isSet : ab_cks cX10_isSet 10 (some .boolean) false 2 pX10_isSet (fun _ => true) 0 bX10_isSet = true := by decide +kernel
theorem eX10_isSet {d mc ms : Nat} {av : List ab_V} {σ : ab_H} {post : ab_O → ab_H → Prop} (hav : (av.all ab_n1 && Nat.ble av.length 2) = true) (h : ∀ At, ab_rule bX10_isSet d mc ms post At → At 0 (av.map some ++ List.replicate (2 - av.length) none) [] σ 0 0) : ab_call d mc ms yX10_isSet av σ post :=
  ab_entry (o := 10) (ini := false) (ret := (some .boolean)) (maxL := 2) (ab_w_in (i := 1910) (by decide +kernel)) (by decide +kernel) (by decide) (by decide +kernel) (by decide +kernel) rfl kX10_isSet hav h
def bX10_ask : List (List ab_I) := [[(.aload_n 0, y0, []), (.iconst 0, y0, []), (.putfield 62, y0, [10, 0]), (.aload_n 0, y0, []), (.aload_n 0, y0, []), (.iload_n 1, y0, []), (.invokevirtual 334, yX10_isResult, [10, 1]), (.ifCond .ne 7, y0, [2])],
  [(.iconst 1, y0, []), (.goto 4, y0, [3])],
  [(.iconst 0, y0, [])],
  [(.iconst 1, y0, []), (.iconst 0, y0, []), (.invokevirtual 191, yX10_bad, [10, 3]), (.ifCond .ne 35, y0, [8])],
  [(.aload_n 0, y0, []), (.iload_n 2, y0, []), (.iconst 0, y0, []), (.sipush 200, y0, []), (.aload_n 0, y0, []), (.getfield 126, y0, [10, 2]), (.invokestatic 68, yX10_less, [2]), (.invokestatic 162, yX10_in, [3]), (.ifCond .ne 7, y0, [6])],
  [(.iconst 1, y0, []), (.goto 4, y0, [7])],
  [(.iconst 0, y0, [])],
  [(.iconst 2, y0, []), (.iconst 1, y0, []), (.invokevirtual 191, yX10_bad, [10, 3]), (.ifCond .eq 5, y0, [9])],
  [(.iconst 0, y0, []), (.ireturn, y0, [])],
  [(.aload_n 0, y0, []), (.iload_n 2, y0, []), (.invokevirtual 198, yX10_starts, [10, 1]), (.aload_n 0, y0, []), (.iconst 0, y0, []), (.putfield 232, y0, [10, 18]), (.aload_n 0, y0, []), (.invokevirtual 235, yX10_readsQuestion, [10, 0]), (.aload_n 0, y0, []), (.invokevirtual 188, yX10_end, [10, 0]), (.aload_n 0, y0, []), (.invokevirtual 147, yX10_fine, [10, 0]), (.ifCond .ne 9, y0, [11])],
  [(.aload_n 0, y0, []), (.iconst 0, y0, []), (.invokevirtual 205, yX10_ends, [10, 1]), (.ireturn, y0, [])],
  [(.aload_n 0, y0, []), (.invokevirtual 337, yX10_clears, [10, 0]), (.iconst 0, y0, []), (.istore_n 3, y0, [])],
  [(.iload_n 3, y0, []), (.aload_n 0, y0, []), (.getfield 232, y0, [10, 18]), (.if_icmp .ge 19, y0, [14])],
  [(.aload_n 0, y0, []), (.aload_n 0, y0, []), (.getfield 38, y0, [10, 17]), (.iload_n 3, y0, []), (.aaload, y0, [2]), (.invokevirtual 340, yX10_answers, [10, 1]), (.iinc 3 1, y0, []), (.goto (-21), y0, [12])],
  [(.aload_n 0, y0, []), (.invokevirtual 343, yX10_withLive, [10, 0]), (.aload_n 0, y0, []), (.getfield 41, y0, [10, 19]), (.iconst 0, y0, []), (.aaload, y0, [2]), (.aload_n 0, y0, []), (.getfield 35, y0, [10, 16]), (.iload_n 1, y0, []), (.aaload, y0, [2]), (.invokestatic 222, yX10_copies, [2]), (.aload_n 0, y0, []), (.aload_n 0, y0, []), (.getfield 289, y0, [10, 21]), (.putfield 346, y0, [10, 24]), (.aload_n 0, y0, []), (.aload_n 0, y0, []), (.getfield 262, y0, [10, 22]), (.putfield 349, y0, [10, 25]), (.aload_n 0, y0, []), (.aload_n 0, y0, []), (.getfield 265, y0, [10, 23]), (.putfield 352, y0, [10, 26]), (.aload_n 0, y0, []), (.aload_n 0, y0, []), (.aload_n 0, y0, []), (.getfield 35, y0, [10, 16]), (.iload_n 1, y0, []), (.aaload, y0, [2]), (.invokevirtual 355, yX10_many, [10, 1]), (.invokevirtual 205, yX10_ends, [10, 1]), (.ireturn, y0, [])]]
def pX10_ask : List Nat := [0, 14, 18, 19, 27, 46, 50, 51, 59, 61, 86, 92, 98, 106, 122, 180]
theorem kX10_ask : ab_cks cX10_ask 10 (some .int) false 4 pX10_ask (fun _ => true) 0 bX10_ask = true := by decide +kernel
theorem eX10_ask {d mc ms : Nat} {av : List ab_V} {σ : ab_H} {post : ab_O → ab_H → Prop} (hav : (av.all ab_n1 && Nat.ble av.length 4) = true) (h : ∀ At, ab_rule bX10_ask d mc ms post At → At 0 (av.map some ++ List.replicate (4 - av.length) none) [] σ 0 0) : ab_call d mc ms yX10_ask av σ post :=
  ab_entry (o := 10) (ini := false) (ret := (some .int)) (maxL := 4) (ab_w_in (i := 1644) (by decide +kernel)) (by decide +kernel) (by decide) (by decide +kernel) (by decide +kernel) rfl kX10_ask hav h
def bX10_wrongOf : List (List ab_I) := [[(.iload_n 1, y0, []), (.ldc 87, y0, [32768]), (.if_icmp .ge 45, y0, [10])],
  [(.iload_n 1, y0, []), (.ifCond .eq 10, y0, [3])],
  [(.iload_n 1, y0, []), (.sipush 32767, y0, []), (.if_icmp .ne 5, y0, [4])],
  [(.iconst 2, y0, []), (.ireturn, y0, [])],
  [(.iload_n 2, y0, []), (.aload_n 0, y0, []), (.invokevirtual 80, yX10_groups, [10, 0]), (.if_icmp .ne 5, y0, [6])],
  [(.iconst 5, y0, []), (.ireturn, y0, [])],
  [(.iload_n 1, y0, []), (.aload_n 0, y0, []), (.iload_n 2, y0, []), (.invokevirtual 99, yX10_whole, [10, 1]), (.iconst (-1), y0, []), (.ixor, y0, []), (.iand, y0, []), (.ifCond .eq 8, y0, [8])],
  [(.bipush 6, y0, []), (.goto 4, y0, [9])],
  [(.iconst 0, y0, [])],
  [(.ireturn, y0, [])],
  [(.iload_n 1, y0, []), (.sipush 16383, y0, []), (.iand, y0, []), (.istore 4, y0, []), (.iload 4, y0, []), (.ifCond .ne 5, y0, [12])],
  [(.iconst 3, y0, []), (.ireturn, y0, [])],
  [(.iload_n 3, y0, []), (.ldc 87, y0, [32768]), (.if_icmp .lt 18, y0, [15])],
  [(.iload_n 3, y0, []), (.sipush 16384, y0, []), (.iand, y0, []), (.iload_n 1, y0, []), (.sipush 16384, y0, []), (.iand, y0, []), (.if_icmp .ne 5, y0, [15])],
  [(.iconst 4, y0, []), (.ireturn, y0, [])],
  [(.iload_n 2, y0, []), (.iload 4, y0, []), (.iadd, y0, []), (.aload_n 0, y0, []), (.invokevirtual 80, yX10_groups, [10, 0]), (.if_icmp .le 5, y0, [17])],
  [(.iconst 5, y0, []), (.ireturn, y0, [])],
  [(.iload_n 1, y0, []), (.sipush 16384, y0, []), (.iand, y0, []), (.ifCond .eq 23, y0, [20])],
  [(.aload_n 0, y0, []), (.iload_n 2, y0, []), (.iload 4, y0, []), (.iadd, y0, []), (.iconst 1, y0, []), (.isub, y0, []), (.invokevirtual 72, yX10_rowsOf, [10, 1]), (.bipush 15, y0, []), (.if_icmp .ge 8, y0, [20])],
  [(.bipush 6, y0, []), (.goto 4, y0, [21])],
  [(.iconst 0, y0, [])],
  [(.ireturn, y0, [])]]
def pX10_wrongOf : List Nat := [0, 6, 10, 17, 19, 27, 29, 41, 46, 47, 48, 60, 62, 68, 81, 83, 94, 96, 104, 119, 124, 125, 126]
theorem kX10_wrongOf : ab_cks cX10_wrongOf 10 (some .int) false 5 pX10_wrongOf (fun _ => true) 0 bX10_wrongOf = true := by decide +kernel
theorem eX10_wrongOf {d mc ms : Nat} {av : List ab_V} {σ : ab_H} {post : ab_O → ab_H → Prop} (hav : (av.all ab_n1 && Nat.ble av.length 5) = true) (h : ∀ At, ab_rule bX10_wrongOf d mc ms post At → At 0 (av.map some ++ List.replicate (5 - av.length) none) [] σ 0 0) : ab_call d mc ms yX10_wrongOf av σ post :=
  ab_entry (o := 10) (ini := false) (ret := (some .int)) (maxL := 5) (ab_w_in (i := 1829) (by decide +kernel)) (by decide +kernel) (by decide) (by decide +kernel) (by decide +kernel) rfl kX10_wrongOf hav h
def bX10_load : List (List ab_I) := [[(.aload_n 0, y0, []), (.iconst 0, y0, []), (.putfield 62, y0, [10, 0]), (.aload_n 0, y0, []), (.aload_n 0, y0, []), (.iload_n 1, y0, []), (.invokevirtual 334, yX10_isResult, [10, 1]), (.ifCond .ne 7, y0, [2])],
  [(.iconst 1, y0, []), (.goto 4, y0, [3])],
  [(.iconst 0, y0, [])],
  [(.iconst 1, y0, []), (.iconst 0, y0, []), (.invokevirtual 191, yX10_bad, [10, 3]), (.ifCond .ne 29, y0, [8])],
  [(.aload_n 0, y0, []), (.iload_n 2, y0, []), (.iconst 0, y0, []), (.aload_n 0, y0, []), (.getfield 126, y0, [10, 2]), (.invokestatic 162, yX10_in, [3]), (.ifCond .ne 7, y0, [6])],
  [(.iconst 1, y0, []), (.goto 4, y0, [7])],
  [(.iconst 0, y0, [])],
  [(.iconst 2, y0, []), (.iconst 1, y0, []), (.invokevirtual 191, yX10_bad, [10, 3]), (.ifCond .eq 5, y0, [9])],
  [(.iconst 0, y0, []), (.ireturn, y0, [])],
  [(.aload_n 0, y0, []), (.iload_n 2, y0, []), (.invokevirtual 198, yX10_starts, [10, 1]), (.aload_n 0, y0, []), (.getfield 44, y0, [10, 27]), (.invokestatic 112, yX10_empties, [1]), (.iconst 0, y0, []), (.istore_n 3, y0, []), (.iconst 0, y0, []), (.istore 4, y0, []), (.aload_n 0, y0, []), (.iconst 0, y0, []), (.putfield 132, y0, [10, 4])],
  [(.aload_n 0, y0, []), (.getfield 132, y0, [10, 4]), (.iload_n 2, y0, []), (.if_icmp .ge 196, y0, [32])],
  [(.aload_n 0, y0, []), (.invokevirtual 147, yX10_fine, [10, 0]), (.ifCond .eq 189, y0, [32])],
  [(.aload_n 0, y0, []), (.getfield 132, y0, [10, 4]), (.iconst 1, y0, []), (.iadd, y0, []), (.iload_n 2, y0, []), (.if_icmp .ne 12, y0, [14])],
  [(.aload_n 0, y0, []), (.iconst 1, y0, []), (.aload_n 0, y0, []), (.getfield 132, y0, [10, 4]), (.invokevirtual 157, yX10_wrong, [10, 2])],
  [(.aload_n 0, y0, []), (.invokevirtual 147, yX10_fine, [10, 0]), (.ifCond .ne 6, y0, [16])],
  [(.goto 160, y0, [32])],
  [(.sipush 256, y0, []), (.aload_n 0, y0, []), (.getfield 17, y0, [10, 9]), (.aload_n 0, y0, []), (.getfield 132, y0, [10, 4]), (.iaload, y0, []), (.imul, y0, []), (.aload_n 0, y0, []), (.getfield 17, y0, [10, 9]), (.aload_n 0, y0, []), (.getfield 132, y0, [10, 4]), (.iconst 1, y0, []), (.iadd, y0, []), (.iaload, y0, []), (.iadd, y0, []), (.istore 5, y0, []), (.aload_n 0, y0, []), (.iload 5, y0, []), (.iload_n 3, y0, []), (.iload 4, y0, []), (.invokevirtual 359, yX10_wrongOf, [10, 3]), (.istore 6, y0, []), (.iload 6, y0, []), (.ifCond .le 13, y0, [18])],
  [(.aload_n 0, y0, []), (.iload 6, y0, []), (.aload_n 0, y0, []), (.getfield 132, y0, [10, 4]), (.invokevirtual 157, yX10_wrong, [10, 2])],
  [(.aload_n 0, y0, []), (.invokevirtual 147, yX10_fine, [10, 0]), (.ifCond .ne 6, y0, [20])],
  [(.goto 97, y0, [32])],
  [(.iload 5, y0, []), (.ldc 87, y0, [32768]), (.if_icmp .ge 7, y0, [22])],
  [(.iconst 1, y0, []), (.goto 9, y0, [23])],
  [(.iload 5, y0, []), (.sipush 16383, y0, []), (.iand, y0, [])],
  [(.istore 7, y0, []), (.iconst 0, y0, []), (.istore 8, y0, [])],
  [(.iload 8, y0, []), (.iload 7, y0, []), (.if_icmp .ge 46, y0, [31])],
  [(.aload_n 0, y0, []), (.getfield 44, y0, [10, 27]), (.iload_n 3, y0, []), (.iload 8, y0, []), (.iadd, y0, []), (.iload 5, y0, []), (.ldc 87, y0, [32768]), (.if_icmp .ge 8, y0, [27])],
  [(.iload 5, y0, []), (.goto 19, y0, [30])],
  [(.iload 5, y0, []), (.sipush 16384, y0, []), (.iand, y0, []), (.ifCond .eq 9, y0, [29])],
  [(.sipush 32767, y0, []), (.goto 4, y0, [30])],
  [(.iconst 0, y0, [])],
  [(.iastore, y0, []), (.iinc 8 1, y0, []), (.goto (-47), y0, [24])],
  [(.iload_n 3, y0, []), (.iload 7, y0, []), (.iadd, y0, []), (.istore_n 3, y0, []), (.iload 5, y0, []), (.istore 4, y0, []), (.aload_n 0, y0, []), (.dup, y0, []), (.getfield 132, y0, [10, 4]), (.iconst 2, y0, []), (.iadd, y0, []), (.putfield 132, y0, [10, 4]), (.goto (-198), y0, [10])],
  [(.iload_n 3, y0, []), (.aload_n 0, y0, []), (.invokevirtual 80, yX10_groups, [10, 0]), (.if_icmp .ge 10, y0, [34])],
  [(.aload_n 0, y0, []), (.bipush 7, y0, []), (.iload_n 2, y0, []), (.invokevirtual 157, yX10_wrong, [10, 2])],
  [(.aload_n 0, y0, []), (.invokevirtual 147, yX10_fine, [10, 0]), (.ifCond .eq 16, y0, [36])],
  [(.aload_n 0, y0, []), (.getfield 44, y0, [10, 27]), (.aload_n 0, y0, []), (.getfield 35, y0, [10, 16]), (.iload_n 1, y0, []), (.aaload, y0, [2]), (.invokestatic 222, yX10_copies, [2])],
  [(.aload_n 0, y0, []), (.aload_n 0, y0, []), (.aload_n 0, y0, []), (.getfield 35, y0, [10, 16]), (.iload_n 1, y0, []), (.aaload, y0, [2]), (.invokevirtual 355, yX10_many, [10, 1]), (.invokevirtual 205, yX10_ends, [10, 1]), (.ireturn, y0, [])]]
def pX10_load : List Nat := [0, 14, 18, 19, 27, 40, 44, 45, 53, 55, 77, 85, 92, 102, 111, 118, 121, 164, 174, 181, 184, 191, 195, 201, 206, 213, 228, 233, 242, 248, 249, 256, 278, 286, 293, 300, 313, 328]
theorem kX10_load : ab_cks cX10_load 10 (some .int) false 9 pX10_load (fun _ => true) 0 bX10_load = true := by decide +kernel
theorem eX10_load {d mc ms : Nat} {av : List ab_V} {σ : ab_H} {post : ab_O → ab_H → Prop} (hav : (av.all ab_n1 && Nat.ble av.length 9) = true) (h : ∀ At, ab_rule bX10_load d mc ms post At → At 0 (av.map some ++ List.replicate (9 - av.length) none) [] σ 0 0) : ab_call d mc ms yX10_load av σ post :=
  ab_entry (o := 10) (ini := false) (ret := (some .int)) (maxL := 9) (ab_w_in (i := 1825) (by decide +kernel)) (by decide +kernel) (by decide) (by decide +kernel) (by decide +kernel) rfl kX10_load hav h
def bX10_fault : List (List ab_I) := [[(.aload_n 0, y0, []), (.iconst 0, y0, []), (.putfield 62, y0, [10, 0]), (.aload_n 0, y0, []), (.getfield 13, y0, [10, 5]), (.ireturn, y0, [])]]
def pX10_fault : List Nat := [0, 10]
theorem kX10_fault : ab_cks cX10_fault 10 (some .int) false 1 pX10_fault (fun _ => true) 0 bX10_fault = true := by decide +kernel
theorem eX10_fault {d mc ms : Nat} {av : List ab_V} {σ : ab_H} {post : ab_O → ab_H → Prop} (hav : (av.all ab_n1 && Nat.ble av.length 1) = true) (h : ∀ At, ab_rule bX10_fault d mc ms post At → At 0 (av.map some ++ List.replicate (1 - av.length) none) [] σ 0 0) : ab_call d mc ms yX10_fault av σ post :=
  ab_entry (o := 10) (ini := false) (ret := (some .int)) (maxL := 1) (ab_w_in (i := 1834) (by decide +kernel)) (by decide +kernel) (by decide) (by decide +kernel) (by decide +kernel) rfl kX10_fault hav h
def bX10_logic : List (List ab_I) := [[(.aload_n 0, y0, []), (.iconst 0, y0, []), (.putfield 62, y0, [10, 0]), (.aload_n 0, y0, []), (.aload_n 0, y0, []), (.iload_n 2, y0, []), (.invokevirtual 334, yX10_isResult, [10, 1]), (.ifCond .eq 20, y0, [3])],
  [(.aload_n 0, y0, []), (.iload_n 3, y0, []), (.invokevirtual 334, yX10_isResult, [10, 1]), (.ifCond .eq 12, y0, [3])],
  [(.aload_n 0, y0, []), (.iload 4, y0, []), (.invokevirtual 334, yX10_isResult, [10, 1]), (.ifCond .ne 7, y0, [4])],
  [(.iconst 1, y0, []), (.goto 4, y0, [5])],
  [(.iconst 0, y0, [])],
  [(.iconst 1, y0, []), (.iconst 0, y0, []), (.invokevirtual 191, yX10_bad, [10, 3]), (.ifCond .ne 26, y0, [10])],
  [(.aload_n 0, y0, []), (.iload_n 1, y0, []), (.iconst 0, y0, []), (.iconst 3, y0, []), (.invokestatic 162, yX10_in, [3]), (.ifCond .ne 7, y0, [8])],
  [(.iconst 1, y0, []), (.goto 4, y0, [9])],
  [(.iconst 0, y0, [])],
  [(.iconst 2, y0, []), (.iconst 1, y0, []), (.invokevirtual 191, yX10_bad, [10, 3]), (.ifCond .eq 5, y0, [11])],
  [(.iconst 0, y0, []), (.ireturn, y0, [])],
  [(.aload_n 0, y0, []), (.iload_n 1, y0, []), (.aload_n 0, y0, []), (.getfield 35, y0, [10, 16]), (.iload_n 2, y0, []), (.aaload, y0, [2]), (.aload_n 0, y0, []), (.getfield 35, y0, [10, 16]), (.iload_n 3, y0, []), (.aaload, y0, [2]), (.aload_n 0, y0, []), (.getfield 35, y0, [10, 16]), (.iload 4, y0, []), (.aaload, y0, [2]), (.invokevirtual 272, yX10_joins, [10, 4]), (.aload_n 0, y0, []), (.aload_n 0, y0, []), (.getfield 35, y0, [10, 16]), (.iload 4, y0, []), (.aaload, y0, [2]), (.invokevirtual 355, yX10_many, [10, 1]), (.ireturn, y0, [])]]
def pX10_logic : List Nat := [0, 14, 22, 31, 35, 36, 44, 54, 58, 59, 67, 69, 105]
theorem kX10_logic : ab_cks cX10_logic 10 (some .int) false 5 pX10_logic (fun _ => true) 0 bX10_logic = true := by decide +kernel
theorem eX10_logic {d mc ms : Nat} {av : List ab_V} {σ : ab_H} {post : ab_O → ab_H → Prop} (hav : (av.all ab_n1 && Nat.ble av.length 5) = true) (h : ∀ At, ab_rule bX10_logic d mc ms post At → At 0 (av.map some ++ List.replicate (5 - av.length) none) [] σ 0 0) : ab_call d mc ms yX10_logic av σ post :=
  ab_entry (o := 10) (ini := false) (ret := (some .int)) (maxL := 5) (ab_w_in (i := 1838) (by decide +kernel)) (by decide +kernel) (by decide) (by decide +kernel) (by decide +kernel) rfl kX10_logic hav h
def bX10_turn : List (List ab_I) := [[(.aload_n 0, y0, []), (.iconst 0, y0, []), (.putfield 62, y0, [10, 0]), (.aload_n 0, y0, []), (.aload_n 0, y0, []), (.iload_n 1, y0, []), (.invokevirtual 334, yX10_isResult, [10, 1]), (.ifCond .ne 7, y0, [2])],
  [(.iconst 1, y0, []), (.goto 4, y0, [3])],
  [(.iconst 0, y0, [])],
  [(.iconst 1, y0, []), (.iconst 0, y0, []), (.invokevirtual 191, yX10_bad, [10, 3]), (.ifCond .eq 5, y0, [5])],
  [(.iconst 0, y0, []), (.ireturn, y0, [])],
  [(.aload_n 0, y0, []), (.aload_n 0, y0, []), (.getfield 35, y0, [10, 16]), (.iload_n 1, y0, []), (.aaload, y0, [2]), (.invokevirtual 283, yX10_turns, [10, 1]), (.aload_n 0, y0, []), (.aload_n 0, y0, []), (.getfield 35, y0, [10, 16]), (.iload_n 1, y0, []), (.aaload, y0, [2]), (.invokevirtual 355, yX10_many, [10, 1]), (.ireturn, y0, [])]]
def pX10_turn : List Nat := [0, 14, 18, 19, 27, 29, 50]
theorem kX10_turn : ab_cks cX10_turn 10 (some .int) false 2 pX10_turn (fun _ => true) 0 bX10_turn = true := by decide +kernel
theorem eX10_turn {d mc ms : Nat} {av : List ab_V} {σ : ab_H} {post : ab_O → ab_H → Prop} (hav : (av.all ab_n1 && Nat.ble av.length 2) = true) (h : ∀ At, ab_rule bX10_turn d mc ms post At → At 0 (av.map some ++ List.replicate (2 - av.length) none) [] σ 0 0) : ab_call d mc ms yX10_turn av σ post :=
  ab_entry (o := 10) (ini := false) (ret := (some .int)) (maxL := 2) (ab_w_in (i := 1842) (by decide +kernel)) (by decide +kernel) (by decide) (by decide +kernel) (by decide +kernel) rfl kX10_turn hav h
def bX10_bitmapsOfColumn : List (List ab_I) := [[(.iconst 0, y0, []), (.istore_n 2, y0, []), (.iconst 1, y0, []), (.istore_n 3, y0, [])],
  [(.iload_n 3, y0, []), (.aload_n 0, y0, []), (.getfield 22, y0, [10, 10]), (.iload_n 1, y0, []), (.aaload, y0, [2]), (.iconst 1, y0, []), (.iaload, y0, []), (.if_icmp .gt 18, y0, [3])],
  [(.iload_n 2, y0, []), (.aload_n 0, y0, []), (.iload_n 1, y0, []), (.iload_n 3, y0, []), (.invokevirtual 362, yX10_bitmapsOf, [10, 2]), (.iadd, y0, []), (.istore_n 2, y0, []), (.iinc 3 1, y0, []), (.goto (-24), y0, [1])],
  [(.iload_n 2, y0, []), (.ireturn, y0, [])]]
def pX10_bitmapsOfColumn : List Nat := [0, 4, 16, 31, 33]
theorem kX10_bitmapsOfColumn : ab_cks cX10_bitmapsOfColumn 10 (some .int) false 4 pX10_bitmapsOfColumn (fun _ => true) 0 bX10_bitmapsOfColumn = true := by decide +kernel
theorem eX10_bitmapsOfColumn {d mc ms : Nat} {av : List ab_V} {σ : ab_H} {post : ab_O → ab_H → Prop} (hav : (av.all ab_n1 && Nat.ble av.length 4) = true) (h : ∀ At, ab_rule bX10_bitmapsOfColumn d mc ms post At → At 0 (av.map some ++ List.replicate (4 - av.length) none) [] σ 0 0) : ab_call d mc ms yX10_bitmapsOfColumn av σ post :=
  ab_entry (o := 10) (ini := false) (ret := (some .int)) (maxL := 4) (ab_w_in (i := 1850) (by decide +kernel)) (by decide +kernel) (by decide) (by decide +kernel) (by decide +kernel) rfl kX10_bitmapsOfColumn hav h
def bX10_wordsOfColumn : List (List ab_I) := [[(.iconst 0, y0, []), (.istore_n 2, y0, []), (.iconst 1, y0, []), (.istore_n 3, y0, [])],
  [(.iload_n 3, y0, []), (.aload_n 0, y0, []), (.getfield 22, y0, [10, 10]), (.iload_n 1, y0, []), (.aaload, y0, [2]), (.iconst 1, y0, []), (.iaload, y0, []), (.if_icmp .gt 53, y0, [6])],
  [(.iconst 0, y0, []), (.istore 4, y0, [])],
  [(.iload 4, y0, []), (.aload_n 0, y0, []), (.iload_n 1, y0, []), (.iload_n 3, y0, []), (.invokevirtual 362, yX10_bitmapsOf, [10, 2]), (.if_icmp .ge 33, y0, [5])],
  [(.aload_n 0, y0, []), (.iload_n 1, y0, []), (.iload_n 3, y0, []), (.iload 4, y0, []), (.aload_n 0, y0, []), (.getfield 44, y0, [10, 27]), (.invokevirtual 292, yX10_laysBitmap, [10, 4]), (.iload_n 2, y0, []), (.aload_n 0, y0, []), (.aload_n 0, y0, []), (.getfield 44, y0, [10, 27]), (.iconst 1, y0, []), (.invokevirtual 280, yX10_words, [10, 2]), (.iadd, y0, []), (.istore_n 2, y0, []), (.iinc 4 1, y0, []), (.goto (-38), y0, [3])],
  [(.iinc 3 1, y0, []), (.goto (-59), y0, [1])],
  [(.iload_n 2, y0, []), (.ireturn, y0, [])]]
def pX10_wordsOfColumn : List Nat := [0, 4, 16, 19, 30, 60, 66, 68]
theorem kX10_wordsOfColumn : ab_cks cX10_wordsOfColumn 10 (some .int) false 5 pX10_wordsOfColumn (fun _ => true) 0 bX10_wordsOfColumn = true := by decide +kernel
theorem eX10_wordsOfColumn {d mc ms : Nat} {av : List ab_V} {σ : ab_H} {post : ab_O → ab_H → Prop} (hav : (av.all ab_n1 && Nat.ble av.length 5) = true) (h : ∀ At, ab_rule bX10_wordsOfColumn d mc ms post At → At 0 (av.map some ++ List.replicate (5 - av.length) none) [] σ 0 0) : ab_call d mc ms yX10_wordsOfColumn av σ post :=
  ab_entry (o := 10) (ini := false) (ret := (some .int)) (maxL := 5) (ab_w_in (i := 1858) (by decide +kernel)) (by decide +kernel) (by decide) (by decide +kernel) (by decide +kernel) rfl kX10_wordsOfColumn hav h
def bX10_told : List (List ab_I) := [[(.aload_n 0, y0, []), (.iconst 0, y0, []), (.putfield 62, y0, [10, 0]), (.aload_n 0, y0, []), (.iload_n 1, y0, []), (.iconst 0, y0, []), (.bipush 6, y0, []), (.invokestatic 162, yX10_in, [3]), (.ifCond .ne 7, y0, [2])],
  [(.iconst 1, y0, []), (.goto 4, y0, [3])],
  [(.iconst 0, y0, [])],
  [(.iconst 1, y0, []), (.iconst 1, y0, []), (.invokevirtual 191, yX10_bad, [10, 3]), (.ifCond .eq 5, y0, [5])],
  [(.iconst 0, y0, []), (.ireturn, y0, [])],
  [(.iconst 0, y0, []), (.istore_n 2, y0, []), (.iload_n 1, y0, []), (.tableswitch 97 0 5 #[38, 43, 48, 53, 58, 58], y0, [17, 6, 7, 8, 9, 10, 10])],
  [(.aload_n 0, y0, []), (.getfield 195, y0, [10, 12]), (.ireturn, y0, [])],
  [(.aload_n 0, y0, []), (.getfield 65, y0, [10, 13]), (.ireturn, y0, [])],
  [(.aload_n 0, y0, []), (.invokevirtual 219, yX10_alive, [10, 0]), (.ireturn, y0, [])],
  [(.aload_n 0, y0, []), (.invokevirtual 80, yX10_groups, [10, 0]), (.ireturn, y0, [])],
  [(.iconst 0, y0, []), (.istore_n 3, y0, [])],
  [(.iload_n 3, y0, []), (.aload_n 0, y0, []), (.getfield 195, y0, [10, 12]), (.if_icmp .ge 30, y0, [16])],
  [(.iload_n 2, y0, []), (.iload_n 1, y0, []), (.iconst 4, y0, []), (.if_icmp .ne 11, y0, [14])],
  [(.aload_n 0, y0, []), (.iload_n 3, y0, []), (.invokevirtual 365, yX10_bitmapsOfColumn, [10, 1]), (.goto 8, y0, [15])],
  [(.aload_n 0, y0, []), (.iload_n 3, y0, []), (.invokevirtual 368, yX10_wordsOfColumn, [10, 1])],
  [(.iadd, y0, []), (.istore_n 2, y0, []), (.iinc 3 1, y0, []), (.goto (-32), y0, [11])],
  [(.iload_n 2, y0, []), (.ireturn, y0, [])],
  [(.aload_n 0, y0, []), (.getfield 126, y0, [10, 2]), (.ireturn, y0, [])]]
def pX10_told : List Nat := [0, 16, 20, 21, 29, 31, 72, 77, 82, 87, 92, 94, 102, 108, 116, 121, 129, 131, 136]
theorem kX10_told : ab_cks cX10_told 10 (some .int) false 4 pX10_told (fun _ => true) 0 bX10_told = true := by decide +kernel
theorem eX10_told {d mc ms : Nat} {av : List ab_V} {σ : ab_H} {post : ab_O → ab_H → Prop} (hav : (av.all ab_n1 && Nat.ble av.length 4) = true) (h : ∀ At, ab_rule bX10_told d mc ms post At → At 0 (av.map some ++ List.replicate (4 - av.length) none) [] σ 0 0) : ab_call d mc ms yX10_told av σ post :=
  ab_entry (o := 10) (ini := false) (ret := (some .int)) (maxL := 4) (ab_w_in (i := 1846) (by decide +kernel)) (by decide +kernel) (by decide) (by decide +kernel) (by decide +kernel) rfl kX10_told hav h
def bX10_isColumn : List (List ab_I) := [[(.iload_n 1, y0, []), (.iconst 0, y0, []), (.aload_n 0, y0, []), (.getfield 195, y0, [10, 12]), (.iconst 1, y0, []), (.isub, y0, []), (.invokestatic 162, yX10_in, [3]), (.ireturn, y0, [1])]]
def pX10_isColumn : List Nat := [0, 12]
theorem kX10_isColumn : ab_cks cX10_isColumn 10 (some .boolean) false 2 pX10_isColumn (fun _ => true) 0 bX10_isColumn = true := by decide +kernel
theorem eX10_isColumn {d mc ms : Nat} {av : List ab_V} {σ : ab_H} {post : ab_O → ab_H → Prop} (hav : (av.all ab_n1 && Nat.ble av.length 2) = true) (h : ∀ At, ab_rule bX10_isColumn d mc ms post At → At 0 (av.map some ++ List.replicate (2 - av.length) none) [] σ 0 0) : ab_call d mc ms yX10_isColumn av σ post :=
  ab_entry (o := 10) (ini := false) (ret := (some .boolean)) (maxL := 2) (ab_w_in (i := 1866) (by decide +kernel)) (by decide +kernel) (by decide) (by decide +kernel) (by decide +kernel) rfl kX10_isColumn hav h
def bX10_columnOf : List (List ab_I) := [[(.aload_n 0, y0, []), (.iconst 0, y0, []), (.putfield 62, y0, [10, 0]), (.aload_n 0, y0, []), (.aload_n 0, y0, []), (.iload_n 1, y0, []), (.invokevirtual 371, yX10_isColumn, [10, 1]), (.ifCond .ne 7, y0, [2])],
  [(.iconst 1, y0, []), (.goto 4, y0, [3])],
  [(.iconst 0, y0, [])],
  [(.iconst 1, y0, []), (.iconst 0, y0, []), (.invokevirtual 191, yX10_bad, [10, 3]), (.ifCond .ne 26, y0, [8])],
  [(.aload_n 0, y0, []), (.iload_n 2, y0, []), (.iconst 0, y0, []), (.iconst 4, y0, []), (.invokestatic 162, yX10_in, [3]), (.ifCond .ne 7, y0, [6])],
  [(.iconst 1, y0, []), (.goto 4, y0, [7])],
  [(.iconst 0, y0, [])],
  [(.iconst 2, y0, []), (.iconst 1, y0, []), (.invokevirtual 191, yX10_bad, [10, 3]), (.ifCond .eq 5, y0, [9])],
  [(.iconst 0, y0, []), (.ireturn, y0, [])],
  [(.iload_n 2, y0, []), (.iconst 3, y0, []), (.if_icmp .ge 14, y0, [11])],
  [(.aload_n 0, y0, []), (.getfield 22, y0, [10, 10]), (.iload_n 1, y0, []), (.aaload, y0, [2]), (.iload_n 2, y0, []), (.iaload, y0, []), (.goto 21, y0, [14])],
  [(.iload_n 2, y0, []), (.iconst 3, y0, []), (.if_icmp .ne 11, y0, [13])],
  [(.aload_n 0, y0, []), (.iload_n 1, y0, []), (.invokevirtual 365, yX10_bitmapsOfColumn, [10, 1]), (.goto 8, y0, [14])],
  [(.aload_n 0, y0, []), (.iload_n 1, y0, []), (.invokevirtual 368, yX10_wordsOfColumn, [10, 1])],
  [(.ireturn, y0, [])]]
def pX10_columnOf : List Nat := [0, 14, 18, 19, 27, 37, 41, 42, 50, 52, 57, 68, 73, 81, 86, 87]
theorem kX10_columnOf : ab_cks cX10_columnOf 10 (some .int) false 3 pX10_columnOf (fun _ => true) 0 bX10_columnOf = true := by decide +kernel
theorem eX10_columnOf {d mc ms : Nat} {av : List ab_V} {σ : ab_H} {post : ab_O → ab_H → Prop} (hav : (av.all ab_n1 && Nat.ble av.length 3) = true) (h : ∀ At, ab_rule bX10_columnOf d mc ms post At → At 0 (av.map some ++ List.replicate (3 - av.length) none) [] σ 0 0) : ab_call d mc ms yX10_columnOf av σ post :=
  ab_entry (o := 10) (ini := false) (ret := (some .int)) (maxL := 3) (ab_w_in (i := 1862) (by decide +kernel)) (by decide +kernel) (by decide) (by decide +kernel) (by decide +kernel) rfl kX10_columnOf hav h
def bX10_isPart : List (List ab_I) := [[(.aload_n 0, y0, []), (.iload_n 1, y0, []), (.invokevirtual 371, yX10_isColumn, [10, 1]), (.ifCond .eq 23, y0, [3])],
  [(.iload_n 2, y0, []), (.iconst 1, y0, []), (.aload_n 0, y0, []), (.getfield 22, y0, [10, 10]), (.iload_n 1, y0, []), (.aaload, y0, [2]), (.iconst 1, y0, []), (.iaload, y0, []), (.invokestatic 162, yX10_in, [3]), (.ifCond .eq 7, y0, [3])],
  [(.iconst 1, y0, []), (.goto 4, y0, [4])],
  [(.iconst 0, y0, [])],
  [(.ireturn, y0, [1])]]
def pX10_isPart : List Nat := [0, 8, 24, 28, 29, 30]
theorem kX10_isPart : ab_cks cX10_isPart 10 (some .boolean) false 3 pX10_isPart (fun _ => true) 0 bX10_isPart = true := by decide +kernel
theorem eX10_isPart {d mc ms : Nat} {av : List ab_V} {σ : ab_H} {post : ab_O → ab_H → Prop} (hav : (av.all ab_n1 && Nat.ble av.length 3) = true) (h : ∀ At, ab_rule bX10_isPart d mc ms post At → At 0 (av.map some ++ List.replicate (3 - av.length) none) [] σ 0 0) : ab_call d mc ms yX10_isPart av σ post :=
  ab_entry (o := 10) (ini := false) (ret := (some .boolean)) (maxL := 3) (ab_w_in (i := 1874) (by decide +kernel)) (by decide +kernel) (by decide) (by decide +kernel) (by decide +kernel) rfl kX10_isPart hav h
def bX10_base : List (List ab_I) := [[(.aload_n 0, y0, []), (.iconst 0, y0, []), (.putfield 62, y0, [10, 0]), (.aload_n 0, y0, []), (.aload_n 0, y0, []), (.iload_n 1, y0, []), (.iload_n 2, y0, []), (.invokevirtual 374, yX10_isPart, [10, 2]), (.ifCond .ne 7, y0, [2])],
  [(.iconst 1, y0, []), (.goto 4, y0, [3])],
  [(.iconst 0, y0, [])],
  [(.iconst 1, y0, []), (.iconst 0, y0, []), (.invokevirtual 191, yX10_bad, [10, 3]), (.ifCond .eq 5, y0, [5])],
  [(.iconst 0, y0, []), (.ireturn, y0, [])],
  [(.aload_n 0, y0, []), (.iload_n 1, y0, []), (.iload_n 2, y0, []), (.invokevirtual 105, yX10_baseOf, [10, 2]), (.ireturn, y0, [])]]
def pX10_base : List Nat := [0, 15, 19, 20, 28, 30, 37]
theorem kX10_base : ab_cks cX10_base 10 (some .int) false 3 pX10_base (fun _ => true) 0 bX10_base = true := by decide +kernel
theorem eX10_base {d mc ms : Nat} {av : List ab_V} {σ : ab_H} {post : ab_O → ab_H → Prop} (hav : (av.all ab_n1 && Nat.ble av.length 3) = true) (h : ∀ At, ab_rule bX10_base d mc ms post At → At 0 (av.map some ++ List.replicate (3 - av.length) none) [] σ 0 0) : ab_call d mc ms yX10_base av σ post :=
  ab_entry (o := 10) (ini := false) (ret := (some .int)) (maxL := 3) (ab_w_in (i := 1870) (by decide +kernel)) (by decide +kernel) (by decide) (by decide +kernel) (by decide +kernel) rfl kX10_base hav h
def bX10_isBitmap : List (List ab_I) := [[(.aload_n 0, y0, []), (.iload_n 1, y0, []), (.iload_n 2, y0, []), (.invokevirtual 374, yX10_isPart, [10, 2]), (.ifCond .eq 23, y0, [3])],
  [(.iload_n 3, y0, []), (.iconst 0, y0, []), (.aload_n 0, y0, []), (.iload_n 1, y0, []), (.iload_n 2, y0, []), (.invokevirtual 362, yX10_bitmapsOf, [10, 2]), (.iconst 1, y0, []), (.isub, y0, []), (.invokestatic 162, yX10_in, [3]), (.ifCond .eq 7, y0, [3])],
  [(.iconst 1, y0, []), (.goto 4, y0, [4])],
  [(.iconst 0, y0, [])],
  [(.ireturn, y0, [1])]]
def pX10_isBitmap : List Nat := [0, 9, 25, 29, 30, 31]
theorem kX10_isBitmap : ab_cks cX10_isBitmap 10 (some .boolean) false 4 pX10_isBitmap (fun _ => true) 0 bX10_isBitmap = true := by decide +kernel
theorem eX10_isBitmap {d mc ms : Nat} {av : List ab_V} {σ : ab_H} {post : ab_O → ab_H → Prop} (hav : (av.all ab_n1 && Nat.ble av.length 4) = true) (h : ∀ At, ab_rule bX10_isBitmap d mc ms post At → At 0 (av.map some ++ List.replicate (4 - av.length) none) [] σ 0 0) : ab_call d mc ms yX10_isBitmap av σ post :=
  ab_entry (o := 10) (ini := false) (ret := (some .boolean)) (maxL := 4) (ab_w_in (i := 1882) (by decide +kernel)) (by decide +kernel) (by decide) (by decide +kernel) (by decide +kernel) rfl kX10_isBitmap hav h
def bX10_of : List (List ab_I) := [[(.iload_n 2, y0, []), (.ifCond .ne 9, y0, [2])],
  [(.aload_n 0, y0, []), (.aload_n 1, y0, []), (.invokevirtual 355, yX10_many, [10, 1]), (.ireturn, y0, [])],
  [(.iload_n 2, y0, []), (.iconst 4, y0, []), (.if_icmp .ge 12, y0, [4])],
  [(.aload_n 0, y0, []), (.aload_n 1, y0, []), (.iload_n 2, y0, []), (.invokevirtual 280, yX10_words, [10, 2]), (.goto 22, y0, [7])],
  [(.iload_n 2, y0, []), (.iconst 4, y0, []), (.if_icmp .ne 12, y0, [6])],
  [(.aload_n 0, y0, []), (.aload_n 1, y0, []), (.iconst 0, y0, []), (.invokevirtual 378, yX10_nextIn, [10, 2]), (.goto 8, y0, [7])],
  [(.aload_n 0, y0, []), (.aload_n 1, y0, []), (.invokevirtual 381, yX10_lastIn, [10, 1])],
  [(.ireturn, y0, [])]]
def pX10_of : List Nat := [0, 4, 10, 15, 24, 29, 38, 43, 44]
theorem kX10_of : ab_cks cX10_of 10 (some .int) false 3 pX10_of (fun _ => true) 0 bX10_of = true := by decide +kernel
theorem eX10_of {d mc ms : Nat} {av : List ab_V} {σ : ab_H} {post : ab_O → ab_H → Prop} (hav : (av.all ab_n1 && Nat.ble av.length 3) = true) (h : ∀ At, ab_rule bX10_of d mc ms post At → At 0 (av.map some ++ List.replicate (3 - av.length) none) [] σ 0 0) : ab_call d mc ms yX10_of av σ post :=
  ab_entry (o := 10) (ini := false) (ret := (some .int)) (maxL := 3) (ab_w_in (i := 1886) (by decide +kernel)) (by decide +kernel) (by decide) (by decide +kernel) (by decide +kernel) rfl kX10_of hav h
def bX10_index : List (List ab_I) := [[(.aload_n 0, y0, []), (.iconst 0, y0, []), (.putfield 62, y0, [10, 0]), (.aload_n 0, y0, []), (.aload_n 0, y0, []), (.iload_n 1, y0, []), (.iload_n 2, y0, []), (.iload_n 3, y0, []), (.invokevirtual 384, yX10_isBitmap, [10, 3]), (.ifCond .ne 7, y0, [2])],
  [(.iconst 1, y0, []), (.goto 4, y0, [3])],
  [(.iconst 0, y0, [])],
  [(.iconst 1, y0, []), (.iconst 0, y0, []), (.invokevirtual 191, yX10_bad, [10, 3]), (.ifCond .ne 27, y0, [8])],
  [(.aload_n 0, y0, []), (.iload 4, y0, []), (.iconst 0, y0, []), (.iconst 5, y0, []), (.invokestatic 162, yX10_in, [3]), (.ifCond .ne 7, y0, [6])],
  [(.iconst 1, y0, []), (.goto 4, y0, [7])],
  [(.iconst 0, y0, [])],
  [(.iconst 2, y0, []), (.iconst 1, y0, []), (.invokevirtual 191, yX10_bad, [10, 3]), (.ifCond .eq 5, y0, [9])],
  [(.iconst 0, y0, []), (.ireturn, y0, [])],
  [(.aload_n 0, y0, []), (.iload_n 1, y0, []), (.iload_n 2, y0, []), (.iload_n 3, y0, []), (.aload_n 0, y0, []), (.getfield 44, y0, [10, 27]), (.invokevirtual 292, yX10_laysBitmap, [10, 4]), (.aload_n 0, y0, []), (.aload_n 0, y0, []), (.getfield 44, y0, [10, 27]), (.iload 4, y0, []), (.invokevirtual 387, yX10_of, [10, 2]), (.ireturn, y0, [])]]
def pX10_index : List Nat := [0, 16, 20, 21, 29, 40, 44, 45, 53, 55, 77]
theorem kX10_index : ab_cks cX10_index 10 (some .int) false 5 pX10_index (fun _ => true) 0 bX10_index = true := by decide +kernel
theorem eX10_index {d mc ms : Nat} {av : List ab_V} {σ : ab_H} {post : ab_O → ab_H → Prop} (hav : (av.all ab_n1 && Nat.ble av.length 5) = true) (h : ∀ At, ab_rule bX10_index d mc ms post At → At 0 (av.map some ++ List.replicate (5 - av.length) none) [] σ 0 0) : ab_call d mc ms yX10_index av σ post :=
  ab_entry (o := 10) (ini := false) (ret := (some .int)) (maxL := 5) (ab_w_in (i := 1878) (by decide +kernel)) (by decide +kernel) (by decide) (by decide +kernel) (by decide +kernel) rfl kX10_index hav h
def bX10_indexWord : List (List ab_I) := [[(.aload_n 0, y0, []), (.iconst 0, y0, []), (.putfield 62, y0, [10, 0]), (.aload_n 0, y0, []), (.iload_n 1, y0, []), (.iload_n 2, y0, []), (.iload_n 3, y0, []), (.invokevirtual 384, yX10_isBitmap, [10, 3]), (.istore 5, y0, []), (.iload 5, y0, []), (.ifCond .eq 14, y0, [2])],
  [(.aload_n 0, y0, []), (.iload_n 1, y0, []), (.iload_n 2, y0, []), (.iload_n 3, y0, []), (.aload_n 0, y0, []), (.getfield 44, y0, [10, 27]), (.invokevirtual 292, yX10_laysBitmap, [10, 4])],
  [(.aload_n 0, y0, []), (.iload 5, y0, []), (.ifCond .eq 23, y0, [4])],
  [(.iload 4, y0, []), (.iconst 0, y0, []), (.aload_n 0, y0, []), (.aload_n 0, y0, []), (.getfield 44, y0, [10, 27]), (.iconst 1, y0, []), (.invokevirtual 280, yX10_words, [10, 2]), (.iconst 1, y0, []), (.isub, y0, []), (.invokestatic 162, yX10_in, [3]), (.ifCond .ne 7, y0, [5])],
  [(.iconst 1, y0, []), (.goto 4, y0, [6])],
  [(.iconst 0, y0, [])],
  [(.iconst 1, y0, []), (.iconst 0, y0, []), (.invokevirtual 191, yX10_bad, [10, 3]), (.ifCond .eq 5, y0, [8])],
  [(.iconst 0, y0, []), (.ireturn, y0, [])],
  [(.aload_n 0, y0, []), (.aload_n 0, y0, []), (.getfield 44, y0, [10, 27]), (.iload 4, y0, []), (.invokevirtual 390, yX10_wordAt, [10, 2]), (.ireturn, y0, [])]]
def pX10_indexWord : List Nat := [0, 19, 30, 36, 56, 60, 61, 69, 71, 82]
theorem kX10_indexWord : ab_cks cX10_indexWord 10 (some .int) false 6 pX10_indexWord (fun _ => true) 0 bX10_indexWord = true := by decide +kernel
theorem eX10_indexWord {d mc ms : Nat} {av : List ab_V} {σ : ab_H} {post : ab_O → ab_H → Prop} (hav : (av.all ab_n1 && Nat.ble av.length 6) = true) (h : ∀ At, ab_rule bX10_indexWord d mc ms post At → At 0 (av.map some ++ List.replicate (6 - av.length) none) [] σ 0 0) : ab_call d mc ms yX10_indexWord av σ post :=
  ab_entry (o := 10) (ini := false) (ret := (some .int)) (maxL := 6) (ab_w_in (i := 1898) (by decide +kernel)) (by decide +kernel) (by decide) (by decide +kernel) (by decide +kernel) rfl kX10_indexWord hav h
def bX10_runs : List (List ab_I) := [[(.iconst 0, y0, []), (.istore_n 3, y0, []), (.iconst 0, y0, []), (.istore 4, y0, []), (.iconst 0, y0, []), (.istore 5, y0, []), (.iconst 0, y0, []), (.istore 6, y0, [])],
  [(.iload 6, y0, []), (.aload_n 0, y0, []), (.getfield 65, y0, [10, 13]), (.if_icmp .ge 51, y0, [9])],
  [(.aload_n 1, y0, []), (.iload 6, y0, []), (.invokestatic 91, yX10_has, [2]), (.ifCond .eq 10, y0, [4])],
  [(.iload 5, y0, []), (.iconst 1, y0, []), (.iadd, y0, []), (.goto 4, y0, [5])],
  [(.iconst 0, y0, [])],
  [(.istore 5, y0, []), (.iload_n 3, y0, []), (.iload 5, y0, []), (.iconst 1, y0, []), (.if_icmp .ne 7, y0, [7])],
  [(.iconst 1, y0, []), (.goto 4, y0, [8])],
  [(.iconst 0, y0, [])],
  [(.iadd, y0, []), (.istore_n 3, y0, []), (.iload 4, y0, []), (.iload 5, y0, []), (.invokestatic 216, yX10_more, [2]), (.istore 4, y0, []), (.iinc 6 1, y0, []), (.goto (-54), y0, [1])],
  [(.iload_n 2, y0, []), (.bipush 6, y0, []), (.if_icmp .ne 7, y0, [11])],
  [(.iload_n 3, y0, []), (.goto 5, y0, [12])],
  [(.iload 4, y0, [])],
  [(.ireturn, y0, [])]]
def pX10_runs : List Nat := [0, 11, 20, 29, 36, 37, 46, 50, 51, 68, 74, 78, 80, 81]
theorem kX10_runs : ab_cks cX10_runs 10 (some .int) false 7 pX10_runs (fun _ => true) 0 bX10_runs = true := by decide +kernel
theorem eX10_runs {d mc ms : Nat} {av : List ab_V} {σ : ab_H} {post : ab_O → ab_H → Prop} (hav : (av.all ab_n1 && Nat.ble av.length 7) = true) (h : ∀ At, ab_rule bX10_runs d mc ms post At → At 0 (av.map some ++ List.replicate (7 - av.length) none) [] σ 0 0) : ab_call d mc ms yX10_runs av σ post :=
  ab_entry (o := 10) (ini := false) (ret := (some .int)) (maxL := 7) (ab_w_in (i := 1918) (by decide +kernel)) (by decide +kernel) (by decide) (by decide +kernel) (by decide +kernel) rfl kX10_runs hav h
def bX10_result : List (List ab_I) := [[(.aload_n 0, y0, []), (.iconst 0, y0, []), (.putfield 62, y0, [10, 0]), (.aload_n 0, y0, []), (.aload_n 0, y0, []), (.iload_n 1, y0, []), (.invokevirtual 393, yX10_isSet, [10, 1]), (.ifCond .ne 7, y0, [2])],
  [(.iconst 1, y0, []), (.goto 4, y0, [3])],
  [(.iconst 0, y0, [])],
  [(.iconst 1, y0, []), (.iconst 0, y0, []), (.invokevirtual 191, yX10_bad, [10, 3]), (.ifCond .ne 27, y0, [8])],
  [(.aload_n 0, y0, []), (.iload_n 2, y0, []), (.iconst 0, y0, []), (.bipush 7, y0, []), (.invokestatic 162, yX10_in, [3]), (.ifCond .ne 7, y0, [6])],
  [(.iconst 1, y0, []), (.goto 4, y0, [7])],
  [(.iconst 0, y0, [])],
  [(.iconst 2, y0, []), (.iconst 1, y0, []), (.invokevirtual 191, yX10_bad, [10, 3]), (.ifCond .eq 5, y0, [9])],
  [(.iconst 0, y0, []), (.ireturn, y0, [])],
  [(.iload_n 2, y0, []), (.bipush 6, y0, []), (.if_icmp .ge 16, y0, [11])],
  [(.aload_n 0, y0, []), (.aload_n 0, y0, []), (.iload_n 1, y0, []), (.invokevirtual 396, yX10_bitmap, [10, 1]), (.iload_n 2, y0, []), (.invokevirtual 387, yX10_of, [10, 2]), (.goto 13, y0, [12])],
  [(.aload_n 0, y0, []), (.aload_n 0, y0, []), (.iload_n 1, y0, []), (.invokevirtual 396, yX10_bitmap, [10, 1]), (.iload_n 2, y0, []), (.invokevirtual 400, yX10_runs, [10, 2])],
  [(.ireturn, y0, [])]]
def pX10_result : List Nat := [0, 14, 18, 19, 27, 38, 42, 43, 51, 53, 59, 72, 82, 83]
theorem kX10_result : ab_cks cX10_result 10 (some .int) false 3 pX10_result (fun _ => true) 0 bX10_result = true := by decide +kernel
theorem eX10_result {d mc ms : Nat} {av : List ab_V} {σ : ab_H} {post : ab_O → ab_H → Prop} (hav : (av.all ab_n1 && Nat.ble av.length 3) = true) (h : ∀ At, ab_rule bX10_result d mc ms post At → At 0 (av.map some ++ List.replicate (3 - av.length) none) [] σ 0 0) : ab_call d mc ms yX10_result av σ post :=
  ab_entry (o := 10) (ini := false) (ret := (some .int)) (maxL := 3) (ab_w_in (i := 1906) (by decide +kernel)) (by decide +kernel) (by decide) (by decide +kernel) (by decide +kernel) rfl kX10_result hav h
def bX10_word : List (List ab_I) := [[(.aload_n 0, y0, []), (.iconst 0, y0, []), (.putfield 62, y0, [10, 0]), (.aload_n 0, y0, []), (.aload_n 0, y0, []), (.iload_n 1, y0, []), (.invokevirtual 393, yX10_isSet, [10, 1]), (.ifCond .ne 7, y0, [2])],
  [(.iconst 1, y0, []), (.goto 4, y0, [3])],
  [(.iconst 0, y0, [])],
  [(.iconst 1, y0, []), (.iconst 0, y0, []), (.invokevirtual 191, yX10_bad, [10, 3]), (.ifCond .eq 5, y0, [5])],
  [(.iconst 0, y0, []), (.ireturn, y0, [])],
  [(.aload_n 0, y0, []), (.iload_n 1, y0, []), (.invokevirtual 396, yX10_bitmap, [10, 1]), (.astore_n 3, y0, []), (.aload_n 0, y0, []), (.iload_n 2, y0, []), (.iconst 0, y0, []), (.aload_n 0, y0, []), (.aload_n 3, y0, []), (.iconst 1, y0, []), (.invokevirtual 280, yX10_words, [10, 2]), (.iconst 1, y0, []), (.isub, y0, []), (.invokestatic 162, yX10_in, [3]), (.ifCond .ne 7, y0, [7])],
  [(.iconst 1, y0, []), (.goto 4, y0, [8])],
  [(.iconst 0, y0, [])],
  [(.iconst 1, y0, []), (.iconst 0, y0, []), (.invokevirtual 191, yX10_bad, [10, 3]), (.ifCond .eq 5, y0, [10])],
  [(.iconst 0, y0, []), (.ireturn, y0, [])],
  [(.aload_n 0, y0, []), (.aload_n 3, y0, []), (.iload_n 2, y0, []), (.invokevirtual 390, yX10_wordAt, [10, 2]), (.ireturn, y0, [])]]
def pX10_word : List Nat := [0, 14, 18, 19, 27, 29, 52, 56, 57, 65, 67, 74]
theorem kX10_word : ab_cks cX10_word 10 (some .int) false 4 pX10_word (fun _ => true) 0 bX10_word = true := by decide +kernel
theorem eX10_word {d mc ms : Nat} {av : List ab_V} {σ : ab_H} {post : ab_O → ab_H → Prop} (hav : (av.all ab_n1 && Nat.ble av.length 4) = true) (h : ∀ At, ab_rule bX10_word d mc ms post At → At 0 (av.map some ++ List.replicate (4 - av.length) none) [] σ 0 0) : ab_call d mc ms yX10_word av σ post :=
  ab_entry (o := 10) (ini := false) (ret := (some .int)) (maxL := 4) (ab_w_in (i := 1922) (by decide +kernel)) (by decide +kernel) (by decide) (by decide +kernel) (by decide +kernel) rfl kX10_word hav h
def bX10_has_ : List (List ab_I) := [[(.aload_n 0, y0, []), (.iconst 0, y0, []), (.putfield 62, y0, [10, 0]), (.aload_n 0, y0, []), (.aload_n 0, y0, []), (.iload_n 1, y0, []), (.invokevirtual 393, yX10_isSet, [10, 1]), (.ifCond .eq 17, y0, [2])],
  [(.iload_n 2, y0, []), (.iconst 0, y0, []), (.aload_n 0, y0, []), (.getfield 65, y0, [10, 13]), (.iconst 1, y0, []), (.isub, y0, []), (.invokestatic 162, yX10_in, [3]), (.ifCond .ne 7, y0, [3])],
  [(.iconst 1, y0, []), (.goto 4, y0, [4])],
  [(.iconst 0, y0, [])],
  [(.iconst 1, y0, []), (.iconst 0, y0, []), (.invokevirtual 191, yX10_bad, [10, 3]), (.ifCond .eq 5, y0, [6])],
  [(.iconst 0, y0, []), (.ireturn, y0, [1])],
  [(.aload_n 0, y0, []), (.iload_n 1, y0, []), (.invokevirtual 396, yX10_bitmap, [10, 1]), (.iload_n 2, y0, []), (.invokestatic 91, yX10_has, [2]), (.ireturn, y0, [1])]]
def pX10_has_ : List Nat := [0, 14, 28, 32, 33, 41, 43, 53]
theorem kX10_has_ : ab_cks cX10_has_ 10 (some .boolean) false 3 pX10_has_ (fun _ => true) 0 bX10_has_ = true := by decide +kernel
theorem eX10_has_ {d mc ms : Nat} {av : List ab_V} {σ : ab_H} {post : ab_O → ab_H → Prop} (hav : (av.all ab_n1 && Nat.ble av.length 3) = true) (h : ∀ At, ab_rule bX10_has_ d mc ms post At → At 0 (av.map some ++ List.replicate (3 - av.length) none) [] σ 0 0) : ab_call d mc ms yX10_has_ av σ post :=
  ab_entry (o := 10) (ini := false) (ret := (some .boolean)) (maxL := 3) (ab_w_in (i := 1926) (by decide +kernel)) (by decide +kernel) (by decide) (by decide +kernel) (by decide +kernel) rfl kX10_has_ hav h
def bX10_rank : List (List ab_I) := [[(.aload_n 0, y0, []), (.iconst 0, y0, []), (.putfield 62, y0, [10, 0]), (.aload_n 0, y0, []), (.aload_n 0, y0, []), (.iload_n 1, y0, []), (.invokevirtual 393, yX10_isSet, [10, 1]), (.ifCond .ne 7, y0, [2])],
  [(.iconst 1, y0, []), (.goto 4, y0, [3])],
  [(.iconst 0, y0, [])],
  [(.iconst 1, y0, []), (.iconst 0, y0, []), (.invokevirtual 191, yX10_bad, [10, 3]), (.ifCond .ne 29, y0, [8])],
  [(.aload_n 0, y0, []), (.iload_n 2, y0, []), (.iconst 0, y0, []), (.aload_n 0, y0, []), (.getfield 65, y0, [10, 13]), (.invokestatic 162, yX10_in, [3]), (.ifCond .ne 7, y0, [6])],
  [(.iconst 1, y0, []), (.goto 4, y0, [7])],
  [(.iconst 0, y0, [])],
  [(.iconst 2, y0, []), (.iconst 1, y0, []), (.invokevirtual 191, yX10_bad, [10, 3]), (.ifCond .eq 5, y0, [9])],
  [(.iconst 0, y0, []), (.ireturn, y0, [])],
  [(.aload_n 0, y0, []), (.iload_n 1, y0, []), (.invokevirtual 396, yX10_bitmap, [10, 1]), (.astore_n 3, y0, []), (.iconst 0, y0, []), (.istore 4, y0, []), (.iconst 0, y0, []), (.istore 5, y0, [])],
  [(.iload 5, y0, []), (.iload_n 2, y0, []), (.if_icmp .ge 28, y0, [15])],
  [(.iload 4, y0, []), (.aload_n 3, y0, []), (.iload 5, y0, []), (.invokestatic 91, yX10_has, [2]), (.ifCond .eq 7, y0, [13])],
  [(.iconst 1, y0, []), (.goto 4, y0, [14])],
  [(.iconst 0, y0, [])],
  [(.iadd, y0, []), (.istore 4, y0, []), (.iinc 5 1, y0, []), (.goto (-28), y0, [10])],
  [(.iload 4, y0, []), (.ireturn, y0, [])]]
def pX10_rank : List Nat := [0, 14, 18, 19, 27, 40, 44, 45, 53, 55, 67, 73, 84, 88, 89, 98, 101]
theorem kX10_rank : ab_cks cX10_rank 10 (some .int) false 6 pX10_rank (fun _ => true) 0 bX10_rank = true := by decide +kernel
theorem eX10_rank {d mc ms : Nat} {av : List ab_V} {σ : ab_H} {post : ab_O → ab_H → Prop} (hav : (av.all ab_n1 && Nat.ble av.length 6) = true) (h : ∀ At, ab_rule bX10_rank d mc ms post At → At 0 (av.map some ++ List.replicate (6 - av.length) none) [] σ 0 0) : ab_call d mc ms yX10_rank av σ post :=
  ab_entry (o := 10) (ini := false) (ret := (some .int)) (maxL := 6) (ab_w_in (i := 1930) (by decide +kernel)) (by decide +kernel) (by decide) (by decide +kernel) (by decide +kernel) rfl kX10_rank hav h
def bX10_select : List (List ab_I) := [[(.aload_n 0, y0, []), (.iconst 0, y0, []), (.putfield 62, y0, [10, 0]), (.aload_n 0, y0, []), (.aload_n 0, y0, []), (.iload_n 1, y0, []), (.invokevirtual 393, yX10_isSet, [10, 1]), (.ifCond .ne 7, y0, [2])],
  [(.iconst 1, y0, []), (.goto 4, y0, [3])],
  [(.iconst 0, y0, [])],
  [(.iconst 1, y0, []), (.iconst 0, y0, []), (.invokevirtual 191, yX10_bad, [10, 3]), (.ifCond .eq 5, y0, [5])],
  [(.iconst 0, y0, []), (.ireturn, y0, [])],
  [(.aload_n 0, y0, []), (.iload_n 1, y0, []), (.invokevirtual 396, yX10_bitmap, [10, 1]), (.astore_n 3, y0, []), (.iload_n 2, y0, []), (.ifCond .ge 5, y0, [7])],
  [(.iconst (-1), y0, []), (.ireturn, y0, [])],
  [(.aload_n 0, y0, []), (.aload_n 3, y0, []), (.iconst 0, y0, []), (.invokevirtual 378, yX10_nextIn, [10, 2]), (.istore 4, y0, []), (.iconst 0, y0, []), (.istore 5, y0, [])],
  [(.iload 5, y0, []), (.iload_n 2, y0, []), (.if_icmp .ge 26, y0, [11])],
  [(.iload 4, y0, []), (.iconst (-1), y0, []), (.if_icmp .eq 20, y0, [11])],
  [(.aload_n 0, y0, []), (.aload_n 3, y0, []), (.iload 4, y0, []), (.iconst 1, y0, []), (.iadd, y0, []), (.invokevirtual 378, yX10_nextIn, [10, 2]), (.istore 4, y0, []), (.iinc 5 1, y0, []), (.goto (-26), y0, [8])],
  [(.iload 4, y0, []), (.ireturn, y0, [])]]
def pX10_select : List Nat := [0, 14, 18, 19, 27, 29, 39, 41, 52, 58, 64, 81, 84]
theorem kX10_select : ab_cks cX10_select 10 (some .int) false 6 pX10_select (fun _ => true) 0 bX10_select = true := by decide +kernel
theorem eX10_select {d mc ms : Nat} {av : List ab_V} {σ : ab_H} {post : ab_O → ab_H → Prop} (hav : (av.all ab_n1 && Nat.ble av.length 6) = true) (h : ∀ At, ab_rule bX10_select d mc ms post At → At 0 (av.map some ++ List.replicate (6 - av.length) none) [] σ 0 0) : ab_call d mc ms yX10_select av σ post :=
  ab_entry (o := 10) (ini := false) (ret := (some .int)) (maxL := 6) (ab_w_in (i := 1934) (by decide +kernel)) (by decide +kernel) (by decide) (by decide +kernel) (by decide +kernel) rfl kX10_select hav h
def bX10_next : List (List ab_I) := [[(.aload_n 0, y0, []), (.iconst 0, y0, []), (.putfield 62, y0, [10, 0]), (.aload_n 0, y0, []), (.aload_n 0, y0, []), (.iload_n 1, y0, []), (.invokevirtual 393, yX10_isSet, [10, 1]), (.ifCond .ne 7, y0, [2])],
  [(.iconst 1, y0, []), (.goto 4, y0, [3])],
  [(.iconst 0, y0, [])],
  [(.iconst 1, y0, []), (.iconst 0, y0, []), (.invokevirtual 191, yX10_bad, [10, 3]), (.ifCond .ne 29, y0, [8])],
  [(.aload_n 0, y0, []), (.iload_n 2, y0, []), (.iconst 0, y0, []), (.aload_n 0, y0, []), (.getfield 65, y0, [10, 13]), (.invokestatic 162, yX10_in, [3]), (.ifCond .ne 7, y0, [6])],
  [(.iconst 1, y0, []), (.goto 4, y0, [7])],
  [(.iconst 0, y0, [])],
  [(.iconst 2, y0, []), (.iconst 1, y0, []), (.invokevirtual 191, yX10_bad, [10, 3]), (.ifCond .eq 5, y0, [9])],
  [(.iconst 0, y0, []), (.ireturn, y0, [])],
  [(.aload_n 0, y0, []), (.aload_n 0, y0, []), (.iload_n 1, y0, []), (.invokevirtual 396, yX10_bitmap, [10, 1]), (.iload_n 2, y0, []), (.invokevirtual 378, yX10_nextIn, [10, 2]), (.ireturn, y0, [])]]
def pX10_next : List Nat := [0, 14, 18, 19, 27, 40, 44, 45, 53, 55, 66]
theorem kX10_next : ab_cks cX10_next 10 (some .int) false 3 pX10_next (fun _ => true) 0 bX10_next = true := by decide +kernel
theorem eX10_next {d mc ms : Nat} {av : List ab_V} {σ : ab_H} {post : ab_O → ab_H → Prop} (hav : (av.all ab_n1 && Nat.ble av.length 3) = true) (h : ∀ At, ab_rule bX10_next d mc ms post At → At 0 (av.map some ++ List.replicate (3 - av.length) none) [] σ 0 0) : ab_call d mc ms yX10_next av σ post :=
  ab_entry (o := 10) (ini := false) (ret := (some .int)) (maxL := 3) (ab_w_in (i := 1938) (by decide +kernel)) (by decide +kernel) (by decide) (by decide +kernel) (by decide +kernel) rfl kX10_next hav h
def bX10_would : List (List ab_I) := [[(.aload_n 0, y0, []), (.iconst 0, y0, []), (.putfield 62, y0, [10, 0]), (.aload_n 0, y0, []), (.aload_n 0, y0, []), (.iload_n 2, y0, []), (.invokevirtual 393, yX10_isSet, [10, 1]), (.ifCond .eq 11, y0, [2])],
  [(.aload_n 0, y0, []), (.iload_n 3, y0, []), (.invokevirtual 393, yX10_isSet, [10, 1]), (.ifCond .ne 7, y0, [3])],
  [(.iconst 1, y0, []), (.goto 4, y0, [4])],
  [(.iconst 0, y0, [])],
  [(.iconst 1, y0, []), (.iconst 0, y0, []), (.invokevirtual 191, yX10_bad, [10, 3]), (.ifCond .ne 36, y0, [10])],
  [(.aload_n 0, y0, []), (.iload_n 1, y0, []), (.iconst 0, y0, []), (.iconst 3, y0, []), (.invokestatic 162, yX10_in, [3]), (.ifCond .eq 13, y0, [7])],
  [(.iload 4, y0, []), (.iconst 0, y0, []), (.iconst 2, y0, []), (.invokestatic 162, yX10_in, [3]), (.ifCond .ne 7, y0, [8])],
  [(.iconst 1, y0, []), (.goto 4, y0, [9])],
  [(.iconst 0, y0, [])],
  [(.iconst 2, y0, []), (.iconst 1, y0, []), (.invokevirtual 191, yX10_bad, [10, 3]), (.ifCond .eq 5, y0, [11])],
  [(.iconst 0, y0, []), (.ireturn, y0, [])],
  [(.aload_n 0, y0, []), (.iload_n 2, y0, []), (.invokevirtual 396, yX10_bitmap, [10, 1]), (.astore 5, y0, []), (.aload_n 0, y0, []), (.iload_n 3, y0, []), (.invokevirtual 396, yX10_bitmap, [10, 1]), (.astore 6, y0, []), (.iload 4, y0, []), (.iconst 2, y0, []), (.if_icmp .ne 12, y0, [13])],
  [(.aload_n 0, y0, []), (.aload 5, y0, []), (.aload 6, y0, []), (.invokevirtual 268, yX10_stepsOf, [10, 2]), (.ireturn, y0, [])],
  [(.aload_n 0, y0, []), (.iload_n 1, y0, []), (.aload 5, y0, []), (.aload 6, y0, []), (.aload_n 0, y0, []), (.getfield 44, y0, [10, 27]), (.invokevirtual 272, yX10_joins, [10, 4]), (.iload 4, y0, []), (.ifCond .ne 14, y0, [15])],
  [(.aload_n 0, y0, []), (.aload_n 0, y0, []), (.getfield 44, y0, [10, 27]), (.invokevirtual 355, yX10_many, [10, 1]), (.goto 12, y0, [16])],
  [(.aload_n 0, y0, []), (.aload_n 0, y0, []), (.getfield 44, y0, [10, 27]), (.iconst 1, y0, []), (.invokevirtual 280, yX10_words, [10, 2])],
  [(.ireturn, y0, [])]]
def pX10_would : List Nat := [0, 14, 22, 26, 27, 35, 45, 55, 59, 60, 68, 70, 90, 99, 117, 128, 137, 138]
theorem kX10_would : ab_cks cX10_would 10 (some .int) false 7 pX10_would (fun _ => true) 0 bX10_would = true := by decide +kernel
theorem eX10_would {d mc ms : Nat} {av : List ab_V} {σ : ab_H} {post : ab_O → ab_H → Prop} (hav : (av.all ab_n1 && Nat.ble av.length 7) = true) (h : ∀ At, ab_rule bX10_would d mc ms post At → At 0 (av.map some ++ List.replicate (7 - av.length) none) [] σ 0 0) : ab_call d mc ms yX10_would av σ post :=
  ab_entry (o := 10) (ini := false) (ret := (some .int)) (maxL := 7) (ab_w_in (i := 1942) (by decide +kernel)) (by decide +kernel) (by decide) (by decide +kernel) (by decide +kernel) rfl kX10_would hav h
def bX10_within : List (List ab_I) := [[(.aload_n 0, y0, []), (.iconst 0, y0, []), (.putfield 62, y0, [10, 0]), (.aload_n 0, y0, []), (.aload_n 0, y0, []), (.iload_n 1, y0, []), (.invokevirtual 393, yX10_isSet, [10, 1]), (.ifCond .eq 11, y0, [2])],
  [(.aload_n 0, y0, []), (.iload_n 2, y0, []), (.invokevirtual 393, yX10_isSet, [10, 1]), (.ifCond .ne 7, y0, [3])],
  [(.iconst 1, y0, []), (.goto 4, y0, [4])],
  [(.iconst 0, y0, [])],
  [(.iconst 1, y0, []), (.iconst 0, y0, []), (.invokevirtual 191, yX10_bad, [10, 3]), (.ifCond .eq 5, y0, [6])],
  [(.iconst 0, y0, []), (.ireturn, y0, [1])],
  [(.aload_n 0, y0, []), (.iconst 3, y0, []), (.aload_n 0, y0, []), (.iload_n 1, y0, []), (.invokevirtual 396, yX10_bitmap, [10, 1]), (.aload_n 0, y0, []), (.iload_n 2, y0, []), (.invokevirtual 396, yX10_bitmap, [10, 1]), (.aload_n 0, y0, []), (.getfield 44, y0, [10, 27]), (.invokevirtual 272, yX10_joins, [10, 4]), (.aload_n 0, y0, []), (.aload_n 0, y0, []), (.getfield 44, y0, [10, 27]), (.invokevirtual 355, yX10_many, [10, 1]), (.ifCond .ne 7, y0, [8])],
  [(.iconst 1, y0, []), (.goto 4, y0, [9])],
  [(.iconst 0, y0, [])],
  [(.ireturn, y0, [1])]]
def pX10_within : List Nat := [0, 14, 22, 26, 27, 35, 37, 67, 71, 72, 73]
theorem kX10_within : ab_cks cX10_within 10 (some .boolean) false 3 pX10_within (fun _ => true) 0 bX10_within = true := by decide +kernel
theorem eX10_within {d mc ms : Nat} {av : List ab_V} {σ : ab_H} {post : ab_O → ab_H → Prop} (hav : (av.all ab_n1 && Nat.ble av.length 3) = true) (h : ∀ At, ab_rule bX10_within d mc ms post At → At 0 (av.map some ++ List.replicate (3 - av.length) none) [] σ 0 0) : ab_call d mc ms yX10_within av σ post :=
  ab_entry (o := 10) (ini := false) (ret := (some .boolean)) (maxL := 3) (ab_w_in (i := 1946) (by decide +kernel)) (by decide +kernel) (by decide) (by decide +kernel) (by decide +kernel) rfl kX10_within hav h
def bX10_cost : List (List ab_I) := [[(.aload_n 0, y0, []), (.iconst 0, y0, []), (.putfield 62, y0, [10, 0]), (.aload_n 0, y0, []), (.iload_n 1, y0, []), (.iconst 0, y0, []), (.iconst 2, y0, []), (.invokestatic 162, yX10_in, [3]), (.ifCond .ne 7, y0, [2])],
  [(.iconst 1, y0, []), (.goto 4, y0, [3])],
  [(.iconst 0, y0, [])],
  [(.iconst 1, y0, []), (.iconst 1, y0, []), (.invokevirtual 191, yX10_bad, [10, 3]), (.ifCond .eq 5, y0, [5])],
  [(.iconst 0, y0, []), (.ireturn, y0, [])],
  [(.iload_n 1, y0, []), (.ifCond .ne 10, y0, [7])],
  [(.aload_n 0, y0, []), (.getfield 346, y0, [10, 24]), (.goto 19, y0, [10])],
  [(.iload_n 1, y0, []), (.iconst 1, y0, []), (.if_icmp .ne 10, y0, [9])],
  [(.aload_n 0, y0, []), (.getfield 349, y0, [10, 25]), (.goto 7, y0, [10])],
  [(.aload_n 0, y0, []), (.getfield 352, y0, [10, 26])],
  [(.ireturn, y0, [])]]
def pX10_cost : List Nat := [0, 15, 19, 20, 28, 30, 34, 41, 46, 53, 57, 58]
theorem kX10_cost : ab_cks cX10_cost 10 (some .int) false 2 pX10_cost (fun _ => true) 0 bX10_cost = true := by decide +kernel
theorem eX10_cost {d mc ms : Nat} {av : List ab_V} {σ : ab_H} {post : ab_O → ab_H → Prop} (hav : (av.all ab_n1 && Nat.ble av.length 2) = true) (h : ∀ At, ab_rule bX10_cost d mc ms post At → At 0 (av.map some ++ List.replicate (2 - av.length) none) [] σ 0 0) : ab_call d mc ms yX10_cost av σ post :=
  ab_entry (o := 10) (ini := false) (ret := (some .int)) (maxL := 2) (ab_w_in (i := 1950) (by decide +kernel)) (by decide +kernel) (by decide) (by decide +kernel) (by decide +kernel) rfl kX10_cost hav h
def bX10_value : List (List ab_I) := [[(.aload_n 0, y0, []), (.iconst 0, y0, []), (.putfield 62, y0, [10, 0]), (.aload_n 0, y0, []), (.aload_n 0, y0, []), (.iload_n 1, y0, []), (.invokevirtual 371, yX10_isColumn, [10, 1]), (.ifCond .eq 17, y0, [2])],
  [(.iload_n 2, y0, []), (.iconst 0, y0, []), (.aload_n 0, y0, []), (.getfield 65, y0, [10, 13]), (.iconst 1, y0, []), (.isub, y0, []), (.invokestatic 162, yX10_in, [3]), (.ifCond .ne 7, y0, [3])],
  [(.iconst 1, y0, []), (.goto 4, y0, [4])],
  [(.iconst 0, y0, [])],
  [(.iconst 1, y0, []), (.iconst 0, y0, []), (.invokevirtual 191, yX10_bad, [10, 3]), (.ifCond .eq 5, y0, [6])],
  [(.iconst 0, y0, []), (.ireturn, y0, [])],
  [(.aload_n 0, y0, []), (.getfield 28, y0, [10, 14]), (.iload_n 1, y0, []), (.aaload, y0, [2]), (.iload_n 2, y0, []), (.iaload, y0, []), (.ireturn, y0, [])]]
def pX10_value : List Nat := [0, 14, 28, 32, 33, 41, 43, 52]
theorem kX10_value : ab_cks cX10_value 10 (some .int) false 3 pX10_value (fun _ => true) 0 bX10_value = true := by decide +kernel
theorem eX10_value {d mc ms : Nat} {av : List ab_V} {σ : ab_H} {post : ab_O → ab_H → Prop} (hav : (av.all ab_n1 && Nat.ble av.length 3) = true) (h : ∀ At, ab_rule bX10_value d mc ms post At → At 0 (av.map some ++ List.replicate (3 - av.length) none) [] σ 0 0) : ab_call d mc ms yX10_value av σ post :=
  ab_entry (o := 10) (ini := false) (ret := (some .int)) (maxL := 3) (ab_w_in (i := 1954) (by decide +kernel)) (by decide +kernel) (by decide) (by decide +kernel) (by decide +kernel) rfl kX10_value hav h
def bX10_sum : List (List ab_I) := [[(.aload_n 0, y0, []), (.iconst 0, y0, []), (.putfield 62, y0, [10, 0]), (.aload_n 0, y0, []), (.aload_n 0, y0, []), (.iload_n 1, y0, []), (.invokevirtual 371, yX10_isColumn, [10, 1]), (.ifCond .eq 11, y0, [2])],
  [(.aload_n 0, y0, []), (.iload_n 2, y0, []), (.invokevirtual 393, yX10_isSet, [10, 1]), (.ifCond .ne 7, y0, [3])],
  [(.iconst 1, y0, []), (.goto 4, y0, [4])],
  [(.iconst 0, y0, [])],
  [(.iconst 1, y0, []), (.iconst 0, y0, []), (.invokevirtual 191, yX10_bad, [10, 3]), (.ifCond .eq 5, y0, [6])],
  [(.iconst 0, y0, []), (.ireturn, y0, [])],
  [(.aload_n 0, y0, []), (.iload_n 2, y0, []), (.invokevirtual 396, yX10_bitmap, [10, 1]), (.astore_n 3, y0, []), (.iconst 0, y0, []), (.istore 4, y0, []), (.iconst 0, y0, []), (.istore 5, y0, [])],
  [(.iload 5, y0, []), (.aload_n 0, y0, []), (.getfield 65, y0, [10, 13]), (.if_icmp .ge 36, y0, [12])],
  [(.iload 4, y0, []), (.aload_n 3, y0, []), (.iload 5, y0, []), (.invokestatic 91, yX10_has, [2]), (.ifCond .eq 15, y0, [10])],
  [(.aload_n 0, y0, []), (.getfield 28, y0, [10, 14]), (.iload_n 1, y0, []), (.aaload, y0, [2]), (.iload 5, y0, []), (.iaload, y0, []), (.goto 4, y0, [11])],
  [(.iconst 0, y0, [])],
  [(.iadd, y0, []), (.istore 4, y0, []), (.iinc 5 1, y0, []), (.goto (-39), y0, [7])],
  [(.iload 4, y0, []), (.ireturn, y0, [])]]
def pX10_sum : List Nat := [0, 14, 22, 26, 27, 35, 37, 49, 58, 69, 81, 82, 91, 94]
theorem kX10_sum : ab_cks cX10_sum 10 (some .int) false 6 pX10_sum (fun _ => true) 0 bX10_sum = true := by decide +kernel
theorem eX10_sum {d mc ms : Nat} {av : List ab_V} {σ : ab_H} {post : ab_O → ab_H → Prop} (hav : (av.all ab_n1 && Nat.ble av.length 6) = true) (h : ∀ At, ab_rule bX10_sum d mc ms post At → At 0 (av.map some ++ List.replicate (6 - av.length) none) [] σ 0 0) : ab_call d mc ms yX10_sum av σ post :=
  ab_entry (o := 10) (ini := false) (ret := (some .int)) (maxL := 6) (ab_w_in (i := 1958) (by decide +kernel)) (by decide +kernel) (by decide) (by decide +kernel) (by decide +kernel) rfl kX10_sum hav h
def bX10_counts : List (List ab_I) := [[(.iconst 0, y0, []), (.istore_n 3, y0, [])],
  [(.iload_n 3, y0, []), (.sipush 200, y0, []), (.if_icmp .ge 16, y0, [3])],
  [(.aload_n 0, y0, []), (.getfield 50, y0, [10, 29]), (.iload_n 3, y0, []), (.iconst 0, y0, []), (.iastore, y0, []), (.iinc 3 1, y0, []), (.goto (-17), y0, [1])],
  [(.iconst 0, y0, []), (.istore_n 3, y0, [])],
  [(.iload_n 3, y0, []), (.aload_n 0, y0, []), (.getfield 65, y0, [10, 13]), (.if_icmp .ge 34, y0, [8])],
  [(.aload_n 2, y0, []), (.iload_n 3, y0, []), (.invokestatic 91, yX10_has, [2]), (.ifCond .eq 20, y0, [7])],
  [(.aload_n 0, y0, []), (.getfield 50, y0, [10, 29]), (.aload_n 0, y0, []), (.getfield 28, y0, [10, 14]), (.iload_n 1, y0, []), (.aaload, y0, [2]), (.iload_n 3, y0, []), (.iaload, y0, []), (.dup2, y0, []), (.iaload, y0, []), (.iconst 1, y0, []), (.iadd, y0, []), (.iastore, y0, [])],
  [(.iinc 3 1, y0, []), (.goto (-36), y0, [4])],
  [(.return_, y0, [])]]
def pX10_counts : List Nat := [0, 2, 9, 22, 24, 32, 40, 57, 63, 64]
theorem kX10_counts : ab_cks cX10_counts 10 none false 4 pX10_counts (fun _ => true) 0 bX10_counts = true := by decide +kernel
theorem eX10_counts {d mc ms : Nat} {av : List ab_V} {σ : ab_H} {post : ab_O → ab_H → Prop} (hav : (av.all ab_n1 && Nat.ble av.length 4) = true) (h : ∀ At, ab_rule bX10_counts d mc ms post At → At 0 (av.map some ++ List.replicate (4 - av.length) none) [] σ 0 0) : ab_call d mc ms yX10_counts av σ post :=
  ab_entry (o := 10) (ini := false) (ret := none) (maxL := 4) (ab_w_in (i := 1966) (by decide +kernel)) (by decide +kernel) (by decide) (by decide +kernel) (by decide +kernel) rfl kX10_counts hav h
def bX10_kth : List (List ab_I) := [[(.aload_n 0, y0, []), (.iconst 0, y0, []), (.putfield 62, y0, [10, 0]), (.aload_n 0, y0, []), (.aload_n 0, y0, []), (.iload_n 1, y0, []), (.invokevirtual 371, yX10_isColumn, [10, 1]), (.ifCond .eq 11, y0, [2])],
  [(.aload_n 0, y0, []), (.iload_n 2, y0, []), (.invokevirtual 393, yX10_isSet, [10, 1]), (.ifCond .ne 7, y0, [3])],
  [(.iconst 1, y0, []), (.goto 4, y0, [4])],
  [(.iconst 0, y0, [])],
  [(.iconst 1, y0, []), (.iconst 0, y0, []), (.invokevirtual 191, yX10_bad, [10, 3]), (.ifCond .eq 5, y0, [6])],
  [(.iconst 0, y0, []), (.ireturn, y0, [])],
  [(.aload_n 0, y0, []), (.iload_n 1, y0, []), (.aload_n 0, y0, []), (.iload_n 2, y0, []), (.invokevirtual 396, yX10_bitmap, [10, 1]), (.invokevirtual 403, yX10_counts, [10, 2]), (.iload_n 3, y0, []), (.istore 4, y0, []), (.iconst 0, y0, []), (.istore 5, y0, [])],
  [(.iload 5, y0, []), (.sipush 200, y0, []), (.if_icmp .ge 40, y0, [12])],
  [(.iload_n 3, y0, []), (.ifCond .lt 36, y0, [12])],
  [(.iload 4, y0, []), (.aload_n 0, y0, []), (.getfield 50, y0, [10, 29]), (.iload 5, y0, []), (.iaload, y0, []), (.if_icmp .ge 6, y0, [11])],
  [(.iload 5, y0, []), (.ireturn, y0, [])],
  [(.iload 4, y0, []), (.aload_n 0, y0, []), (.getfield 50, y0, [10, 29]), (.iload 5, y0, []), (.iaload, y0, []), (.isub, y0, []), (.istore 4, y0, []), (.iinc 5 1, y0, []), (.goto (-42), y0, [7])],
  [(.iconst (-1), y0, []), (.ireturn, y0, [])]]
def pX10_kth : List Nat := [0, 14, 22, 26, 27, 35, 37, 53, 61, 65, 77, 80, 98, 100]
theorem kX10_kth : ab_cks cX10_kth 10 (some .int) false 6 pX10_kth (fun _ => true) 0 bX10_kth = true := by decide +kernel
theorem eX10_kth {d mc ms : Nat} {av : List ab_V} {σ : ab_H} {post : ab_O → ab_H → Prop} (hav : (av.all ab_n1 && Nat.ble av.length 6) = true) (h : ∀ At, ab_rule bX10_kth d mc ms post At → At 0 (av.map some ++ List.replicate (6 - av.length) none) [] σ 0 0) : ab_call d mc ms yX10_kth av σ post :=
  ab_entry (o := 10) (ini := false) (ret := (some .int)) (maxL := 6) (ab_w_in (i := 1962) (by decide +kernel)) (by decide +kernel) (by decide) (by decide +kernel) (by decide +kernel) rfl kX10_kth hav h
def bX10_mode : List (List ab_I) := [[(.aload_n 0, y0, []), (.iconst 0, y0, []), (.putfield 62, y0, [10, 0]), (.aload_n 0, y0, []), (.aload_n 0, y0, []), (.iload_n 1, y0, []), (.invokevirtual 371, yX10_isColumn, [10, 1]), (.ifCond .eq 11, y0, [2])],
  [(.aload_n 0, y0, []), (.iload_n 2, y0, []), (.invokevirtual 393, yX10_isSet, [10, 1]), (.ifCond .ne 7, y0, [3])],
  [(.iconst 1, y0, []), (.goto 4, y0, [4])],
  [(.iconst 0, y0, [])],
  [(.iconst 1, y0, []), (.iconst 0, y0, []), (.invokevirtual 191, yX10_bad, [10, 3]), (.ifCond .ne 26, y0, [9])],
  [(.aload_n 0, y0, []), (.iload_n 3, y0, []), (.iconst 0, y0, []), (.iconst 1, y0, []), (.invokestatic 162, yX10_in, [3]), (.ifCond .ne 7, y0, [7])],
  [(.iconst 1, y0, []), (.goto 4, y0, [8])],
  [(.iconst 0, y0, [])],
  [(.iconst 2, y0, []), (.iconst 1, y0, []), (.invokevirtual 191, yX10_bad, [10, 3]), (.ifCond .eq 5, y0, [10])],
  [(.iconst 0, y0, []), (.ireturn, y0, [])],
  [(.aload_n 0, y0, []), (.iload_n 1, y0, []), (.aload_n 0, y0, []), (.iload_n 2, y0, []), (.invokevirtual 396, yX10_bitmap, [10, 1]), (.invokevirtual 403, yX10_counts, [10, 2]), (.iconst (-1), y0, []), (.istore 4, y0, []), (.iconst 0, y0, []), (.istore 5, y0, []), (.iconst 0, y0, []), (.istore 6, y0, [])],
  [(.iload 6, y0, []), (.sipush 200, y0, []), (.if_icmp .ge 37, y0, [16])],
  [(.aload_n 0, y0, []), (.getfield 50, y0, [10, 29]), (.iload 6, y0, []), (.iaload, y0, []), (.iload 5, y0, []), (.if_icmp .gt 6, y0, [14])],
  [(.goto 16, y0, [15])],
  [(.iload 6, y0, []), (.istore 4, y0, []), (.aload_n 0, y0, []), (.getfield 50, y0, [10, 29]), (.iload 6, y0, []), (.iaload, y0, []), (.istore 5, y0, [])],
  [(.iinc 6 1, y0, []), (.goto (-39), y0, [11])],
  [(.iload_n 3, y0, []), (.ifCond .ne 8, y0, [18])],
  [(.iload 4, y0, []), (.goto 5, y0, [19])],
  [(.iload 5, y0, [])],
  [(.ireturn, y0, [])]]
def pX10_mode : List Nat := [0, 14, 22, 26, 27, 35, 45, 49, 50, 58, 60, 79, 87, 99, 102, 115, 121, 125, 130, 132, 133]
theorem kX10_mode : ab_cks cX10_mode 10 (some .int) false 7 pX10_mode (fun _ => true) 0 bX10_mode = true := by decide +kernel
theorem eX10_mode {d mc ms : Nat} {av : List ab_V} {σ : ab_H} {post : ab_O → ab_H → Prop} (hav : (av.all ab_n1 && Nat.ble av.length 7) = true) (h : ∀ At, ab_rule bX10_mode d mc ms post At → At 0 (av.map some ++ List.replicate (7 - av.length) none) [] σ 0 0) : ab_call d mc ms yX10_mode av σ post :=
  ab_entry (o := 10) (ini := false) (ret := (some .int)) (maxL := 7) (ab_w_in (i := 1970) (by decide +kernel)) (by decide +kernel) (by decide) (by decide +kernel) (by decide +kernel) rfl kX10_mode hav h
def bX10_unlike : List (List ab_I) := [[(.aload_n 0, y0, []), (.iconst 0, y0, []), (.putfield 62, y0, [10, 0]), (.aload_n 0, y0, []), (.aload_n 0, y0, []), (.iload_n 1, y0, []), (.invokevirtual 371, yX10_isColumn, [10, 1]), (.ifCond .eq 11, y0, [2])],
  [(.aload_n 0, y0, []), (.iload_n 2, y0, []), (.invokevirtual 393, yX10_isSet, [10, 1]), (.ifCond .ne 7, y0, [3])],
  [(.iconst 1, y0, []), (.goto 4, y0, [4])],
  [(.iconst 0, y0, [])],
  [(.iconst 1, y0, []), (.iconst 0, y0, []), (.invokevirtual 191, yX10_bad, [10, 3]), (.ifCond .eq 5, y0, [6])],
  [(.iconst 0, y0, []), (.ireturn, y0, [])],
  [(.aload_n 0, y0, []), (.iload_n 1, y0, []), (.aload_n 0, y0, []), (.iload_n 2, y0, []), (.invokevirtual 396, yX10_bitmap, [10, 1]), (.invokevirtual 403, yX10_counts, [10, 2]), (.iconst 0, y0, []), (.istore_n 3, y0, []), (.iconst 0, y0, []), (.istore 4, y0, [])],
  [(.iload 4, y0, []), (.sipush 200, y0, []), (.if_icmp .ge 27, y0, [12])],
  [(.iload_n 3, y0, []), (.aload_n 0, y0, []), (.getfield 50, y0, [10, 29]), (.iload 4, y0, []), (.iaload, y0, []), (.ifCond .le 7, y0, [10])],
  [(.iconst 1, y0, []), (.goto 4, y0, [11])],
  [(.iconst 0, y0, [])],
  [(.iadd, y0, []), (.istore_n 3, y0, []), (.iinc 4 1, y0, []), (.goto (-29), y0, [7])],
  [(.iload_n 3, y0, []), (.ireturn, y0, [])]]
def pX10_unlike : List Nat := [0, 14, 22, 26, 27, 35, 37, 52, 60, 71, 75, 76, 84, 86]
theorem kX10_unlike : ab_cks cX10_unlike 10 (some .int) false 5 pX10_unlike (fun _ => true) 0 bX10_unlike = true := by decide +kernel
theorem eX10_unlike {d mc ms : Nat} {av : List ab_V} {σ : ab_H} {post : ab_O → ab_H → Prop} (hav : (av.all ab_n1 && Nat.ble av.length 5) = true) (h : ∀ At, ab_rule bX10_unlike d mc ms post At → At 0 (av.map some ++ List.replicate (5 - av.length) none) [] σ 0 0) : ab_call d mc ms yX10_unlike av σ post :=
  ab_entry (o := 10) (ini := false) (ret := (some .int)) (maxL := 5) (ab_w_in (i := 1974) (by decide +kernel)) (by decide +kernel) (by decide) (by decide +kernel) (by decide +kernel) rfl kX10_unlike hav h
def bX10_readingsOf : List (List ab_I) := [[(.iload_n 2, y0, []), (.aload_n 0, y0, []), (.getfield 22, y0, [10, 10]), (.iload_n 1, y0, []), (.aaload, y0, [2]), (.iconst 0, y0, []), (.iaload, y0, []), (.iconst 1, y0, []), (.isub, y0, []), (.if_icmp .lt 5, y0, [2])],
  [(.iconst 0, y0, []), (.ireturn, y0, [])],
  [(.iconst 0, y0, []), (.istore_n 3, y0, []), (.iconst 1, y0, []), (.istore 4, y0, [])],
  [(.iload 4, y0, []), (.aload_n 0, y0, []), (.getfield 22, y0, [10, 10]), (.iload_n 1, y0, []), (.aaload, y0, [2]), (.iconst 1, y0, []), (.iaload, y0, []), (.if_icmp .gt 76, y0, [15])],
  [(.aload_n 0, y0, []), (.iload_n 1, y0, []), (.iload 4, y0, []), (.iload_n 2, y0, []), (.invokevirtual 116, yX10_digit, [10, 3]), (.istore 5, y0, []), (.aload_n 0, y0, []), (.iload_n 1, y0, []), (.invokevirtual 108, yX10_isRange, [10, 1]), (.ifCond .ne 13, y0, [6])],
  [(.iload_n 3, y0, []), (.iload 5, y0, []), (.iconst 1, y0, []), (.iadd, y0, []), (.iadd, y0, []), (.istore_n 3, y0, []), (.goto 42, y0, [14])],
  [(.iload_n 3, y0, []), (.iload 5, y0, []), (.aload_n 0, y0, []), (.iload_n 1, y0, []), (.iload 4, y0, []), (.invokevirtual 105, yX10_baseOf, [10, 2]), (.iconst 1, y0, []), (.isub, y0, []), (.if_icmp .ne 7, y0, [8])],
  [(.iconst 0, y0, []), (.goto 4, y0, [9])],
  [(.iconst 1, y0, [])],
  [(.iload 4, y0, []), (.iconst 1, y0, []), (.if_icmp .le 12, y0, [12])],
  [(.iload 5, y0, []), (.ifCond .le 7, y0, [12])],
  [(.iconst 1, y0, []), (.goto 4, y0, [13])],
  [(.iconst 0, y0, [])],
  [(.iadd, y0, []), (.iadd, y0, []), (.istore_n 3, y0, [])],
  [(.iinc 4 1, y0, []), (.goto (-83), y0, [3])],
  [(.iload_n 3, y0, []), (.ireturn, y0, [])]]
def pX10_readingsOf : List Nat := [0, 14, 16, 21, 34, 52, 62, 77, 81, 82, 88, 93, 97, 98, 101, 107, 109]
theorem kX10_readingsOf : ab_cks cX10_readingsOf 10 (some .int) false 6 pX10_readingsOf (fun _ => true) 0 bX10_readingsOf = true := by decide +kernel
theorem eX10_readingsOf {d mc ms : Nat} {av : List ab_V} {σ : ab_H} {post : ab_O → ab_H → Prop} (hav : (av.all ab_n1 && Nat.ble av.length 6) = true) (h : ∀ At, ab_rule bX10_readingsOf d mc ms post At → At 0 (av.map some ++ List.replicate (6 - av.length) none) [] σ 0 0) : ab_call d mc ms yX10_readingsOf av σ post :=
  ab_entry (o := 10) (ini := false) (ret := (some .int)) (maxL := 6) (ab_w_in (i := 2014) (by decide +kernel)) (by decide +kernel) (by decide) (by decide +kernel) (by decide +kernel) rfl kX10_readingsOf hav h
def bX10_span : List (List ab_I) := [[(.aload_n 0, y0, []), (.iconst 0, y0, []), (.putfield 62, y0, [10, 0]), (.aload_n 0, y0, []), (.aload_n 0, y0, []), (.iload_n 1, y0, []), (.invokevirtual 371, yX10_isColumn, [10, 1]), (.ifCond .eq 11, y0, [2])],
  [(.aload_n 0, y0, []), (.iload_n 2, y0, []), (.invokevirtual 393, yX10_isSet, [10, 1]), (.ifCond .ne 7, y0, [3])],
  [(.iconst 1, y0, []), (.goto 4, y0, [4])],
  [(.iconst 0, y0, [])],
  [(.iconst 1, y0, []), (.iconst 0, y0, []), (.invokevirtual 191, yX10_bad, [10, 3]), (.ifCond .ne 40, y0, [10])],
  [(.aload_n 0, y0, []), (.iload_n 3, y0, []), (.iconst 0, y0, []), (.sipush 999, y0, []), (.invokestatic 162, yX10_in, [3]), (.ifCond .eq 15, y0, [7])],
  [(.iload 4, y0, []), (.iconst 0, y0, []), (.sipush 999, y0, []), (.invokestatic 162, yX10_in, [3]), (.ifCond .ne 7, y0, [8])],
  [(.iconst 1, y0, []), (.goto 4, y0, [9])],
  [(.iconst 0, y0, [])],
  [(.iconst 2, y0, []), (.iconst 1, y0, []), (.invokevirtual 191, yX10_bad, [10, 3]), (.ifCond .eq 5, y0, [11])],
  [(.iconst 0, y0, []), (.ireturn, y0, [])],
  [(.aload_n 0, y0, []), (.iload_n 2, y0, []), (.invokevirtual 396, yX10_bitmap, [10, 1]), (.astore 5, y0, []), (.iconst 0, y0, []), (.istore 6, y0, []), (.iconst 0, y0, []), (.istore 7, y0, [])],
  [(.iload 7, y0, []), (.aload_n 0, y0, []), (.getfield 65, y0, [10, 13]), (.if_icmp .ge 47, y0, [18])],
  [(.iload 6, y0, []), (.aload 5, y0, []), (.iload 7, y0, []), (.invokestatic 91, yX10_has, [2]), (.ifCond .eq 25, y0, [16])],
  [(.aload_n 0, y0, []), (.getfield 28, y0, [10, 14]), (.iload_n 1, y0, []), (.aaload, y0, [2]), (.iload 7, y0, []), (.iaload, y0, []), (.iload_n 3, y0, []), (.iload 4, y0, []), (.invokestatic 162, yX10_in, [3]), (.ifCond .eq 7, y0, [16])],
  [(.iconst 1, y0, []), (.goto 4, y0, [17])],
  [(.iconst 0, y0, [])],
  [(.iadd, y0, []), (.istore 6, y0, []), (.iinc 7 1, y0, []), (.goto (-50), y0, [12])],
  [(.iload 6, y0, []), (.ireturn, y0, [])]]
def pX10_span : List Nat := [0, 14, 22, 26, 27, 35, 47, 59, 63, 64, 72, 74, 87, 96, 108, 126, 130, 131, 140, 143]
theorem kX10_span : ab_cks cX10_span 10 (some .int) false 8 pX10_span (fun _ => true) 0 bX10_span = true := by decide +kernel
theorem eX10_span {d mc ms : Nat} {av : List ab_V} {σ : ab_H} {post : ab_O → ab_H → Prop} (hav : (av.all ab_n1 && Nat.ble av.length 8) = true) (h : ∀ At, ab_rule bX10_span d mc ms post At → At 0 (av.map some ++ List.replicate (8 - av.length) none) [] σ 0 0) : ab_call d mc ms yX10_span av σ post :=
  ab_entry (o := 10) (ini := false) (ret := (some .int)) (maxL := 8) (ab_w_in (i := 1978) (by decide +kernel)) (by decide +kernel) (by decide) (by decide +kernel) (by decide +kernel) rfl kX10_span hav h
def bX10_foretold : List (List ab_I) := [[(.aload_n 0, y0, []), (.iconst 0, y0, []), (.putfield 62, y0, [10, 0]), (.aload_n 0, y0, []), (.aload_n 0, y0, []), (.iload_n 2, y0, []), (.invokevirtual 371, yX10_isColumn, [10, 1]), (.ifCond .ne 7, y0, [2])],
  [(.iconst 1, y0, []), (.goto 4, y0, [3])],
  [(.iconst 0, y0, [])],
  [(.iconst 1, y0, []), (.iconst 0, y0, []), (.invokevirtual 191, yX10_bad, [10, 3]), (.ifCond .ne 47, y0, [10])],
  [(.aload_n 0, y0, []), (.iload_n 1, y0, []), (.iconst 0, y0, []), (.iconst 5, y0, []), (.invokestatic 162, yX10_in, [3]), (.ifCond .eq 24, y0, [7])],
  [(.iload_n 3, y0, []), (.iconst 0, y0, []), (.sipush 999, y0, []), (.invokestatic 162, yX10_in, [3]), (.ifCond .eq 13, y0, [7])],
  [(.iload 4, y0, []), (.iconst 0, y0, []), (.iconst 2, y0, []), (.invokestatic 162, yX10_in, [3]), (.ifCond .ne 7, y0, [8])],
  [(.iconst 1, y0, []), (.goto 4, y0, [9])],
  [(.iconst 0, y0, [])],
  [(.iconst 2, y0, []), (.iconst 1, y0, []), (.invokevirtual 191, yX10_bad, [10, 3]), (.ifCond .eq 5, y0, [11])],
  [(.iconst 0, y0, []), (.ireturn, y0, [])],
  [(.aload_n 0, y0, []), (.getfield 38, y0, [10, 17]), (.iconst 0, y0, []), (.aaload, y0, [2]), (.astore 5, y0, []), (.aload 5, y0, []), (.iconst 0, y0, []), (.iload_n 1, y0, []), (.iastore, y0, []), (.aload 5, y0, []), (.iconst 1, y0, []), (.iload_n 2, y0, []), (.iastore, y0, []), (.aload 5, y0, []), (.iconst 2, y0, []), (.iload_n 3, y0, []), (.iastore, y0, []), (.aload_n 0, y0, []), (.invokevirtual 337, yX10_clears, [10, 0]), (.aload_n 0, y0, []), (.aload 5, y0, []), (.invokevirtual 340, yX10_answers, [10, 1]), (.aload_n 0, y0, []), (.invokevirtual 343, yX10_withLive, [10, 0]), (.iload 4, y0, []), (.ifCond .ne 10, y0, [13])],
  [(.aload_n 0, y0, []), (.getfield 289, y0, [10, 21]), (.goto 20, y0, [16])],
  [(.iload 4, y0, []), (.iconst 1, y0, []), (.if_icmp .ne 10, y0, [15])],
  [(.aload_n 0, y0, []), (.getfield 262, y0, [10, 22]), (.goto 7, y0, [16])],
  [(.aload_n 0, y0, []), (.getfield 265, y0, [10, 23])],
  [(.ireturn, y0, [])]]
def pX10_foretold : List Nat := [0, 14, 18, 19, 27, 37, 48, 58, 62, 63, 71, 73, 115, 122, 128, 135, 139, 140]
theorem kX10_foretold : ab_cks cX10_foretold 10 (some .int) false 6 pX10_foretold (fun _ => true) 0 bX10_foretold = true := by decide +kernel
theorem eX10_foretold {d mc ms : Nat} {av : List ab_V} {σ : ab_H} {post : ab_O → ab_H → Prop} (hav : (av.all ab_n1 && Nat.ble av.length 6) = true) (h : ∀ At, ab_rule bX10_foretold d mc ms post At → At 0 (av.map some ++ List.replicate (6 - av.length) none) [] σ 0 0) : ab_call d mc ms yX10_foretold av σ post :=
  ab_entry (o := 10) (ini := false) (ret := (some .int)) (maxL := 6) (ab_w_in (i := 1982) (by decide +kernel)) (by decide +kernel) (by decide) (by decide +kernel) (by decide +kernel) rfl kX10_foretold hav h
def bX10_differ : List (List ab_I) := [[(.aload_n 0, y0, []), (.iconst 0, y0, []), (.putfield 62, y0, [10, 0]), (.aload_n 0, y0, []), (.aload_n 0, y0, []), (.iload_n 1, y0, []), (.invokevirtual 393, yX10_isSet, [10, 1]), (.ifCond .eq 11, y0, [2])],
  [(.aload_n 0, y0, []), (.iload_n 2, y0, []), (.invokevirtual 393, yX10_isSet, [10, 1]), (.ifCond .ne 7, y0, [3])],
  [(.iconst 1, y0, []), (.goto 4, y0, [4])],
  [(.iconst 0, y0, [])],
  [(.iconst 1, y0, []), (.iconst 0, y0, []), (.invokevirtual 191, yX10_bad, [10, 3]), (.ifCond .eq 5, y0, [6])],
  [(.iconst 0, y0, []), (.ireturn, y0, [])],
  [(.aload_n 0, y0, []), (.iconst 2, y0, []), (.aload_n 0, y0, []), (.iload_n 1, y0, []), (.invokevirtual 396, yX10_bitmap, [10, 1]), (.aload_n 0, y0, []), (.iload_n 2, y0, []), (.invokevirtual 396, yX10_bitmap, [10, 1]), (.aload_n 0, y0, []), (.getfield 44, y0, [10, 27]), (.invokevirtual 272, yX10_joins, [10, 4]), (.aload_n 0, y0, []), (.aload_n 0, y0, []), (.getfield 44, y0, [10, 27]), (.invokevirtual 355, yX10_many, [10, 1]), (.ireturn, y0, [])]]
def pX10_differ : List Nat := [0, 14, 22, 26, 27, 35, 37, 65]
theorem kX10_differ : ab_cks cX10_differ 10 (some .int) false 3 pX10_differ (fun _ => true) 0 bX10_differ = true := by decide +kernel
theorem eX10_differ {d mc ms : Nat} {av : List ab_V} {σ : ab_H} {post : ab_O → ab_H → Prop} (hav : (av.all ab_n1 && Nat.ble av.length 3) = true) (h : ∀ At, ab_rule bX10_differ d mc ms post At → At 0 (av.map some ++ List.replicate (3 - av.length) none) [] σ 0 0) : ab_call d mc ms yX10_differ av σ post :=
  ab_entry (o := 10) (ini := false) (ret := (some .int)) (maxL := 3) (ab_w_in (i := 1986) (by decide +kernel)) (by decide +kernel) (by decide) (by decide +kernel) (by decide +kernel) rfl kX10_differ hav h
def bX10_group : List (List ab_I) := [[(.aload_n 0, y0, []), (.iconst 0, y0, []), (.putfield 62, y0, [10, 0]), (.aload_n 0, y0, []), (.aload_n 0, y0, []), (.iload_n 1, y0, []), (.invokevirtual 393, yX10_isSet, [10, 1]), (.ifCond .eq 17, y0, [2])],
  [(.iload_n 2, y0, []), (.iconst 0, y0, []), (.aload_n 0, y0, []), (.invokevirtual 80, yX10_groups, [10, 0]), (.iconst 1, y0, []), (.isub, y0, []), (.invokestatic 162, yX10_in, [3]), (.ifCond .ne 7, y0, [3])],
  [(.iconst 1, y0, []), (.goto 4, y0, [4])],
  [(.iconst 0, y0, [])],
  [(.iconst 1, y0, []), (.iconst 0, y0, []), (.invokevirtual 191, yX10_bad, [10, 3]), (.ifCond .ne 26, y0, [9])],
  [(.aload_n 0, y0, []), (.iload_n 3, y0, []), (.iconst 0, y0, []), (.iconst 2, y0, []), (.invokestatic 162, yX10_in, [3]), (.ifCond .ne 7, y0, [7])],
  [(.iconst 1, y0, []), (.goto 4, y0, [8])],
  [(.iconst 0, y0, [])],
  [(.iconst 2, y0, []), (.iconst 1, y0, []), (.invokevirtual 191, yX10_bad, [10, 3]), (.ifCond .eq 5, y0, [10])],
  [(.iconst 0, y0, []), (.ireturn, y0, [])],
  [(.aload_n 0, y0, []), (.iload_n 1, y0, []), (.invokevirtual 396, yX10_bitmap, [10, 1]), (.astore 4, y0, []), (.iconst 0, y0, []), (.istore 5, y0, []), (.iconst 0, y0, []), (.istore 6, y0, [])],
  [(.iload 6, y0, []), (.aload_n 0, y0, []), (.aload 4, y0, []), (.iload 6, y0, []), (.invokevirtual 84, yX10_stretch, [10, 2]), (.iadd, y0, []), (.iload_n 2, y0, []), (.if_icmp .gt 22, y0, [13])],
  [(.iload 6, y0, []), (.aload_n 0, y0, []), (.aload 4, y0, []), (.iload 6, y0, []), (.invokevirtual 84, yX10_stretch, [10, 2]), (.iadd, y0, []), (.istore 6, y0, []), (.iinc 5 1, y0, []), (.goto (-31), y0, [11])],
  [(.iload_n 3, y0, []), (.ifCond .ne 10, y0, [15])],
  [(.aload 4, y0, []), (.iload_n 2, y0, []), (.iaload, y0, []), (.goto 21, y0, [18])],
  [(.iload_n 3, y0, []), (.iconst 1, y0, []), (.if_icmp .ne 14, y0, [17])],
  [(.aload_n 0, y0, []), (.aload 4, y0, []), (.iload 6, y0, []), (.invokevirtual 84, yX10_stretch, [10, 2]), (.goto 5, y0, [18])],
  [(.iload 5, y0, [])],
  [(.ireturn, y0, [])]]
def pX10_group : List Nat := [0, 14, 28, 32, 33, 41, 51, 55, 56, 64, 66, 79, 94, 113, 117, 124, 129, 140, 142, 143]
theorem kX10_group : ab_cks cX10_group 10 (some .int) false 7 pX10_group (fun _ => true) 0 bX10_group = true := by decide +kernel
theorem eX10_group {d mc ms : Nat} {av : List ab_V} {σ : ab_H} {post : ab_O → ab_H → Prop} (hav : (av.all ab_n1 && Nat.ble av.length 7) = true) (h : ∀ At, ab_rule bX10_group d mc ms post At → At 0 (av.map some ++ List.replicate (7 - av.length) none) [] σ 0 0) : ab_call d mc ms yX10_group av σ post :=
  ab_entry (o := 10) (ini := false) (ret := (some .int)) (maxL := 7) (ab_w_in (i := 1990) (by decide +kernel)) (by decide +kernel) (by decide) (by decide +kernel) (by decide +kernel) rfl kX10_group hav h
def bX10_widest : List (List ab_I) := [[(.aload_n 0, y0, []), (.iconst 0, y0, []), (.putfield 62, y0, [10, 0]), (.aload_n 0, y0, []), (.aload_n 0, y0, []), (.iload_n 1, y0, []), (.invokevirtual 393, yX10_isSet, [10, 1]), (.ifCond .ne 7, y0, [2])],
  [(.iconst 1, y0, []), (.goto 4, y0, [3])],
  [(.iconst 0, y0, [])],
  [(.iconst 1, y0, []), (.iconst 0, y0, []), (.invokevirtual 191, yX10_bad, [10, 3]), (.ifCond .eq 5, y0, [5])],
  [(.iconst 0, y0, []), (.ireturn, y0, [])],
  [(.aload_n 0, y0, []), (.iload_n 1, y0, []), (.invokevirtual 396, yX10_bitmap, [10, 1]), (.astore_n 2, y0, []), (.iconst 0, y0, []), (.istore_n 3, y0, []), (.iconst 0, y0, []), (.istore 4, y0, [])],
  [(.iload 4, y0, []), (.aload_n 0, y0, []), (.invokevirtual 80, yX10_groups, [10, 0]), (.if_icmp .ge 35, y0, [11])],
  [(.aload_n 2, y0, []), (.iload 4, y0, []), (.invokestatic 76, yX10_sort, [2]), (.iconst 2, y0, []), (.if_icmp .ne 7, y0, [9])],
  [(.iload_n 3, y0, []), (.goto 14, y0, [10])],
  [(.iload_n 3, y0, []), (.aload_n 0, y0, []), (.aload_n 2, y0, []), (.iload 4, y0, []), (.invokevirtual 84, yX10_stretch, [10, 2]), (.invokestatic 216, yX10_more, [2])],
  [(.istore_n 3, y0, []), (.iinc 4 1, y0, []), (.goto (-38), y0, [6])],
  [(.iload_n 3, y0, []), (.ireturn, y0, [])]]
def pX10_widest : List Nat := [0, 14, 18, 19, 27, 29, 40, 49, 59, 63, 74, 81, 83]
theorem kX10_widest : ab_cks cX10_widest 10 (some .int) false 5 pX10_widest (fun _ => true) 0 bX10_widest = true := by decide +kernel
theorem eX10_widest {d mc ms : Nat} {av : List ab_V} {σ : ab_H} {post : ab_O → ab_H → Prop} (hav : (av.all ab_n1 && Nat.ble av.length 5) = true) (h : ∀ At, ab_rule bX10_widest d mc ms post At → At 0 (av.map some ++ List.replicate (5 - av.length) none) [] σ 0 0) : ab_call d mc ms yX10_widest av σ post :=
  ab_entry (o := 10) (ini := false) (ret := (some .int)) (maxL := 5) (ab_w_in (i := 1994) (by decide +kernel)) (by decide +kernel) (by decide) (by decide +kernel) (by decide +kernel) rfl kX10_widest hav h
def bX10_heaviest : List (List ab_I) := [[(.aload_n 0, y0, []), (.iconst 0, y0, []), (.putfield 62, y0, [10, 0]), (.aload_n 0, y0, []), (.aload_n 0, y0, []), (.iload_n 1, y0, []), (.invokevirtual 371, yX10_isColumn, [10, 1]), (.ifCond .ne 7, y0, [2])],
  [(.iconst 1, y0, []), (.goto 4, y0, [3])],
  [(.iconst 0, y0, [])],
  [(.iconst 1, y0, []), (.iconst 0, y0, []), (.invokevirtual 191, yX10_bad, [10, 3]), (.ifCond .ne 26, y0, [8])],
  [(.aload_n 0, y0, []), (.iload_n 2, y0, []), (.iconst 0, y0, []), (.iconst 1, y0, []), (.invokestatic 162, yX10_in, [3]), (.ifCond .ne 7, y0, [6])],
  [(.iconst 1, y0, []), (.goto 4, y0, [7])],
  [(.iconst 0, y0, [])],
  [(.iconst 2, y0, []), (.iconst 1, y0, []), (.invokevirtual 191, yX10_bad, [10, 3]), (.ifCond .eq 5, y0, [9])],
  [(.iconst 0, y0, []), (.ireturn, y0, [])],
  [(.iconst (-1), y0, []), (.istore_n 3, y0, []), (.iconst (-1), y0, []), (.istore 4, y0, []), (.iconst 1, y0, []), (.istore 5, y0, [])],
  [(.iload 5, y0, []), (.aload_n 0, y0, []), (.getfield 22, y0, [10, 10]), (.iload_n 1, y0, []), (.aaload, y0, [2]), (.iconst 1, y0, []), (.iaload, y0, []), (.if_icmp .gt 77, y0, [18])],
  [(.iconst 0, y0, []), (.istore 6, y0, []), (.iconst 0, y0, []), (.istore 7, y0, [])],
  [(.iload 7, y0, []), (.aload_n 0, y0, []), (.iload_n 1, y0, []), (.iload 5, y0, []), (.invokevirtual 362, yX10_bitmapsOf, [10, 2]), (.if_icmp .ge 36, y0, [14])],
  [(.aload_n 0, y0, []), (.iload_n 1, y0, []), (.iload 5, y0, []), (.iload 7, y0, []), (.aload_n 0, y0, []), (.getfield 44, y0, [10, 27]), (.invokevirtual 292, yX10_laysBitmap, [10, 4]), (.iload 6, y0, []), (.aload_n 0, y0, []), (.aload_n 0, y0, []), (.getfield 44, y0, [10, 27]), (.iconst 1, y0, []), (.invokevirtual 280, yX10_words, [10, 2]), (.iadd, y0, []), (.istore 6, y0, []), (.iinc 7 1, y0, []), (.goto (-42), y0, [12])],
  [(.iload 6, y0, []), (.iload 4, y0, []), (.if_icmp .gt 6, y0, [16])],
  [(.goto 10, y0, [17])],
  [(.iload 5, y0, []), (.istore_n 3, y0, []), (.iload 6, y0, []), (.istore 4, y0, [])],
  [(.iinc 5 1, y0, []), (.goto (-84), y0, [10])],
  [(.iload_n 2, y0, []), (.ifCond .ne 7, y0, [20])],
  [(.iload_n 3, y0, []), (.goto 5, y0, [21])],
  [(.iload 4, y0, [])],
  [(.ireturn, y0, [])]]
def pX10_heaviest : List Nat := [0, 14, 18, 19, 27, 37, 41, 42, 50, 52, 60, 73, 79, 91, 124, 131, 134, 141, 147, 151, 155, 157, 158]
theorem kX10_heaviest : ab_cks cX10_heaviest 10 (some .int) false 8 pX10_heaviest (fun _ => true) 0 bX10_heaviest = true := by decide +kernel
theorem eX10_heaviest {d mc ms : Nat} {av : List ab_V} {σ : ab_H} {post : ab_O → ab_H → Prop} (hav : (av.all ab_n1 && Nat.ble av.length 8) = true) (h : ∀ At, ab_rule bX10_heaviest d mc ms post At → At 0 (av.map some ++ List.replicate (8 - av.length) none) [] σ 0 0) : ab_call d mc ms yX10_heaviest av σ post :=
  ab_entry (o := 10) (ini := false) (ret := (some .int)) (maxL := 8) (ab_w_in (i := 1998) (by decide +kernel)) (by decide +kernel) (by decide) (by decide +kernel) (by decide +kernel) rfl kX10_heaviest hav h
def bX10_ordered : List (List ab_I) := [[(.aload_n 0, y0, []), (.iconst 0, y0, []), (.putfield 62, y0, [10, 0]), (.aload_n 0, y0, []), (.aload_n 0, y0, []), (.iload_n 1, y0, []), (.invokevirtual 371, yX10_isColumn, [10, 1]), (.ifCond .eq 11, y0, [2])],
  [(.aload_n 0, y0, []), (.iload_n 2, y0, []), (.invokevirtual 371, yX10_isColumn, [10, 1]), (.ifCond .ne 7, y0, [3])],
  [(.iconst 1, y0, []), (.goto 4, y0, [4])],
  [(.iconst 0, y0, [])],
  [(.iconst 1, y0, []), (.iconst 0, y0, []), (.invokevirtual 191, yX10_bad, [10, 3]), (.ifCond .eq 5, y0, [6])],
  [(.iconst 0, y0, []), (.ireturn, y0, [])],
  [(.iconst 0, y0, []), (.istore_n 3, y0, []), (.iconst 0, y0, []), (.istore 4, y0, [])],
  [(.iload 4, y0, []), (.sipush 200, y0, []), (.if_icmp .ge 62, y0, [15])],
  [(.iconst 0, y0, []), (.istore 5, y0, [])],
  [(.iload 5, y0, []), (.aload_n 0, y0, []), (.getfield 65, y0, [10, 13]), (.if_icmp .ge 44, y0, [14])],
  [(.aload_n 0, y0, []), (.getfield 28, y0, [10, 14]), (.iload_n 2, y0, []), (.aaload, y0, [2]), (.iload 5, y0, []), (.iaload, y0, []), (.iload 4, y0, []), (.if_icmp .eq 6, y0, [12])],
  [(.goto 21, y0, [13])],
  [(.aload_n 0, y0, []), (.getfield 53, y0, [10, 30]), (.iload_n 3, y0, []), (.aload_n 0, y0, []), (.getfield 28, y0, [10, 14]), (.iload_n 1, y0, []), (.aaload, y0, [2]), (.iload 5, y0, []), (.iaload, y0, []), (.iastore, y0, []), (.iinc 3 1, y0, [])],
  [(.iinc 5 1, y0, []), (.goto (-47), y0, [9])],
  [(.iinc 4 1, y0, []), (.goto (-64), y0, [7])],
  [(.iconst 0, y0, []), (.istore 4, y0, [])],
  [(.iload 4, y0, []), (.aload_n 0, y0, []), (.getfield 65, y0, [10, 13]), (.if_icmp .ge 16, y0, [18])],
  [(.aload_n 0, y0, []), (.iload_n 1, y0, []), (.iload 4, y0, []), (.invokevirtual 407, yX10_swaps, [10, 2]), (.iinc 4 1, y0, []), (.goto (-19), y0, [16])],
  [(.aload_n 0, y0, []), (.iload_n 1, y0, []), (.invokevirtual 368, yX10_wordsOfColumn, [10, 1]), (.istore_n 3, y0, []), (.iconst 0, y0, []), (.istore 4, y0, [])],
  [(.iload 4, y0, []), (.aload_n 0, y0, []), (.getfield 65, y0, [10, 13]), (.if_icmp .ge 16, y0, [21])],
  [(.aload_n 0, y0, []), (.iload_n 1, y0, []), (.iload 4, y0, []), (.invokevirtual 407, yX10_swaps, [10, 2]), (.iinc 4 1, y0, []), (.goto (-19), y0, [19])],
  [(.iload_n 3, y0, []), (.ireturn, y0, [])]]
def pX10_ordered : List Nat := [0, 14, 22, 26, 27, 35, 37, 42, 50, 53, 62, 76, 79, 97, 103, 109, 112, 121, 134, 143, 152, 165, 167]
theorem kX10_ordered : ab_cks cX10_ordered 10 (some .int) false 6 pX10_ordered (fun _ => true) 0 bX10_ordered = true := by decide +kernel
theorem eX10_ordered {d mc ms : Nat} {av : List ab_V} {σ : ab_H} {post : ab_O → ab_H → Prop} (hav : (av.all ab_n1 && Nat.ble av.length 6) = true) (h : ∀ At, ab_rule bX10_ordered d mc ms post At → At 0 (av.map some ++ List.replicate (6 - av.length) none) [] σ 0 0) : ab_call d mc ms yX10_ordered av σ post :=
  ab_entry (o := 10) (ini := false) (ret := (some .int)) (maxL := 6) (ab_w_in (i := 2002) (by decide +kernel)) (by decide +kernel) (by decide) (by decide +kernel) (by decide +kernel) rfl kX10_ordered hav h
def bX10_swaps : List (List ab_I) := [[(.aload_n 0, y0, []), (.getfield 28, y0, [10, 14]), (.iload_n 1, y0, []), (.aaload, y0, [2]), (.iload_n 2, y0, []), (.iaload, y0, []), (.istore_n 3, y0, []), (.aload_n 0, y0, []), (.getfield 28, y0, [10, 14]), (.iload_n 1, y0, []), (.aaload, y0, [2]), (.iload_n 2, y0, []), (.aload_n 0, y0, []), (.getfield 53, y0, [10, 30]), (.iload_n 2, y0, []), (.iaload, y0, []), (.iastore, y0, []), (.aload_n 0, y0, []), (.getfield 53, y0, [10, 30]), (.iload_n 2, y0, []), (.iload_n 3, y0, []), (.iastore, y0, []), (.return_, y0, [])]]
def pX10_swaps : List Nat := [0, 31]
theorem kX10_swaps : ab_cks cX10_swaps 10 none false 4 pX10_swaps (fun _ => true) 0 bX10_swaps = true := by decide +kernel
theorem eX10_swaps {d mc ms : Nat} {av : List ab_V} {σ : ab_H} {post : ab_O → ab_H → Prop} (hav : (av.all ab_n1 && Nat.ble av.length 4) = true) (h : ∀ At, ab_rule bX10_swaps d mc ms post At → At 0 (av.map some ++ List.replicate (4 - av.length) none) [] σ 0 0) : ab_call d mc ms yX10_swaps av σ post :=
  ab_entry (o := 10) (ini := false) (ret := none) (maxL := 4) (ab_w_in (i := 2006) (by decide +kernel)) (by decide +kernel) (by decide) (by decide +kernel) (by decide +kernel) rfl kX10_swaps hav h
def bX10_readings : List (List ab_I) := [[(.aload_n 0, y0, []), (.iconst 0, y0, []), (.putfield 62, y0, [10, 0]), (.aload_n 0, y0, []), (.aload_n 0, y0, []), (.iload_n 1, y0, []), (.invokevirtual 371, yX10_isColumn, [10, 1]), (.ifCond .ne 7, y0, [2])],
  [(.iconst 1, y0, []), (.goto 4, y0, [3])],
  [(.iconst 0, y0, [])],
  [(.iconst 1, y0, []), (.iconst 0, y0, []), (.invokevirtual 191, yX10_bad, [10, 3]), (.ifCond .ne 26, y0, [8])],
  [(.aload_n 0, y0, []), (.iload_n 2, y0, []), (.iconst 0, y0, []), (.iconst 1, y0, []), (.invokestatic 162, yX10_in, [3]), (.ifCond .ne 7, y0, [6])],
  [(.iconst 1, y0, []), (.goto 4, y0, [7])],
  [(.iconst 0, y0, [])],
  [(.iconst 2, y0, []), (.iconst 1, y0, []), (.invokevirtual 191, yX10_bad, [10, 3]), (.ifCond .eq 5, y0, [9])],
  [(.iconst 0, y0, []), (.ireturn, y0, [])],
  [(.iconst 0, y0, []), (.istore_n 3, y0, []), (.iconst 0, y0, []), (.istore 4, y0, []), (.iconst 0, y0, []), (.istore 5, y0, [])],
  [(.iload 5, y0, []), (.aload_n 0, y0, []), (.getfield 22, y0, [10, 10]), (.iload_n 1, y0, []), (.aaload, y0, [2]), (.iconst 0, y0, []), (.iaload, y0, []), (.if_icmp .ge 33, y0, [12])],
  [(.iload_n 3, y0, []), (.aload_n 0, y0, []), (.iload_n 1, y0, []), (.iload 5, y0, []), (.invokevirtual 410, yX10_readingsOf, [10, 2]), (.iadd, y0, []), (.istore_n 3, y0, []), (.iload 4, y0, []), (.aload_n 0, y0, []), (.iload_n 1, y0, []), (.iload 5, y0, []), (.invokevirtual 410, yX10_readingsOf, [10, 2]), (.invokestatic 216, yX10_more, [2]), (.istore 4, y0, []), (.iinc 5 1, y0, []), (.goto (-40), y0, [10])],
  [(.iload_n 2, y0, []), (.ifCond .ne 7, y0, [14])],
  [(.iload_n 3, y0, []), (.goto 5, y0, [15])],
  [(.iload 4, y0, [])],
  [(.ireturn, y0, [])]]
def pX10_readings : List Nat := [0, 14, 18, 19, 27, 37, 41, 42, 50, 52, 60, 73, 103, 107, 111, 113, 114]
theorem kX10_readings : ab_cks cX10_readings 10 (some .int) false 6 pX10_readings (fun _ => true) 0 bX10_readings = true := by decide +kernel
theorem eX10_readings {d mc ms : Nat} {av : List ab_V} {σ : ab_H} {post : ab_O → ab_H → Prop} (hav : (av.all ab_n1 && Nat.ble av.length 6) = true) (h : ∀ At, ab_rule bX10_readings d mc ms post At → At 0 (av.map some ++ List.replicate (6 - av.length) none) [] σ 0 0) : ab_call d mc ms yX10_readings av σ post :=
  ab_entry (o := 10) (ini := false) (ret := (some .int)) (maxL := 6) (ab_w_in (i := 2010) (by decide +kernel)) (by decide +kernel) (by decide) (by decide +kernel) (by decide +kernel) rfl kX10_readings hav h
def bX10_keeps : List (List ab_I) := [[(.aload_n 0, y0, []), (.getfield 413, y0, [10, 33]), (.ifCond .le 12, y0, [3])],
  [(.iload_n 2, y0, []), (.aload_n 0, y0, []), (.getfield 416, y0, [10, 34]), (.if_icmp .lt 4, y0, [3])],
  [(.return_, y0, [])],
  [(.aload_n 0, y0, []), (.iload_n 1, y0, []), (.putfield 413, y0, [10, 33]), (.aload_n 0, y0, []), (.iload_n 2, y0, []), (.putfield 416, y0, [10, 34]), (.iconst 0, y0, []), (.istore_n 3, y0, [])],
  [(.iload_n 3, y0, []), (.iload_n 1, y0, []), (.if_icmp .ge 21, y0, [6])],
  [(.aload_n 0, y0, []), (.getfield 59, y0, [10, 32]), (.iload_n 3, y0, []), (.aload_n 0, y0, []), (.getfield 56, y0, [10, 31]), (.iload_n 3, y0, []), (.iaload, y0, []), (.iastore, y0, []), (.iinc 3 1, y0, []), (.goto (-20), y0, [4])],
  [(.return_, y0, [])]]
def pX10_keeps : List Nat := [0, 7, 15, 16, 28, 33, 51, 52]
theorem kX10_keeps : ab_cks cX10_keeps 10 none false 4 pX10_keeps (fun _ => true) 0 bX10_keeps = true := by decide +kernel
theorem eX10_keeps {d mc ms : Nat} {av : List ab_V} {σ : ab_H} {post : ab_O → ab_H → Prop} (hav : (av.all ab_n1 && Nat.ble av.length 4) = true) (h : ∀ At, ab_rule bX10_keeps d mc ms post At → At 0 (av.map some ++ List.replicate (4 - av.length) none) [] σ 0 0) : ab_call d mc ms yX10_keeps av σ post :=
  ab_entry (o := 10) (ini := false) (ret := none) (maxL := 4) (ab_w_in (i := 2026) (by decide +kernel)) (by decide +kernel) (by decide) (by decide +kernel) (by decide +kernel) rfl kX10_keeps hav h
def bX10_triesFew : List (List ab_I) := [[(.aload_n 0, y0, []), (.getfield 413, y0, [10, 33]), (.ifCond .le 17, y0, [3])],
  [(.iload 5, y0, []), (.iload_n 2, y0, []), (.iadd, y0, []), (.iload_n 3, y0, []), (.isub, y0, []), (.aload_n 0, y0, []), (.getfield 416, y0, [10, 34]), (.if_icmp .lt 4, y0, [3])],
  [(.return_, y0, [])],
  [(.iload_n 3, y0, []), (.iload_n 2, y0, []), (.iconst 1, y0, []), (.isub, y0, []), (.if_icmp .ne 39, y0, [5])],
  [(.aload_n 0, y0, []), (.getfield 56, y0, [10, 31]), (.iload_n 3, y0, []), (.iconst 2, y0, []), (.iload_n 1, y0, []), (.iload 4, y0, []), (.iadd, y0, []), (.iconst 1, y0, []), (.isub, y0, []), (.iload 4, y0, []), (.idiv, y0, []), (.invokestatic 216, yX10_more, [2]), (.iastore, y0, []), (.aload_n 0, y0, []), (.iload_n 2, y0, []), (.iload 5, y0, []), (.aload_n 0, y0, []), (.getfield 56, y0, [10, 31]), (.iload_n 3, y0, []), (.iaload, y0, []), (.iadd, y0, []), (.iconst 1, y0, []), (.isub, y0, []), (.invokevirtual 419, yX10_keeps, [10, 2]), (.return_, y0, [])],
  [(.iconst 2, y0, []), (.istore 6, y0, [])],
  [(.iload 6, y0, []), (.iconst 2, y0, []), (.iload_n 1, y0, []), (.invokestatic 216, yX10_more, [2]), (.if_icmp .gt 38, y0, [8])],
  [(.aload_n 0, y0, []), (.getfield 56, y0, [10, 31]), (.iload_n 3, y0, []), (.iload 6, y0, []), (.iastore, y0, []), (.aload_n 0, y0, []), (.iload_n 1, y0, []), (.iload_n 2, y0, []), (.iload_n 3, y0, []), (.iconst 1, y0, []), (.iadd, y0, []), (.iload 4, y0, []), (.iload 6, y0, []), (.imul, y0, []), (.iload 5, y0, []), (.iload 6, y0, []), (.iadd, y0, []), (.iconst 1, y0, []), (.isub, y0, []), (.invokevirtual 422, yX10_triesFew, [10, 5]), (.iinc 6 1, y0, []), (.goto (-42), y0, [6])],
  [(.return_, y0, [])]]
def pX10_triesFew : List Nat := [0, 7, 20, 21, 28, 64, 67, 77, 112, 113]
theorem kX10_triesFew : ab_cks cX10_triesFew 10 none false 7 pX10_triesFew (fun _ => true) 0 bX10_triesFew = true := by decide +kernel
theorem eX10_triesFew {d mc ms : Nat} {av : List ab_V} {σ : ab_H} {post : ab_O → ab_H → Prop} (hav : (av.all ab_n1 && Nat.ble av.length 7) = true) (h : ∀ At, ab_rule bX10_triesFew d mc ms post At → At 0 (av.map some ++ List.replicate (7 - av.length) none) [] σ 0 0) : ab_call d mc ms yX10_triesFew av σ post :=
  ab_entry (o := 10) (ini := false) (ret := none) (maxL := 7) (ab_w_in (i := 2022) (by decide +kernel)) (by decide +kernel) (by decide) (by decide +kernel) (by decide +kernel) rfl kX10_triesFew hav h
def bX10_thrift : List (List ab_I) := [[(.aload_n 0, y0, []), (.iconst 0, y0, []), (.putfield 62, y0, [10, 0]), (.aload_n 0, y0, []), (.iload_n 1, y0, []), (.iconst 2, y0, []), (.sipush 200, y0, []), (.invokestatic 162, yX10_in, [3]), (.ifCond .eq 21, y0, [3])],
  [(.iload_n 2, y0, []), (.iconst 1, y0, []), (.iconst 4, y0, []), (.invokestatic 162, yX10_in, [3]), (.ifCond .eq 12, y0, [3])],
  [(.iload_n 3, y0, []), (.iconst 0, y0, []), (.iconst 4, y0, []), (.invokestatic 162, yX10_in, [3]), (.ifCond .ne 7, y0, [4])],
  [(.iconst 1, y0, []), (.goto 4, y0, [5])],
  [(.iconst 0, y0, [])],
  [(.iconst 1, y0, []), (.iconst 1, y0, []), (.invokevirtual 191, yX10_bad, [10, 3]), (.ifCond .eq 5, y0, [7])],
  [(.iconst 0, y0, []), (.ireturn, y0, [])],
  [(.aload_n 0, y0, []), (.iconst 0, y0, []), (.putfield 413, y0, [10, 33]), (.aload_n 0, y0, []), (.iload_n 1, y0, []), (.iload_n 2, y0, []), (.iconst 0, y0, []), (.iconst 1, y0, []), (.iconst 0, y0, []), (.invokevirtual 422, yX10_triesFew, [10, 5]), (.iload_n 3, y0, []), (.ifCond .ne 10, y0, [9])],
  [(.aload_n 0, y0, []), (.getfield 416, y0, [10, 34]), (.goto 20, y0, [12])],
  [(.iload_n 3, y0, []), (.iload_n 2, y0, []), (.if_icmp .gt 14, y0, [11])],
  [(.aload_n 0, y0, []), (.getfield 59, y0, [10, 32]), (.iload_n 3, y0, []), (.iconst 1, y0, []), (.isub, y0, []), (.iaload, y0, []), (.goto 4, y0, [12])],
  [(.iconst (-1), y0, [])],
  [(.ireturn, y0, [])]]
def pX10_thrift : List Nat := [0, 17, 26, 35, 39, 40, 48, 50, 68, 75, 80, 91, 92, 93]
theorem kX10_thrift : ab_cks cX10_thrift 10 (some .int) false 4 pX10_thrift (fun _ => true) 0 bX10_thrift = true := by decide +kernel
theorem eX10_thrift {d mc ms : Nat} {av : List ab_V} {σ : ab_H} {post : ab_O → ab_H → Prop} (hav : (av.all ab_n1 && Nat.ble av.length 4) = true) (h : ∀ At, ab_rule bX10_thrift d mc ms post At → At 0 (av.map some ++ List.replicate (4 - av.length) none) [] σ 0 0) : ab_call d mc ms yX10_thrift av σ post :=
  ab_entry (o := 10) (ini := false) (ret := (some .int)) (maxL := 4) (ab_w_in (i := 2018) (by decide +kernel)) (by decide +kernel) (by decide) (by decide +kernel) (by decide +kernel) rfl kX10_thrift hav h
def bX10_withDigit : List (List ab_I) := [[(.iload_n 1, y0, []), (.iload_n 2, y0, []), (.imul, y0, []), (.istore 4, y0, []), (.iload_n 0, y0, []), (.iload 4, y0, []), (.irem, y0, []), (.iload_n 3, y0, []), (.iload_n 1, y0, []), (.imul, y0, []), (.isub, y0, []), (.istore 5, y0, []), (.iload_n 0, y0, []), (.iload 4, y0, []), (.idiv, y0, []), (.iload_n 1, y0, []), (.imul, y0, []), (.iconst 0, y0, []), (.iload_n 1, y0, []), (.iload 5, y0, []), (.invokestatic 68, yX10_less, [2]), (.invokestatic 216, yX10_more, [2]), (.iadd, y0, []), (.ireturn, y0, [])]]
def pX10_withDigit : List Nat := [0, 33]
theorem kX10_withDigit : ab_cks cX10_withDigit 10 (some .int) false 6 pX10_withDigit (fun _ => true) 0 bX10_withDigit = true := by decide +kernel
theorem eX10_withDigit {d mc ms : Nat} {av : List ab_V} {σ : ab_H} {post : ab_O → ab_H → Prop} (hav : (av.all ab_n1 && Nat.ble av.length 6) = true) (h : ∀ At, ab_rule bX10_withDigit d mc ms post At → At 0 (av.map some ++ List.replicate (6 - av.length) none) [] σ 0 0) : ab_call d mc ms yX10_withDigit av σ post :=
  ab_entry (o := 10) (ini := false) (ret := (some .int)) (maxL := 6) (ab_w_in (i := 2041) (by decide +kernel)) (by decide +kernel) (by decide) (by decide +kernel) (by decide +kernel) rfl kX10_withDigit hav h
def bX10_readingsBy : List (List ab_I) := [[(.iload_n 1, y0, []), (.iconst 1, y0, []), (.isub, y0, []), (.istore_n 3, y0, []), (.iconst 1, y0, []), (.istore 4, y0, []), (.iconst 0, y0, []), (.istore 5, y0, []), (.iconst 0, y0, []), (.istore 6, y0, [])],
  [(.iload 6, y0, []), (.iload_n 2, y0, []), (.if_icmp .ge 76, y0, [5])],
  [(.iload 5, y0, []), (.iload_n 3, y0, []), (.iload_n 3, y0, []), (.iload 4, y0, []), (.aload_n 0, y0, []), (.getfield 56, y0, [10, 31]), (.iload 6, y0, []), (.iaload, y0, []), (.aload_n 0, y0, []), (.getfield 56, y0, [10, 31]), (.iload 6, y0, []), (.iaload, y0, []), (.iconst 1, y0, []), (.isub, y0, []), (.invokestatic 426, yX10_withDigit, [4]), (.isub, y0, []), (.iadd, y0, []), (.istore 5, y0, []), (.iload 6, y0, []), (.ifCond .le 24, y0, [4])],
  [(.iload 5, y0, []), (.iload_n 3, y0, []), (.iload_n 3, y0, []), (.iload 4, y0, []), (.aload_n 0, y0, []), (.getfield 56, y0, [10, 31]), (.iload 6, y0, []), (.iaload, y0, []), (.iconst 0, y0, []), (.invokestatic 426, yX10_withDigit, [4]), (.isub, y0, []), (.iadd, y0, []), (.istore 5, y0, [])],
  [(.iload 4, y0, []), (.aload_n 0, y0, []), (.getfield 56, y0, [10, 31]), (.iload 6, y0, []), (.iaload, y0, []), (.imul, y0, []), (.istore 4, y0, []), (.iinc 6 1, y0, []), (.goto (-76), y0, [1])],
  [(.iload 5, y0, []), (.ireturn, y0, [])]]
def pX10_readingsBy : List Nat := [0, 13, 19, 53, 74, 92, 95]
theorem kX10_readingsBy : ab_cks cX10_readingsBy 10 (some .int) false 7 pX10_readingsBy (fun _ => true) 0 bX10_readingsBy = true := by decide +kernel
theorem eX10_readingsBy {d mc ms : Nat} {av : List ab_V} {σ : ab_H} {post : ab_O → ab_H → Prop} (hav : (av.all ab_n1 && Nat.ble av.length 7) = true) (h : ∀ At, ab_rule bX10_readingsBy d mc ms post At → At 0 (av.map some ++ List.replicate (7 - av.length) none) [] σ 0 0) : ab_call d mc ms yX10_readingsBy av σ post :=
  ab_entry (o := 10) (ini := false) (ret := (some .int)) (maxL := 7) (ab_w_in (i := 2038) (by decide +kernel)) (by decide +kernel) (by decide) (by decide +kernel) (by decide +kernel) rfl kX10_readingsBy hav h
def bX10_triesSwift : List (List ab_I) := [[(.iload_n 3, y0, []), (.iload_n 2, y0, []), (.if_icmp .ne 21, y0, [4])],
  [(.iload 4, y0, []), (.iload_n 1, y0, []), (.if_icmp .lt 14, y0, [3])],
  [(.aload_n 0, y0, []), (.iload_n 2, y0, []), (.aload_n 0, y0, []), (.iload_n 1, y0, []), (.iload_n 2, y0, []), (.invokevirtual 430, yX10_readingsBy, [10, 2]), (.invokevirtual 419, yX10_keeps, [10, 2])],
  [(.return_, y0, [])],
  [(.iconst 2, y0, []), (.istore 6, y0, [])],
  [(.iload 6, y0, []), (.iconst 1, y0, []), (.isub, y0, []), (.iload 5, y0, []), (.if_icmp .gt 38, y0, [7])],
  [(.aload_n 0, y0, []), (.getfield 56, y0, [10, 31]), (.iload_n 3, y0, []), (.iload 6, y0, []), (.iastore, y0, []), (.aload_n 0, y0, []), (.iload_n 1, y0, []), (.iload_n 2, y0, []), (.iload_n 3, y0, []), (.iconst 1, y0, []), (.iadd, y0, []), (.iload 4, y0, []), (.iload 6, y0, []), (.imul, y0, []), (.iload 5, y0, []), (.iload 6, y0, []), (.isub, y0, []), (.iconst 1, y0, []), (.iadd, y0, []), (.invokevirtual 433, yX10_triesSwift, [10, 5]), (.iinc 6 1, y0, []), (.goto (-41), y0, [5])],
  [(.return_, y0, [])]]
def pX10_triesSwift : List Nat := [0, 5, 11, 22, 23, 26, 35, 70, 71]
theorem kX10_triesSwift : ab_cks cX10_triesSwift 10 none false 7 pX10_triesSwift (fun _ => true) 0 bX10_triesSwift = true := by decide +kernel
theorem eX10_triesSwift {d mc ms : Nat} {av : List ab_V} {σ : ab_H} {post : ab_O → ab_H → Prop} (hav : (av.all ab_n1 && Nat.ble av.length 7) = true) (h : ∀ At, ab_rule bX10_triesSwift d mc ms post At → At 0 (av.map some ++ List.replicate (7 - av.length) none) [] σ 0 0) : ab_call d mc ms yX10_triesSwift av σ post :=
  ab_entry (o := 10) (ini := false) (ret := none) (maxL := 7) (ab_w_in (i := 2034) (by decide +kernel)) (by decide +kernel) (by decide) (by decide +kernel) (by decide +kernel) rfl kX10_triesSwift hav h
def bX10_swift : List (List ab_I) := [[(.aload_n 0, y0, []), (.iconst 0, y0, []), (.putfield 62, y0, [10, 0]), (.aload_n 0, y0, []), (.iload_n 1, y0, []), (.iconst 2, y0, []), (.sipush 200, y0, []), (.invokestatic 162, yX10_in, [3]), (.ifCond .eq 22, y0, [3])],
  [(.iload_n 2, y0, []), (.iconst 1, y0, []), (.bipush 24, y0, []), (.invokestatic 162, yX10_in, [3]), (.ifCond .eq 12, y0, [3])],
  [(.iload_n 3, y0, []), (.iconst 0, y0, []), (.iconst 4, y0, []), (.invokestatic 162, yX10_in, [3]), (.ifCond .ne 7, y0, [4])],
  [(.iconst 1, y0, []), (.goto 4, y0, [5])],
  [(.iconst 0, y0, [])],
  [(.iconst 1, y0, []), (.iconst 1, y0, []), (.invokevirtual 191, yX10_bad, [10, 3]), (.ifCond .eq 5, y0, [7])],
  [(.iconst 0, y0, []), (.ireturn, y0, [])],
  [(.aload_n 0, y0, []), (.iconst 0, y0, []), (.putfield 413, y0, [10, 33]), (.iconst 1, y0, []), (.istore 4, y0, [])],
  [(.iload 4, y0, []), (.iconst 4, y0, []), (.if_icmp .gt 19, y0, [10])],
  [(.aload_n 0, y0, []), (.iload_n 1, y0, []), (.iload 4, y0, []), (.iconst 0, y0, []), (.iconst 1, y0, []), (.iload_n 2, y0, []), (.invokevirtual 433, yX10_triesSwift, [10, 5]), (.iinc 4 1, y0, []), (.goto (-19), y0, [8])],
  [(.aload_n 0, y0, []), (.getfield 413, y0, [10, 33]), (.ifCond .ne 5, y0, [12])],
  [(.iconst (-1), y0, []), (.ireturn, y0, [])],
  [(.iload_n 3, y0, []), (.ifCond .ne 10, y0, [14])],
  [(.aload_n 0, y0, []), (.getfield 416, y0, [10, 34]), (.goto 23, y0, [17])],
  [(.iload_n 3, y0, []), (.aload_n 0, y0, []), (.getfield 413, y0, [10, 33]), (.if_icmp .gt 14, y0, [16])],
  [(.aload_n 0, y0, []), (.getfield 59, y0, [10, 32]), (.iload_n 3, y0, []), (.iconst 1, y0, []), (.isub, y0, []), (.iaload, y0, []), (.goto 4, y0, [17])],
  [(.iconst (-1), y0, [])],
  [(.ireturn, y0, [])]]
def pX10_swift : List Nat := [0, 17, 27, 36, 40, 41, 49, 51, 59, 65, 81, 88, 90, 94, 101, 109, 120, 121, 122]
theorem kX10_swift : ab_cks cX10_swift 10 (some .int) false 5 pX10_swift (fun _ => true) 0 bX10_swift = true := by decide +kernel
theorem eX10_swift {d mc ms : Nat} {av : List ab_V} {σ : ab_H} {post : ab_O → ab_H → Prop} (hav : (av.all ab_n1 && Nat.ble av.length 5) = true) (h : ∀ At, ab_rule bX10_swift d mc ms post At → At 0 (av.map some ++ List.replicate (5 - av.length) none) [] σ 0 0) : ab_call d mc ms yX10_swift av σ post :=
  ab_entry (o := 10) (ini := false) (ret := (some .int)) (maxL := 5) (ab_w_in (i := 2030) (by decide +kernel)) (by decide +kernel) (by decide) (by decide +kernel) (by decide +kernel) rfl kX10_swift hav h
def bX10_status : List (List ab_I) := [[(.aload_n 0, y0, []), (.iconst 0, y0, []), (.putfield 62, y0, [10, 0]), (.iload_n 1, y0, []), (.iconst 0, y0, []), (.iconst 2, y0, []), (.invokestatic 162, yX10_in, [3]), (.ifCond .eq 12, y0, [2])],
  [(.aload_n 0, y0, []), (.getfield 7, y0, [10, 1]), (.iload_n 1, y0, []), (.iaload, y0, []), (.goto 4, y0, [3])],
  [(.iconst (-1), y0, [])],
  [(.ireturn, y0, [])]]
def pX10_status : List Nat := [0, 14, 23, 24, 25]
theorem kX10_status : ab_cks cX10_status 10 (some .int) false 2 pX10_status (fun _ => true) 0 bX10_status = true := by decide +kernel
theorem eX10_status {d mc ms : Nat} {av : List ab_V} {σ : ab_H} {post : ab_O → ab_H → Prop} (hav : (av.all ab_n1 && Nat.ble av.length 2) = true) (h : ∀ At, ab_rule bX10_status d mc ms post At → At 0 (av.map some ++ List.replicate (2 - av.length) none) [] σ 0 0) : ab_call d mc ms yX10_status av σ post :=
  ab_entry (o := 10) (ini := false) (ret := (some .int)) (maxL := 2) (ab_w_in (i := 2045) (by decide +kernel)) (by decide +kernel) (by decide) (by decide +kernel) (by decide +kernel) rfl kX10_status hav h
