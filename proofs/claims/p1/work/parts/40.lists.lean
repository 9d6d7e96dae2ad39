theorem dX15_lists_0 : decode cX15_lists 0 = .ok (.new 10, 3) := by decide +kernel
theorem dX15_lists_3 : decode cX15_lists 3 = .ok (.dup, 1) := by decide +kernel
theorem dX15_lists_4 : decode cX15_lists 4 = .ok (.aload_n 1, 1) := by decide +kernel
set_option maxRecDepth 20000 in
theorem ggX15_lists_X14_init : GoodIn wsX15_lists wsX14_init := goodIn_r _ [19, 20, 21, 22, 23, 24, 25, 136, 137, 138, 139, 140, 141, 142, 143, 144] rfl (by decide +kernel)
set_option maxRecDepth 20000 in
theorem gX15_lists_X14_init : GoodIn wsX15_lists (wsX14_init) := ggX15_lists_X14_init
theorem dX15_lists_5 : decode cX15_lists 5 = .ok (.invokespecial 12, 3) := by decide +kernel
theorem dX15_lists_8 : decode cX15_lists 8 = .ok (.iload_n 2, 1) := by decide +kernel
set_option maxRecDepth 20000 in
theorem ggX15_lists_X14_go : GoodIn wsX15_lists wsX14_go := goodIn_ca (goodIn_r _ [29, 30, 31, 32, 33, 34, 35, 3, 36, 37, 25, 24, 38, 39, 40, 15, 10, 16, 41, 42, 9, 11, 43, 44, 45, 46, 47, 48, 49, 50, 51, 52, 53, 54, 55, 56, 136, 137, 138, 139, 140, 141, 142, 143, 144, 166, 167, 168, 169, 170, 171, 172, 173, 174, 175, 176, 177] rfl (by decide +kernel)) (goodIn_sub (fun _ h => List.mem_cons_of_mem _ (List.mem_append_left _ (List.mem_append_right _ h))) (by decide +kernel))
set_option maxRecDepth 20000 in
theorem gX15_lists_X14_go : GoodIn wsX15_lists (wsV RX15 16 RX14 yX14_go wsX14_go) := goodIn_app (goodIn_of _ (by decide +kernel)) ggX15_lists_X14_go
theorem dX15_lists_9 : decode cX15_lists 9 = .ok (.invokevirtual 16, 3) := by decide +kernel
theorem dX15_lists_12 : decode cX15_lists 12 = .ok (.astore_n 3, 1) := by decide +kernel
theorem dX15_lists_13 : decode cX15_lists 13 = .ok (.aload_n 3, 1) := by decide +kernel
theorem dX15_lists_14 : decode cX15_lists 14 = .ok (.getfield 20, 3) := by decide +kernel
theorem dX15_lists_17 : decode cX15_lists 17 = .ok (.ifCond .ne 67, 3) := by decide +kernel
theorem dX15_lists_84 : decode cX15_lists 84 = .ok (.aload_n 0, 1) := by decide +kernel
theorem dX15_lists_85 : decode cX15_lists 85 = .ok (.dup, 1) := by decide +kernel
theorem dX15_lists_86 : decode cX15_lists 86 = .ok (.getfield 307, 3) := by decide +kernel
theorem dX15_lists_89 : decode cX15_lists 89 = .ok (.iconst 1, 1) := by decide +kernel
theorem dX15_lists_90 : decode cX15_lists 90 = .ok (.iadd, 1) := by decide +kernel
theorem dX15_lists_91 : decode cX15_lists 91 = .ok (.putfield 307, 3) := by decide +kernel
theorem dX15_lists_94 : decode cX15_lists 94 = .ok (.aload_n 0, 1) := by decide +kernel
theorem dX15_lists_95 : decode cX15_lists 95 = .ok (.aload_n 0, 1) := by decide +kernel
theorem dX15_lists_96 : decode cX15_lists 96 = .ok (.getfield 310, 3) := by decide +kernel
theorem dX15_lists_99 : decode cX15_lists 99 = .ok (.aload_n 3, 1) := by decide +kernel
set_option maxRecDepth 20000 in
theorem ggX15_lists_X14_marks : GoodIn wsX15_lists wsX14_marks := goodIn_ca (goodIn_r _ [118, 39, 41, 24, 136, 137, 138, 139, 140, 141, 142, 143, 144] rfl (by decide +kernel)) (goodIn_sub (fun _ h => List.mem_cons_of_mem _ (List.mem_append_left _ (List.mem_append_right _ h))) (by decide +kernel))
set_option maxRecDepth 20000 in
theorem gX15_lists_X14_marks : GoodIn wsX15_lists (wsV RX15 27 RX14 yX14_marks wsX14_marks) := goodIn_app (goodIn_of _ (by decide +kernel)) ggX15_lists_X14_marks
theorem dX15_lists_100 : decode cX15_lists 100 = .ok (.invokevirtual 27, 3) := by decide +kernel
theorem dX15_lists_103 : decode cX15_lists 103 = .ok (.invokestatic 98, 3) := by decide +kernel
theorem dX15_lists_106 : decode cX15_lists 106 = .ok (.putfield 310, 3) := by decide +kernel
theorem dX15_lists_144 : decode cX15_lists 144 = .ok (.aload_n 1, 1) := by decide +kernel
theorem dX15_lists_145 : decode cX15_lists 145 = .ok (.getfield 248, 3) := by decide +kernel
theorem dX15_lists_148 : decode cX15_lists 148 = .ok (.iconst 1, 1) := by decide +kernel
theorem dX15_lists_149 : decode cX15_lists 149 = .ok (.iadd, 1) := by decide +kernel
theorem dX15_lists_150 : decode cX15_lists 150 = .ok (.aload_n 1, 1) := by decide +kernel
theorem dX15_lists_151 : decode cX15_lists 151 = .ok (.getfield 101, 3) := by decide +kernel
theorem dX15_lists_154 : decode cX15_lists 154 = .ok (.arraylength, 1) := by decide +kernel
theorem dX15_lists_155 : decode cX15_lists 155 = .ok (.if_icmp .ne 4, 3) := by decide +kernel
theorem dX15_lists_158 : decode cX15_lists 158 = .ok (.return_, 1) := by decide +kernel
theorem dX15_lists_109 : decode cX15_lists 109 = .ok (.aload_n 0, 1) := by decide +kernel
theorem dX15_lists_110 : decode cX15_lists 110 = .ok (.getfield 313, 3) := by decide +kernel
theorem dX15_lists_113 : decode cX15_lists 113 = .ok (.ifnull 14, 3) := by decide +kernel
theorem dX15_lists_116 : decode cX15_lists 116 = .ok (.aload_n 3, 1) := by decide +kernel
theorem dX15_lists_117 : decode cX15_lists 117 = .ok (.getfield 24, 3) := by decide +kernel
theorem dX15_lists_120 : decode cX15_lists 120 = .ok (.aload_n 0, 1) := by decide +kernel
theorem dX15_lists_121 : decode cX15_lists 121 = .ok (.getfield 317, 3) := by decide +kernel
theorem dX15_lists_124 : decode cX15_lists 124 = .ok (.if_icmp .le 20, 3) := by decide +kernel
theorem dX15_lists_127 : decode cX15_lists 127 = .ok (.aload_n 0, 1) := by decide +kernel
theorem dX15_lists_128 : decode cX15_lists 128 = .ok (.aload_n 3, 1) := by decide +kernel
theorem dX15_lists_129 : decode cX15_lists 129 = .ok (.getfield 24, 3) := by decide +kernel
theorem dX15_lists_132 : decode cX15_lists 132 = .ok (.putfield 317, 3) := by decide +kernel
theorem dX15_lists_135 : decode cX15_lists 135 = .ok (.aload_n 0, 1) := by decide +kernel
theorem dX15_lists_136 : decode cX15_lists 136 = .ok (.aload_n 1, 1) := by decide +kernel
theorem dX15_lists_137 : decode cX15_lists 137 = .ok (.iconst 0, 1) := by decide +kernel
set_option maxRecDepth 20000 in
theorem ggX15_lists_X13_copy : GoodIn wsX15_lists wsX13_copy := goodIn_ca (goodIn_r _ [99, 100, 101, 54, 102, 103, 56, 104, 105, 106, 107, 108, 109, 110, 111, 21, 22, 112, 113, 114, 23, 166, 167, 168, 169, 170, 171, 172, 173, 174, 175, 176, 177] rfl (by decide +kernel)) (goodIn_sub (fun _ h => List.mem_cons_of_mem _ (List.mem_append_left _ (List.mem_append_right _ h))) (by decide +kernel))
set_option maxRecDepth 20000 in
theorem gX15_lists_X13_copy : GoodIn wsX15_lists (wsV RX15 82 RX13 yX13_copy wsX13_copy) := goodIn_app (goodIn_of _ (by decide +kernel)) ggX15_lists_X13_copy
theorem dX15_lists_138 : decode cX15_lists 138 = .ok (.invokevirtual 82, 3) := by decide +kernel
theorem dX15_lists_141 : decode cX15_lists 141 = .ok (.putfield 313, 3) := by decide +kernel
theorem dX15_lists_20 : decode cX15_lists 20 = .ok (.aload_n 0, 1) := by decide +kernel
theorem dX15_lists_21 : decode cX15_lists 21 = .ok (.aload_n 1, 1) := by decide +kernel
theorem dX15_lists_22 : decode cX15_lists 22 = .ok (.iload_n 2, 1) := by decide +kernel
set_option maxRecDepth 20000 in
theorem ggX15_lists_X15_comesBack : GoodIn wsX15_lists wsX15_comesBack := goodIn_ca (goodIn_r _ [61, 1, 2, 3, 17, 18, 19, 20, 21, 22, 23, 24, 25, 62, 63, 64, 65, 39, 41, 38, 37, 30, 31, 32, 66, 67, 68, 69, 70, 34, 35, 36, 40, 15, 10, 16, 42, 9, 11, 43, 44, 45, 46, 47, 48, 49, 50, 51, 52, 53, 54, 55, 56, 71, 72, 73, 74, 75, 76, 77, 60, 78, 79, 80, 136, 137, 138, 139, 140, 141, 142, 143, 144, 166, 167, 168, 169, 170, 171, 172, 173, 174, 175, 176, 177, 145, 146, 147, 148, 149, 150, 151, 152, 153, 154, 155, 156, 157, 158, 159, 160, 161, 162, 163, 164, 165] rfl (by decide +kernel)) (goodIn_sub (fun _ h => List.mem_cons_of_mem _ (List.mem_append_left _ (List.mem_append_right _ h))) (by decide +kernel))
set_option maxRecDepth 20000 in
theorem gX15_lists_X15_comesBack : GoodIn wsX15_lists (wsV RX15 144 RX15 yX15_comesBack wsX15_comesBack) := goodIn_app (goodIn_of _ (by decide +kernel)) ggX15_lists_X15_comesBack
theorem dX15_lists_23 : decode cX15_lists 23 = .ok (.invokevirtual 144, 3) := by decide +kernel
theorem dX15_lists_26 : decode cX15_lists 26 = .ok (.ifCond .ne 12, 3) := by decide +kernel
theorem dX15_lists_38 : decode cX15_lists 38 = .ok (.iconst 1, 1) := by decide +kernel
theorem dX15_lists_39 : decode cX15_lists 39 = .ok (.goto 4, 3) := by decide +kernel
theorem dX15_lists_43 : decode cX15_lists 43 = .ok (.istore 4, 2) := by decide +kernel
theorem dX15_lists_45 : decode cX15_lists 45 = .ok (.aload_n 0, 1) := by decide +kernel
theorem dX15_lists_46 : decode cX15_lists 46 = .ok (.dup, 1) := by decide +kernel
theorem dX15_lists_47 : decode cX15_lists 47 = .ok (.getfield 301, 3) := by decide +kernel
theorem dX15_lists_50 : decode cX15_lists 50 = .ok (.iload 4, 2) := by decide +kernel
theorem dX15_lists_52 : decode cX15_lists 52 = .ok (.ifCond .eq 7, 3) := by decide +kernel
theorem dX15_lists_55 : decode cX15_lists 55 = .ok (.iconst 1, 1) := by decide +kernel
theorem dX15_lists_56 : decode cX15_lists 56 = .ok (.goto 4, 3) := by decide +kernel
theorem dX15_lists_60 : decode cX15_lists 60 = .ok (.iadd, 1) := by decide +kernel
theorem dX15_lists_61 : decode cX15_lists 61 = .ok (.putfield 301, 3) := by decide +kernel
theorem dX15_lists_64 : decode cX15_lists 64 = .ok (.aload_n 0, 1) := by decide +kernel
theorem dX15_lists_65 : decode cX15_lists 65 = .ok (.dup, 1) := by decide +kernel
theorem dX15_lists_66 : decode cX15_lists 66 = .ok (.getfield 304, 3) := by decide +kernel
theorem dX15_lists_69 : decode cX15_lists 69 = .ok (.iload 4, 2) := by decide +kernel
theorem dX15_lists_71 : decode cX15_lists 71 = .ok (.ifCond .eq 7, 3) := by decide +kernel
theorem dX15_lists_74 : decode cX15_lists 74 = .ok (.iconst 0, 1) := by decide +kernel
theorem dX15_lists_75 : decode cX15_lists 75 = .ok (.goto 4, 3) := by decide +kernel
theorem dX15_lists_79 : decode cX15_lists 79 = .ok (.iadd, 1) := by decide +kernel
theorem dX15_lists_80 : decode cX15_lists 80 = .ok (.putfield 304, 3) := by decide +kernel
theorem dX15_lists_83 : decode cX15_lists 83 = .ok (.return_, 1) := by decide +kernel
theorem dX15_lists_29 : decode cX15_lists 29 = .ok (.aload_n 0, 1) := by decide +kernel
theorem dX15_lists_30 : decode cX15_lists 30 = .ok (.aload_n 1, 1) := by decide +kernel
theorem dX15_lists_31 : decode cX15_lists 31 = .ok (.iload_n 2, 1) := by decide +kernel
set_option maxRecDepth 20000 in
theorem ggX15_lists_X15_goesOn : GoodIn wsX15_lists wsX15_goesOn := goodIn_ca (goodIn_r _ [84, 80, 85, 86, 87, 60, 88, 1, 2, 3, 23, 17, 18, 19, 20, 21, 22, 24, 25, 70, 34, 35, 36, 31, 37, 32, 38, 30, 39, 40, 15, 10, 16, 41, 42, 9, 11, 43, 44, 45, 46, 47, 48, 49, 50, 51, 52, 53, 54, 55, 56, 89, 90, 91, 14, 92, 67, 68, 69, 93, 94, 95, 62, 63, 64, 65, 66, 75, 76, 77, 78, 79, 96, 97, 98, 99, 100, 101, 102, 103, 104, 105, 106, 107, 108, 109, 110, 111, 112, 113, 114, 145, 146, 147, 148, 149, 150, 151, 152, 153, 154, 155, 156, 157, 158, 159, 160, 161, 162, 163, 164, 165, 136, 137, 138, 139, 140, 141, 142, 143, 144, 166, 167, 168, 169, 170, 171, 172, 173, 174, 175, 176, 177] rfl (by decide +kernel)) (goodIn_sub (fun _ h => List.mem_cons_of_mem _ (List.mem_append_left _ (List.mem_append_right _ h))) (by decide +kernel))
set_option maxRecDepth 20000 in
theorem gX15_lists_X15_goesOn : GoodIn wsX15_lists (wsV RX15 147 RX15 yX15_goesOn wsX15_goesOn) := goodIn_app (goodIn_of _ (by decide +kernel)) ggX15_lists_X15_goesOn
theorem dX15_lists_32 : decode cX15_lists 32 = .ok (.invokevirtual 147, 3) := by decide +kernel
theorem dX15_lists_35 : decode cX15_lists 35 = .ok (.ifCond .eq 7, 3) := by decide +kernel
theorem dX15_lists_42 : decode cX15_lists 42 = .ok (.iconst 0, 1) := by decide +kernel
theorem dX15_lists_59 : decode cX15_lists 59 = .ok (.iconst 0, 1) := by decide +kernel
theorem dX15_lists_78 : decode cX15_lists 78 = .ok (.iconst 1, 1) := by decide +kernel
set_option maxHeartbeats 40000000 in
set_option maxRecDepth 100000 in
/-- BeaverhallModel.lists, 1 orders not told -/
theorem c_X15_lists_1 (l : Launch) (dC : Nat → ClassId) (dI : Nat → Nat → Nat) (cI : ClassId) (xm : Nat) (fA fB lH lN lO lS lM : Int32) (v2 v3 v4 v5 v6 v7 v8 v9 v10 v11 v12 v13 v14 : Value) (lb : Nat) (lbs : List Value) (ma wa va na tz n S : Nat) (my de aa bb : Int32) (w mv nx : Nat → Int32) (T : Nat → Int32) (k : Nat) (hS1 : 1 ≤ S) (hS2 : S ≤ 2) (hn : n = S * 2) (hD : 1 ≤ n) (hT : okT S T) (hsim : simM n (cW T) (cM T) (cN T) w mv nx) (hmy : my = nI (n - 1)) (hk : k ≤ 500) (sz : Nat) : Met l yX15_lists wsX15_lists ({ frames := 12, cells := 27, slots := 11182, locals := 290 }) (va_Pc [.ref xm, .ref ma, .int (nI k)] (cPC dC dI [(xm, .inr (20, [.int fA, .int fB, v2, v3, v4, v5, v6, v7, v8, v9, v10, v11, v12, v13, v14, .int lH, .int lN, .int lO, .int lS, .int lM, .ref lb])), (ma, .inr (18, [.int 0, .int (nI S), .int (nI 2), .ref wa, .ref va, .ref na, .int my, .null, .int de, .int aa, .int bb, .ref tz])), (wa, .inl (cI, n, .inl w)), (va, .inl (cI, n, .inl mv)), (na, .inl (cI, n, .inl nx)), (lb, .inr (18, lbs))] [(cI, .int)] sz)) (va_Qv (fun (u : Int32 × Int32 × Int32 × Int32 × Int32 × Int32 × Int32 × Int32 × Nat × List Value × (Nat → Int32) × (Nat → Int32) × (Nat → Int32)) => simM n (cW T) (cM T) (cN T) u.2.2.2.2.2.2.2.2.2.2.1 u.2.2.2.2.2.2.2.2.2.2.2.1 u.2.2.2.2.2.2.2.2.2.2.2.2 ∧ (u.2.2.1, u.2.2.2.1, u.2.2.2.2.1, u.2.2.2.2.2.1, u.2.2.2.2.2.2.1) = listP S k 1 T (lH, lN, lO, lS, lM)) (fun (u : Int32 × Int32 × Int32 × Int32 × Int32 × Int32 × Int32 × Int32 × Nat × List Value × (Nat → Int32) × (Nat → Int32) × (Nat → Int32)) t => cQB dC dI [(xm, .inr (20, [.int u.1, .int u.2.1, v2, v3, v4, v5, v6, v7, v8, v9, v10, v11, v12, v13, v14, .int u.2.2.1, .int u.2.2.2.1, .int u.2.2.2.2.1, .int u.2.2.2.2.2.1, .int u.2.2.2.2.2.2.1, .ref u.2.2.2.2.2.2.2.2.1])), (ma, .inr (18, [.int 0, .int (nI S), .int (nI 2), .ref wa, .ref va, .ref na, .int my, .null, .int u.2.2.2.2.2.2.2.1, .int aa, .int bb, .ref tz])), (wa, .inl (cI, n, .inl u.2.2.2.2.2.2.2.2.2.2.1)), (va, .inl (cI, n, .inl u.2.2.2.2.2.2.2.2.2.2.2.1)), (na, .inl (cI, n, .inl u.2.2.2.2.2.2.2.2.2.2.2.2)), (u.2.2.2.2.2.2.2.2.1, .inr (18, u.2.2.2.2.2.2.2.2.2.1))] [(cI, .int)] (va_A [(xm, .inr (20, [.int fA, .int fB, v2, v3, v4, v5, v6, v7, v8, v9, v10, v11, v12, v13, v14, .int lH, .int lN, .int lO, .int lS, .int lM, .ref lb])), (ma, .inr (18, [.int 0, .int (nI S), .int (nI 2), .ref wa, .ref va, .ref na, .int my, .null, .int de, .int aa, .int bb, .ref tz])), (wa, .inl (cI, n, .inl w)), (va, .inl (cI, n, .inl mv)), (na, .inl (cI, n, .inl nx)), (lb, .inr (18, lbs))] sz) t) (va_A [(xm, .inr (20, [.int fA, .int fB, v2, v3, v4, v5, v6, v7, v8, v9, v10, v11, v12, v13, v14, .int lH, .int lN, .int lO, .int lS, .int lM, .ref lb])), (ma, .inr (18, [.int 0, .int (nI S), .int (nI 2), .ref wa, .ref va, .ref na, .int my, .null, .int de, .int aa, .int bb, .ref tz])), (wa, .inl (cI, n, .inl w)), (va, .inl (cI, n, .inl mv)), (na, .inl (cI, n, .inl nx)), (lb, .inr (18, lbs))] sz)) 27 11182 (va_A [(xm, .inr (20, [.int fA, .int fB, v2, v3, v4, v5, v6, v7, v8, v9, v10, v11, v12, v13, v14, .int lH, .int lN, .int lO, .int lS, .int lM, .ref lb])), (ma, .inr (18, [.int 0, .int (nI S), .int (nI 2), .ref wa, .ref va, .ref na, .int my, .null, .int de, .int aa, .int bb, .ref tz])), (wa, .inl (cI, n, .inl w)), (va, .inl (cI, n, .inl mv)), (na, .inl (cI, n, .inl nx)), (lb, .inr (18, lbs))] sz) := by
  refine Met.ofW (cc := cX15_lists) (maxL := 9) (ret := none) (by decide) rfl ?_
  intro p e s m args below meth c s₁ B hml hv
  obtain ⟨rfl, hsz, hP, hK, hD0, hN⟩ := hv
  have hx := B.exec
  have hb := B.bytes
  have hr := B.returns
  have hts := atoms_spec (ws := wsX15_lists) B.pre
  have hown : s.vm.findClass RX15 = some m.cls := findClass_of_methodNamed B.named
  have hlocks := B.notSynchronized
  subst hsz
  have hD := hD0.self (sz := s.heap.size)
  generalize hAe : va_A [(xm, .inr (20, [.int fA, .int fB, v2, v3, v4, v5, v6, v7, v8, v9, v10, v11, v12, v13, v14, .int lH, .int lN, .int lO, .int lS, .int lM, .ref lb])), (ma, .inr (18, [.int 0, .int (nI S), .int (nI 2), .ref wa, .ref va, .ref na, .int my, .null, .int de, .int aa, .int bb, .ref tz])), (wa, .inl (cI, n, .inl w)), (va, .inl (cI, n, .inl mv)), (na, .inl (cI, n, .inl nx)), (lb, .inr (18, lbs))] s.heap.size = A at hD ⊢
  have hA : ∀ q : Nat, s.heap.size ≤ q → A q := fun q h => by rw [← hAe]; exact Or.inr h
  have hS : va_S A s.heap s.heap [] := va_S.rf
  have hP : va_P (dC, dI) vwCl [(xm, .inr (20, [.int fA, .int fB, v2, v3, v4, v5, v6, v7, v8, v9, v10, v11, v12, v13, v14, .int lH, .int lN, .int lO, .int lS, .int lM, .ref lb])), (ma, .inr (18, [.int 0, .int (nI S), .int (nI 2), .ref wa, .ref va, .ref na, .int my, .null, .int de, .int aa, .int bb, .ref tz])), (wa, .inl (cI, n, .inl w)), (va, .inl (cI, n, .inl mv)), (na, .inl (cI, n, .inl nx)), (lb, .inr (18, lbs))] s.heap := hP
  have hD : va_D A [(xm, .inr (20, [.int fA, .int fB, v2, v3, v4, v5, v6, v7, v8, v9, v10, v11, v12, v13, v14, .int lH, .int lN, .int lO, .int lS, .int lM, .ref lb])), (ma, .inr (18, [.int 0, .int (nI S), .int (nI 2), .ref wa, .ref va, .ref na, .int my, .null, .int de, .int aa, .int bb, .ref tz])), (wa, .inl (cI, n, .inl w)), (va, .inl (cI, n, .inl mv)), (na, .inl (cI, n, .inl nx)), (lb, .inr (18, lbs))] := hD
  have hl := lv_entry ([.ref xm, .ref ma, .int (nI k)]) (n := 9) (Nat.le_of_ble_eq_true rfl)
  rw [lg_entry_eq]
  generalize (lg_sl ([.ref xm, .ref ma, .int (nI k)]) ++ List.replicate (9 - (lg_sl ([.ref xm, .ref ma, .int (nI k)])).length) Slot.unset).toArray = ls at hl ⊢
  have hl : lv_has ls 9 [(0, .ref xm), (1, .ref ma), (2, .int (nI k))] := hl
  subst hmy
  have hS6 : S ≤ 6 := by omega
  have hM0 := okM_T hT hS1 hS6
  have hM : okM S 2 n w mv nx := okM_sim (by rw [hn]; exact hM0) hsim
  have h24 := okM_n hM
  have hP : va_P (dC, dI) vwCl [(xm, .inr (20, [.int fA, .int fB, v2, v3, v4, v5, v6, v7, v8, v9, v10, v11, v12, v13, v14, .int lH, .int lN, .int lO, .int lS, .int lM, .ref lb])), (ma, .inr (18, [.int 0, .int (nI S), .int (nI 2), .ref wa, .ref va, .ref na, .int (nI (n - 1)), .null, .int de, .int aa, .int bb, .ref tz])), (wa, .inl (cI, n, .inl w)), (va, .inl (cI, n, .inl mv)), (na, .inl (cI, n, .inl nx)), (lb, .inr (18, lbs))] s.heap := hP
  have hD : va_D A [(xm, .inr (20, [.int fA, .int fB, v2, v3, v4, v5, v6, v7, v8, v9, v10, v11, v12, v13, v14, .int lH, .int lN, .int lO, .int lS, .int lM, .ref lb])), (ma, .inr (18, [.int 0, .int (nI S), .int (nI 2), .ref wa, .ref va, .ref na, .int (nI (n - 1)), .null, .int de, .int aa, .int bb, .ref tz])), (wa, .inl (cI, n, .inl w)), (va, .inl (cI, n, .inl mv)), (na, .inl (cI, n, .inl nx)), (lb, .inr (18, lbs))] := hD
  have iWX13 : ∀ w ∈ u_ws RX13 TX13 12, w ∈ wsX15_lists := by decide +kernel
  have iWX14 : ∀ w ∈ u_ws RX14 TX14 9, w ∈ wsX15_lists := by decide +kernel
  have iWX15 : ∀ w ∈ u_ws RX15 TX15 21, w ∈ wsX15_lists := by decide +kernel
  refine va_new (ci := 19) (fs := [.null, .null, .int 0, .int 0, .int 0, .int 0, .int 0, .int 0, .int 0]) (C := RX14) (T := TX14) (N := 9) hx hb hts iWX14 tyX14 tyX14_ok hown (hts (.classLink RX15 10 RX14) (by decide +kernel)) (hts (.instantiable RX14 9) (by decide +kernel)) (hts (.initialized RX14) (by decide +kernel)) hK hP hD hS hA rfl (fun j hj => by rcases (show j = 0 ∨ j = 1 ∨ j = 2 ∨ j = 3 ∨ j = 4 ∨ j = 5 ∨ j = 6 ∨ j = 7 ∨ j = 8 by omega) with rfl | rfl | rfl | rfl | rfl | rfl | rfl | rfl | rfl <;> rfl) (Nat.le_of_ble_eq_true rfl) (Nat.le_of_ble_eq_true rfl) dX15_lists_0 (fun q_1 H hP hD hS => ?_)
  have hP : va_P (dC, dI) vwCl [(xm, .inr (20, [.int fA, .int fB, v2, v3, v4, v5, v6, v7, v8, v9, v10, v11, v12, v13, v14, .int lH, .int lN, .int lO, .int lS, .int lM, .ref lb])), (ma, .inr (18, [.int 0, .int (nI S), .int (nI 2), .ref wa, .ref va, .ref na, .int (nI (n - 1)), .null, .int de, .int aa, .int bb, .ref tz])), (wa, .inl (cI, n, .inl w)), (va, .inl (cI, n, .inl mv)), (na, .inl (cI, n, .inl nx)), (lb, .inr (18, lbs)), (q_1, .inr (19, [.null, .null, .int 0, .int 0, .int 0, .int 0, .int 0, .int 0, .int 0]))] H := hP
  have hD : va_D A [(xm, .inr (20, [.int fA, .int fB, v2, v3, v4, v5, v6, v7, v8, v9, v10, v11, v12, v13, v14, .int lH, .int lN, .int lO, .int lS, .int lM, .ref lb])), (ma, .inr (18, [.int 0, .int (nI S), .int (nI 2), .ref wa, .ref va, .ref na, .int (nI (n - 1)), .null, .int de, .int aa, .int bb, .ref tz])), (wa, .inl (cI, n, .inl w)), (va, .inl (cI, n, .inl mv)), (na, .inl (cI, n, .inl nx)), (lb, .inr (18, lbs)), (q_1, .inr (19, [.null, .null, .int 0, .int 0, .int 0, .int 0, .int 0, .int 0, .int 0]))] := hD
  refine W.widen (k := 1) (n := 9) (Nat.le_of_ble_eq_true rfl) (Nat.le_of_ble_eq_true rfl) ?_
  refine lv_dup hx hb dX15_lists_3 rfl ?_
  refine lv_aload_n hx hb dX15_lists_4 rfl (lv_at hl 1 rfl) ?_
  have hPc := hP.sub (ws' := [(q_1, .inr (19, [.null, .null, .int 0, .int 0, .int 0, .int 0, .int 0, .int 0, .int 0]))]) [6] rfl
  have hDc := hD.sub (ws' := [(q_1, .inr (19, [.null, .null, .int 0, .int 0, .int 0, .int 0, .int 0, .int 0, .int 0]))]) [6] (by decide) rfl
  have hKc := hK.sub (tys' := [(cI, .int)]) [0] rfl
  have hFc := va_free (wc := [(q_1, .inr (19, [.null, .null, .int 0, .int 0, .int 0, .int 0, .int 0, .int 0, .int 0]))]) hD hS hA [6] rfl
  refine va_callv (va_runI (As := [.ref ma]) (rest := [.ref q_1]) ⟨hx, hb, hml, hown, hts⟩ (c_X14_init l dC dI cI q_1 ma H.size) (cwI 1 hts gX15_lists_X14_init rfl rfl rfl (hts (.initialized RX14) (by decide +kernel)) (hts (.methodLink RX15 12 yX14_init) (by decide +kernel)) (hts (.instanceMethod yX14_init) (by decide +kernel)) rfl (by decide +kernel) ⟨Nat.le_of_ble_eq_true rfl, Nat.le_of_ble_eq_true rfl⟩) (pcS hPc hDc hKc hN) rfl rfl hl.1 rfl (lv_room (Nat.le_of_ble_eq_true rfl)) dX15_lists_5 ⟨Nat.le_of_ble_eq_true rfl, Nat.le_of_ble_eq_true rfl⟩) hS (fun q _ h => hFc q h) hFc (fun u t H1 locs ht hvm hw_3 hB hz1 hk1 hS => ?_)
  obtain ⟨hP1, hK1, hD1⟩ := hB
  rw [ht] at hP1
  try dsimp only at hw_3
  obtain ⟨hP, hD⟩ := va_join (wr := [(xm, .inr (20, [.int fA, .int fB, v2, v3, v4, v5, v6, v7, v8, v9, v10, v11, v12, v13, v14, .int lH, .int lN, .int lO, .int lS, .int lM, .ref lb])), (ma, .inr (18, [.int 0, .int (nI S), .int (nI 2), .ref wa, .ref va, .ref na, .int (nI (n - 1)), .null, .int de, .int aa, .int bb, .ref tz])), (wa, .inl (cI, n, .inl w)), (va, .inl (cI, n, .inl mv)), (na, .inl (cI, n, .inl nx)), (lb, .inr (18, lbs))]) (w1 := [(q_1, .inr (19, [.ref ma, .ref u, .int 0, .int 0, .int 0, .int 0, .int 0, .int 0, .int 0])), (u, .inl (cI, 1001, .inl (fun _ => 0)))]) hP hD [6] [0, 1, 2, 3, 4, 5] rfl rfl (by decide) (by decide) hk1 hFc hP1 hD1
  generalize H1 = H at hP hS ⊢
  have hP : va_P (dC, dI) vwCl [(xm, .inr (20, [.int fA, .int fB, v2, v3, v4, v5, v6, v7, v8, v9, v10, v11, v12, v13, v14, .int lH, .int lN, .int lO, .int lS, .int lM, .ref lb])), (ma, .inr (18, [.int 0, .int (nI S), .int (nI 2), .ref wa, .ref va, .ref na, .int (nI (n - 1)), .null, .int de, .int aa, .int bb, .ref tz])), (wa, .inl (cI, n, .inl w)), (va, .inl (cI, n, .inl mv)), (na, .inl (cI, n, .inl nx)), (lb, .inr (18, lbs)), (q_1, .inr (19, [.ref ma, .ref u, .int 0, .int 0, .int 0, .int 0, .int 0, .int 0, .int 0])), (u, .inl (cI, 1001, .inl (fun _ => 0)))] H := hP
  have hD : va_D A [(xm, .inr (20, [.int fA, .int fB, v2, v3, v4, v5, v6, v7, v8, v9, v10, v11, v12, v13, v14, .int lH, .int lN, .int lO, .int lS, .int lM, .ref lb])), (ma, .inr (18, [.int 0, .int (nI S), .int (nI 2), .ref wa, .ref va, .ref na, .int (nI (n - 1)), .null, .int de, .int aa, .int bb, .ref tz])), (wa, .inl (cI, n, .inl w)), (va, .inl (cI, n, .inl mv)), (na, .inl (cI, n, .inl nx)), (lb, .inr (18, lbs)), (q_1, .inr (19, [.ref ma, .ref u, .int 0, .int 0, .int 0, .int 0, .int 0, .int 0, .int 0])), (u, .inl (cI, 1001, .inl (fun _ => 0)))] := hD
  refine W.widen (k := 2) (n := 1010) (Nat.le_of_ble_eq_true rfl) (Nat.le_of_ble_eq_true rfl) ?_
  obtain ⟨q_2, eq_2⟩ : ∃ z, z = u := ⟨_, rfl⟩
  subst eq_2
  refine lv_iload_n hx hb dX15_lists_8 rfl (lv_at hl 2 rfl) ?_
  have hPc := hP.sub (ws' := [(ma, .inr (18, [.int 0, .int (nI S), .int (nI 2), .ref wa, .ref va, .ref na, .int (nI (n - 1)), .null, .int de, .int aa, .int bb, .ref tz])), (wa, .inl (cI, n, .inl w)), (va, .inl (cI, n, .inl mv)), (na, .inl (cI, n, .inl nx)), (q_1, .inr (19, [.ref ma, .ref q_2, .int 0, .int 0, .int 0, .int 0, .int 0, .int 0, .int 0])), (q_2, .inl (cI, 1001, .inl (fun _ => 0)))]) [1, 2, 3, 4, 6, 7] rfl
  have hDc := hD.sub (ws' := [(ma, .inr (18, [.int 0, .int (nI S), .int (nI 2), .ref wa, .ref va, .ref na, .int (nI (n - 1)), .null, .int de, .int aa, .int bb, .ref tz])), (wa, .inl (cI, n, .inl w)), (va, .inl (cI, n, .inl mv)), (na, .inl (cI, n, .inl nx)), (q_1, .inr (19, [.ref ma, .ref q_2, .int 0, .int 0, .int 0, .int 0, .int 0, .int 0, .int 0])), (q_2, .inl (cI, 1001, .inl (fun _ => 0)))]) [1, 2, 3, 4, 6, 7] (by decide) rfl
  have hKc := hK.sub (tys' := [(cI, .int)]) [0] rfl
  have hFc := va_free (wc := [(ma, .inr (18, [.int 0, .int (nI S), .int (nI 2), .ref wa, .ref va, .ref na, .int (nI (n - 1)), .null, .int de, .int aa, .int bb, .ref tz])), (wa, .inl (cI, n, .inl w)), (va, .inl (cI, n, .inl mv)), (na, .inl (cI, n, .inl nx)), (q_1, .inr (19, [.ref ma, .ref q_2, .int 0, .int 0, .int 0, .int 0, .int 0, .int 0, .int 0])), (q_2, .inl (cI, 1001, .inl (fun _ => 0)))]) hD hS hA [1, 2, 3, 4, 6, 7] rfl
  refine va_callr (va_runV (As := [.int (nI k)]) (rest := []) ⟨hx, hb, hml, hown, hts⟩ (c_X14_go l dC dI cI ma wa va na tz n S 2 (nI (n - 1)) de aa bb w mv nx hM q_1 q_2 k (by omega) H.size) (cwV 1 hts gX15_lists_X14_go rfl rfl rfl (by decide +kernel) ⟨Nat.le_of_ble_eq_true rfl, Nat.le_of_ble_eq_true rfl⟩) (pcV hPc hDc hKc hN (ci := 19) (q0 := 4) rfl rfl) rfl rfl hl.1 rfl (lv_room (Nat.le_of_ble_eq_true rfl)) dX15_lists_9 ⟨Nat.le_of_ble_eq_true rfl, Nat.le_of_ble_eq_true rfl⟩) hS (fun q _ h => hFc q h) hFc (fun u r_12 t H1 locs ht hvm hw_13 hB hz1 hk1 hS => ?_)
  obtain ⟨st_4, ce_5, lf_6, rt_7, sp_8, hh_9, ib_10, f_11⟩ := u
  obtain ⟨ha9, hP1, hK1, hD1⟩ := hB
  rw [ht] at hP1
  try dsimp only at hw_13
  obtain ⟨hP, hD⟩ := va_join (wr := [(xm, .inr (20, [.int fA, .int fB, v2, v3, v4, v5, v6, v7, v8, v9, v10, v11, v12, v13, v14, .int lH, .int lN, .int lO, .int lS, .int lM, .ref lb])), (lb, .inr (18, lbs))]) (w1 := [(ma, .inr (18, [.int 0, .int (nI S), .int (nI 2), .ref wa, .ref va, .ref na, .int (nI (n - 1)), .null, .int de, .int aa, .int bb, .ref tz])), (wa, .inl (cI, n, .inl w)), (va, .inl (cI, n, .inl mv)), (na, .inl (cI, n, .inl nx)), (q_1, .inr (19, [.ref ma, .ref q_2, .int st_4, .int ce_5, .int lf_6, .int rt_7, .int sp_8, .int hh_9, .int ib_10])), (q_2, .inl (cI, 1001, .inl f_11))]) hP hD [1, 2, 3, 4, 6, 7] [0, 5] rfl rfl (by decide) (by decide) hk1 hFc hP1 hD1
  generalize H1 = H at hP hS ⊢
  have hP : va_P (dC, dI) vwCl [(xm, .inr (20, [.int fA, .int fB, v2, v3, v4, v5, v6, v7, v8, v9, v10, v11, v12, v13, v14, .int lH, .int lN, .int lO, .int lS, .int lM, .ref lb])), (lb, .inr (18, lbs)), (ma, .inr (18, [.int 0, .int (nI S), .int (nI 2), .ref wa, .ref va, .ref na, .int (nI (n - 1)), .null, .int de, .int aa, .int bb, .ref tz])), (wa, .inl (cI, n, .inl w)), (va, .inl (cI, n, .inl mv)), (na, .inl (cI, n, .inl nx)), (q_1, .inr (19, [.ref ma, .ref q_2, .int st_4, .int ce_5, .int lf_6, .int rt_7, .int sp_8, .int hh_9, .int ib_10])), (q_2, .inl (cI, 1001, .inl f_11))] H := hP
  have hD : va_D A [(xm, .inr (20, [.int fA, .int fB, v2, v3, v4, v5, v6, v7, v8, v9, v10, v11, v12, v13, v14, .int lH, .int lN, .int lO, .int lS, .int lM, .ref lb])), (lb, .inr (18, lbs)), (ma, .inr (18, [.int 0, .int (nI S), .int (nI 2), .ref wa, .ref va, .ref na, .int (nI (n - 1)), .null, .int de, .int aa, .int bb, .ref tz])), (wa, .inl (cI, n, .inl w)), (va, .inl (cI, n, .inl mv)), (na, .inl (cI, n, .inl nx)), (q_1, .inr (19, [.ref ma, .ref q_2, .int st_4, .int ce_5, .int lf_6, .int rt_7, .int sp_8, .int hh_9, .int ib_10])), (q_2, .inl (cI, 1001, .inl f_11))] := hD
  rw [ha9]
  obtain ⟨hokR, ib9, hu9⟩ := goneT hT hS1 hS6 hn hsim hw_13
  have hF := goneT_at hu9
  have hsp9 : -1 < sp_8 := by rw [hF.2.2.2.2.1]; exact finX_sp T (by omega)
  obtain ⟨a9, _, _, _, ea9, _, _, _, ha9, _⟩ := id hokR
  have hst9 : ∃ a, a < S ∧ (finX T k).1 = nI a := ⟨a9, ha9, hF.1.symm.trans ea9⟩
  refine lv_astore_n (lv' := [(3, .ref q_1), (0, .ref xm), (1, .ref ma), (2, .int (nI k))]) hx hb dX15_lists_12 rfl hl (by decide) rfl (fun ls hl => ?_)
  refine lv_aload_n hx hb dX15_lists_13 rfl (lv_at hl 0 rfl) ?_
  refine va_getN (D := (dC, dI)) (ci := 19) (v := .int hh_9) (C := RX14) (T := TX14) (N := 9) hx hb hts iWX14 hown hK hP 6 rfl rfl 7 (by decide) (va_Nw.use rfl (hN (.fieldLinkNest RX15 20 "BeaverhallModel$Run" "hasHalted" "Z" "BeaverhallModel") (by decide +kernel))) (fun _ h9 => h9) rfl dX15_lists_14 ?_
  refine lv_if_ne (tgt := 84) hx hb dX15_lists_17 (by decide) (fun c17_14 => ?_) (fun c17_14 => ?_)
  · have hX : ¬ hnoX (nI 2) (cW T) (finX T k) = 0 := by rw [← hF.2.2.2.2.2.1]; exact c17_14
    refine lv_aload_n hx hb dX15_lists_84 rfl (lv_at hl 1 rfl) ?_
    refine lv_dup hx hb dX15_lists_85 rfl ?_
    refine va_get (D := (dC, dI)) (ci := 20) (v := .int lH) (C := RX15) (T := TX15) (N := 21) hx hb hts iWX15 hown hK hP 0 rfl rfl 15 (by decide) (hts (.fieldLink RX15 307 "BeaverhallModel" "listedHalting" "I") (by decide +kernel)) (fun _ h9 => h9) rfl dX15_lists_86 ?_
    refine lv_iconst (v := 1) hx hb dX15_lists_89 (by decide) ?_
    refine lv_iadd hx hb dX15_lists_90 ?_
    refine lv_topi (fun x_15 ex_15 => ?_)
    refine va_put (D := (dC, dI)) (ci := 20) (v := .int x_15) (ty := .int) (C := RX15) (T := TX15) (N := 21) hx hb hts iWX15 tyX15 tyX15_ok nmX15 hown hK hP hD hS 0 rfl rfl 15 (by decide) (hts (.fieldLink RX15 307 "BeaverhallModel" "listedHalting" "I") (by decide +kernel)) (fun _ h9 => h9) rfl (by decide +kernel) rfl rfl (Nat.le_of_ble_eq_true rfl) dX15_lists_91 (fun H locs hP hD hS => ?_)
    have hP : va_P (dC, dI) vwCl [(xm, .inr (20, [.int fA, .int fB, v2, v3, v4, v5, v6, v7, v8, v9, v10, v11, v12, v13, v14, .int x_15, .int lN, .int lO, .int lS, .int lM, .ref lb])), (lb, .inr (18, lbs)), (ma, .inr (18, [.int 0, .int (nI S), .int (nI 2), .ref wa, .ref va, .ref na, .int (nI (n - 1)), .null, .int de, .int aa, .int bb, .ref tz])), (wa, .inl (cI, n, .inl w)), (va, .inl (cI, n, .inl mv)), (na, .inl (cI, n, .inl nx)), (q_1, .inr (19, [.ref ma, .ref q_2, .int st_4, .int ce_5, .int lf_6, .int rt_7, .int sp_8, .int hh_9, .int ib_10])), (q_2, .inl (cI, 1001, .inl f_11))] H := hP
    have hD : va_D A [(xm, .inr (20, [.int fA, .int fB, v2, v3, v4, v5, v6, v7, v8, v9, v10, v11, v12, v13, v14, .int x_15, .int lN, .int lO, .int lS, .int lM, .ref lb])), (lb, .inr (18, lbs)), (ma, .inr (18, [.int 0, .int (nI S), .int (nI 2), .ref wa, .ref va, .ref na, .int (nI (n - 1)), .null, .int de, .int aa, .int bb, .ref tz])), (wa, .inl (cI, n, .inl w)), (va, .inl (cI, n, .inl mv)), (na, .inl (cI, n, .inl nx)), (q_1, .inr (19, [.ref ma, .ref q_2, .int st_4, .int ce_5, .int lf_6, .int rt_7, .int sp_8, .int hh_9, .int ib_10])), (q_2, .inl (cI, 1001, .inl f_11))] := hD
    refine lv_aload_n hx hb dX15_lists_94 rfl (lv_at hl 1 rfl) ?_
    refine lv_aload_n hx hb dX15_lists_95 rfl (lv_at hl 1 rfl) ?_
    refine va_get (D := (dC, dI)) (ci := 20) (v := .int lM) (C := RX15) (T := TX15) (N := 21) hx hb hts iWX15 hown hK hP 0 rfl rfl 19 (by decide) (hts (.fieldLink RX15 310 "BeaverhallModel" "listedMarks" "I") (by decide +kernel)) (fun _ h9 => h9) rfl dX15_lists_96 ?_
    refine lv_aload_n hx hb dX15_lists_99 rfl (lv_at hl 0 rfl) ?_
    have hPc := hP.sub (ws' := [(q_1, .inr (19, [.ref ma, .ref q_2, .int st_4, .int ce_5, .int lf_6, .int rt_7, .int sp_8, .int hh_9, .int ib_10])), (q_2, .inl (cI, 1001, .inl f_11))]) [6, 7] rfl
    have hDc := hD.sub (ws' := [(q_1, .inr (19, [.ref ma, .ref q_2, .int st_4, .int ce_5, .int lf_6, .int rt_7, .int sp_8, .int hh_9, .int ib_10])), (q_2, .inl (cI, 1001, .inl f_11))]) [6, 7] (by decide) rfl
    have hKc := hK.sub (tys' := [(cI, .int)]) [0] rfl
    have hFc := va_free (wc := [(q_1, .inr (19, [.ref ma, .ref q_2, .int st_4, .int ce_5, .int lf_6, .int rt_7, .int sp_8, .int hh_9, .int ib_10])), (q_2, .inl (cI, 1001, .inl f_11))]) hD hS hA [6, 7] rfl
    refine va_calli (va_runV (As := []) (rest := [.int lM, .ref xm]) ⟨hx, hb, hml, hown, hts⟩ (c_X14_marks l dC dI cI ma S 2 q_1 q_2 st_4 ce_5 lf_6 rt_7 sp_8 hh_9 ib_10 f_11 hokR H.size) (cwV 0 hts gX15_lists_X14_marks rfl rfl rfl (by decide +kernel) ⟨Nat.le_of_ble_eq_true rfl, Nat.le_of_ble_eq_true rfl⟩) (pcV hPc hDc hKc hN (ci := 19) (q0 := 0) rfl rfl) rfl rfl hl.1 rfl (lv_room (Nat.le_of_ble_eq_true rfl)) dX15_lists_100 ⟨Nat.le_of_ble_eq_true rfl, Nat.le_of_ble_eq_true rfl⟩) hS (fun q _ h => hFc q h) hFc (fun r_16 u t H1 locs ht hvm hw_17 hB hz1 hk1 hS => ?_)
    obtain ⟨hP1, hK1, hD1⟩ := hB
    rw [ht] at hP1
    try dsimp only at hw_17
    obtain ⟨hP, hD⟩ := va_join (wr := [(xm, .inr (20, [.int fA, .int fB, v2, v3, v4, v5, v6, v7, v8, v9, v10, v11, v12, v13, v14, .int x_15, .int lN, .int lO, .int lS, .int lM, .ref lb])), (lb, .inr (18, lbs)), (ma, .inr (18, [.int 0, .int (nI S), .int (nI 2), .ref wa, .ref va, .ref na, .int (nI (n - 1)), .null, .int de, .int aa, .int bb, .ref tz])), (wa, .inl (cI, n, .inl w)), (va, .inl (cI, n, .inl mv)), (na, .inl (cI, n, .inl nx))]) (w1 := [(q_1, .inr (19, [.ref ma, .ref q_2, .int st_4, .int ce_5, .int lf_6, .int rt_7, .int sp_8, .int hh_9, .int ib_10])), (q_2, .inl (cI, 1001, .inl f_11))]) hP hD [6, 7] [0, 1, 2, 3, 4, 5] rfl rfl (by decide) (by decide) hk1 hFc hP1 hD1
    generalize H1 = H at hP hS ⊢
    have hP : va_P (dC, dI) vwCl [(xm, .inr (20, [.int fA, .int fB, v2, v3, v4, v5, v6, v7, v8, v9, v10, v11, v12, v13, v14, .int x_15, .int lN, .int lO, .int lS, .int lM, .ref lb])), (lb, .inr (18, lbs)), (ma, .inr (18, [.int 0, .int (nI S), .int (nI 2), .ref wa, .ref va, .ref na, .int (nI (n - 1)), .null, .int de, .int aa, .int bb, .ref tz])), (wa, .inl (cI, n, .inl w)), (va, .inl (cI, n, .inl mv)), (na, .inl (cI, n, .inl nx)), (q_1, .inr (19, [.ref ma, .ref q_2, .int st_4, .int ce_5, .int lf_6, .int rt_7, .int sp_8, .int hh_9, .int ib_10])), (q_2, .inl (cI, 1001, .inl f_11))] H := hP
    have hD : va_D A [(xm, .inr (20, [.int fA, .int fB, v2, v3, v4, v5, v6, v7, v8, v9, v10, v11, v12, v13, v14, .int x_15, .int lN, .int lO, .int lS, .int lM, .ref lb])), (lb, .inr (18, lbs)), (ma, .inr (18, [.int 0, .int (nI S), .int (nI 2), .ref wa, .ref va, .ref na, .int (nI (n - 1)), .null, .int de, .int aa, .int bb, .ref tz])), (wa, .inl (cI, n, .inl w)), (va, .inl (cI, n, .inl mv)), (na, .inl (cI, n, .inl nx)), (q_1, .inr (19, [.ref ma, .ref q_2, .int st_4, .int ce_5, .int lf_6, .int rt_7, .int sp_8, .int hh_9, .int ib_10])), (q_2, .inl (cI, 1001, .inl f_11))] := hD
    refine va_mmax hx hb (hml.trans hl.1.symm) hown (hts (.methodLink RX15 98 Lib.Math.max.name) (by decide +kernel)) (hts (.static Lib.Math.max.name) (by decide +kernel)) (hts (.initialized "java/lang/Math") (by decide +kernel)) (hts (.code Lib.Math.max.name Lib.Math.max.code 2 (some .int)) (by decide +kernel)) (Nat.le_of_ble_eq_true rfl) (Nat.le_of_ble_eq_true rfl) (Nat.le_of_ble_eq_true rfl) (Nat.le_of_ble_eq_true rfl) dX15_lists_103 ?_
    refine lv_topi (fun x_18 ex_18 => ?_)
    have ex_18 : x_18 = imaxJ lM r_16 := ex_18
    refine va_put (D := (dC, dI)) (ci := 20) (v := .int x_18) (ty := .int) (C := RX15) (T := TX15) (N := 21) hx hb hts iWX15 tyX15 tyX15_ok nmX15 hown hK hP hD hS 0 rfl rfl 19 (by decide) (hts (.fieldLink RX15 310 "BeaverhallModel" "listedMarks" "I") (by decide +kernel)) (fun _ h9 => h9) rfl (by decide +kernel) rfl rfl (Nat.le_of_ble_eq_true rfl) dX15_lists_106 (fun H locs hP hD hS => ?_)
    have hP : va_P (dC, dI) vwCl [(xm, .inr (20, [.int fA, .int fB, v2, v3, v4, v5, v6, v7, v8, v9, v10, v11, v12, v13, v14, .int x_15, .int lN, .int lO, .int lS, .int x_18, .ref lb])), (lb, .inr (18, lbs)), (ma, .inr (18, [.int 0, .int (nI S), .int (nI 2), .ref wa, .ref va, .ref na, .int (nI (n - 1)), .null, .int de, .int aa, .int bb, .ref tz])), (wa, .inl (cI, n, .inl w)), (va, .inl (cI, n, .inl mv)), (na, .inl (cI, n, .inl nx)), (q_1, .inr (19, [.ref ma, .ref q_2, .int st_4, .int ce_5, .int lf_6, .int rt_7, .int sp_8, .int hh_9, .int ib_10])), (q_2, .inl (cI, 1001, .inl f_11))] H := hP
    have hD : va_D A [(xm, .inr (20, [.int fA, .int fB, v2, v3, v4, v5, v6, v7, v8, v9, v10, v11, v12, v13, v14, .int x_15, .int lN, .int lO, .int lS, .int x_18, .ref lb])), (lb, .inr (18, lbs)), (ma, .inr (18, [.int 0, .int (nI S), .int (nI 2), .ref wa, .ref va, .ref na, .int (nI (n - 1)), .null, .int de, .int aa, .int bb, .ref tz])), (wa, .inl (cI, n, .inl w)), (va, .inl (cI, n, .inl mv)), (na, .inl (cI, n, .inl nx)), (q_1, .inr (19, [.ref ma, .ref q_2, .int st_4, .int ce_5, .int lf_6, .int rt_7, .int sp_8, .int hh_9, .int ib_10])), (q_2, .inl (cI, 1001, .inl f_11))] := hD
    have hc1 : (x_15, lN, lO, (if lS < sp_8 then sp_8 else lS), x_18) = haltC (finX T k) (lH, lN, lO, lS, lM) := by unfold haltC; dsimp only; rw [← hF.2.2.2.2.1, ← hF.2.2.1, ← hF.2.2.2.1, ← hF.2.2.2.2.2.2, ex_18, hw_17, ex_15]
    refine jn_go (σ := Int32 × Nat × (List Value)) hP hD hS hl 144 7 1098 (fun x => match x with | (lS_144, lb_144, lbs_144) => lS_144 = (if lS < sp_8 then sp_8 else lS)) (fun x => [(xm, .inr (20, [.int fA, .int fB, v2, v3, v4, v5, v6, v7, v8, v9, v10, v11, v12, v13, v14, .int x_15, .int lN, .int lO, .int x.1, .int x_18, .ref x.2.1])), (ma, .inr (18, [.int 0, .int (nI S), .int (nI 2), .ref wa, .ref va, .ref na, .int (nI (n - 1)), .null, .int de, .int aa, .int bb, .ref tz])), (wa, .inl (cI, n, .inl w)), (va, .inl (cI, n, .inl mv)), (na, .inl (cI, n, .inl nx)), (q_1, .inr (19, [.ref ma, .ref q_2, .int st_4, .int ce_5, .int lf_6, .int rt_7, .int sp_8, .int hh_9, .int ib_10])), (q_2, .inl (cI, 1001, .inl f_11)), (x.2.1, .inr (18, x.2.2))]) (fun x => [(0, .ref xm), (1, .ref ma), (2, .int (nI k)), (3, .ref q_1)]) (fun x => []) (fun x hI H locs hP hD hS ls hl => ?_) (fun hJ144 => ?_)
    · obtain ⟨lS_144, lb_144, lbs_144⟩ := x
      have hP : va_P (dC, dI) vwCl [(xm, .inr (20, [.int fA, .int fB, v2, v3, v4, v5, v6, v7, v8, v9, v10, v11, v12, v13, v14, .int x_15, .int lN, .int lO, .int lS_144, .int x_18, .ref lb_144])), (ma, .inr (18, [.int 0, .int (nI S), .int (nI 2), .ref wa, .ref va, .ref na, .int (nI (n - 1)), .null, .int de, .int aa, .int bb, .ref tz])), (wa, .inl (cI, n, .inl w)), (va, .inl (cI, n, .inl mv)), (na, .inl (cI, n, .inl nx)), (q_1, .inr (19, [.ref ma, .ref q_2, .int st_4, .int ce_5, .int lf_6, .int rt_7, .int sp_8, .int hh_9, .int ib_10])), (q_2, .inl (cI, 1001, .inl f_11)), (lb_144, .inr (18, lbs_144))] H := hP
      have hD : va_D A [(xm, .inr (20, [.int fA, .int fB, v2, v3, v4, v5, v6, v7, v8, v9, v10, v11, v12, v13, v14, .int x_15, .int lN, .int lO, .int lS_144, .int x_18, .ref lb_144])), (ma, .inr (18, [.int 0, .int (nI S), .int (nI 2), .ref wa, .ref va, .ref na, .int (nI (n - 1)), .null, .int de, .int aa, .int bb, .ref tz])), (wa, .inl (cI, n, .inl w)), (va, .inl (cI, n, .inl mv)), (na, .inl (cI, n, .inl nx)), (q_1, .inr (19, [.ref ma, .ref q_2, .int st_4, .int ce_5, .int lf_6, .int rt_7, .int sp_8, .int hh_9, .int ib_10])), (q_2, .inl (cI, 1001, .inl f_11)), (lb_144, .inr (18, lbs_144))] := hD
      have hl : lv_has ls 9 [(0, .ref xm), (1, .ref ma), (2, .int (nI k)), (3, .ref q_1)] := hl
      try dsimp only at hI
      have hJI := hI
      refine lv_aload_n hx hb dX15_lists_144 rfl (lv_at hl 1 rfl) ?_
      refine va_getN (D := (dC, dI)) (ci := 18) (v := .int (nI (n - 1))) (C := RX13) (T := TX13) (N := 12) hx hb hts iWX13 hown hK hP 1 rfl rfl 6 (by decide) (va_Nw.use rfl (hN (.fieldLinkNest RX15 248 "BeaverhallModel$Machine" "many" "I" "BeaverhallModel") (by decide +kernel))) (fun _ h9 => h9) rfl dX15_lists_145 ?_
      refine lv_iconst (v := 1) hx hb dX15_lists_148 (by decide) ?_
      refine lv_iadd hx hb dX15_lists_149 ?_
      refine lv_aload_n hx hb dX15_lists_150 rfl (lv_at hl 1 rfl) ?_
      refine va_getN (D := (dC, dI)) (ci := 18) (v := .ref wa) (C := RX13) (T := TX13) (N := 12) hx hb hts iWX13 hown hK hP 1 rfl rfl 3 (by decide) (va_Nw.use rfl (hN (.fieldLinkNest RX15 101 "BeaverhallModel$Machine" "writes" "[I" "BeaverhallModel") (by decide +kernel))) (fun _ h9 => h9) rfl dX15_lists_151 ?_
      refine va_alen hx hb hK hP 2 0 rfl rfl (v := nI n) (by rfl) dX15_lists_154 ?_
      refine lv_icmp_ne (tgt := 159) hx hb dX15_lists_155 (by decide) (fun c155_19 => ?_) (fun c155_19 => ?_)
      · exact absurd (show nI (n - 1) + 1 = nI n from by rw [nI_1, show n - 1 + 1 = n from by omega]) c155_19
      · have hP9 := hP.sub (ws' := [(xm, .inr (20, [.int fA, .int fB, v2, v3, v4, v5, v6, v7, v8, v9, v10, v11, v12, v13, v14, .int x_15, .int lN, .int lO, .int lS_144, .int x_18, .ref lb_144])), (ma, .inr (18, [.int 0, .int (nI S), .int (nI 2), .ref wa, .ref va, .ref na, .int (nI (n - 1)), .null, .int de, .int aa, .int bb, .ref tz])), (wa, .inl (cI, n, .inl w)), (va, .inl (cI, n, .inl mv)), (na, .inl (cI, n, .inl nx)), (lb_144, .inr (18, lbs_144))]) [0, 1, 2, 3, 4, 7] rfl
        have hD9 := hD.sub (ws' := [(xm, .inr (20, [.int fA, .int fB, v2, v3, v4, v5, v6, v7, v8, v9, v10, v11, v12, v13, v14, .int x_15, .int lN, .int lO, .int lS_144, .int x_18, .ref lb_144])), (ma, .inr (18, [.int 0, .int (nI S), .int (nI 2), .ref wa, .ref va, .ref na, .int (nI (n - 1)), .null, .int de, .int aa, .int bb, .ref tz])), (wa, .inl (cI, n, .inl w)), (va, .inl (cI, n, .inl mv)), (na, .inl (cI, n, .inl nx)), (lb_144, .inr (18, lbs_144))]) [0, 1, 2, 3, 4, 7] (by decide) rfl
        have hK9 := hK.sub (tys' := [(cI, .int)]) [0] rfl
        refine W.widen (k := 27) (n := 11182) (Nat.le_of_ble_eq_true rfl) (Nat.le_of_ble_eq_true rfl) ?_
        exact W.vret hx hb hr (fun t ht hW => ⟨⟨(fA, fB, x_15, lN, lO, lS_144, x_18, de, lb_144, lbs_144, w, mv, nx), rfl, ⟨hsim, by rw [listP_one hX, hJI]; exact hc1⟩, ⟨by rw [ht]; exact hP9, va_K.moved hW.alike hK9, hD9⟩⟩, hS.F ht⟩) hS.2.2 dX15_lists_158
    · refine lv_aload_n hx hb dX15_lists_109 rfl (lv_at hl 1 rfl) ?_
      refine va_get (D := (dC, dI)) (ci := 20) (v := .ref lb) (C := RX15) (T := TX15) (N := 21) hx hb hts iWX15 hown hK hP 0 rfl rfl 20 (by decide) (hts (.fieldLink RX15 313 "BeaverhallModel" "listedBest" "LBeaverhallModel$Machine;") (by decide +kernel)) (fun _ h9 => h9) rfl dX15_lists_110 ?_
      refine lv_ifnull hx hb dX15_lists_113 ?_
      refine lv_aload_n hx hb dX15_lists_116 rfl (lv_at hl 0 rfl) ?_
      refine va_getN (D := (dC, dI)) (ci := 19) (v := .int sp_8) (C := RX14) (T := TX14) (N := 9) hx hb hts iWX14 hown hK hP 6 rfl rfl 6 (by decide) (va_Nw.use rfl (hN (.fieldLinkNest RX15 24 "BeaverhallModel$Run" "steps" "I" "BeaverhallModel") (by decide +kernel))) (fun _ h9 => h9) rfl dX15_lists_117 ?_
      refine lv_aload_n hx hb dX15_lists_120 rfl (lv_at hl 1 rfl) ?_
      refine va_get (D := (dC, dI)) (ci := 20) (v := .int lS) (C := RX15) (T := TX15) (N := 21) hx hb hts iWX15 hown hK hP 0 rfl rfl 18 (by decide) (hts (.fieldLink RX15 317 "BeaverhallModel" "listedSteps" "I") (by decide +kernel)) (fun _ h9 => h9) rfl dX15_lists_121 ?_
      refine lv_icmp_le (tgt := 144) hx hb dX15_lists_124 (by decide) (fun c124_20 => ?_) (fun c124_20 => ?_)
      · refine W.widen (k := 7) (n := 1098) (Nat.le_of_ble_eq_true rfl) (Nat.le_of_ble_eq_true rfl) ?_
        exact hJ144 (lS, lb, lbs) (if_neg (Int32.not_lt.mpr c124_20)).symm _ _ (hP.sub [0, 2, 3, 4, 5, 6, 7, 1] rfl) (hD.sub [0, 2, 3, 4, 5, 6, 7, 1] (by decide) rfl) hS ls (lv_sub hl [1, 2, 3, 0] rfl)
      · refine lv_aload_n hx hb dX15_lists_127 rfl (lv_at hl 1 rfl) ?_
        refine lv_aload_n hx hb dX15_lists_128 rfl (lv_at hl 0 rfl) ?_
        refine va_getN (D := (dC, dI)) (ci := 19) (v := .int sp_8) (C := RX14) (T := TX14) (N := 9) hx hb hts iWX14 hown hK hP 6 rfl rfl 6 (by decide) (va_Nw.use rfl (hN (.fieldLinkNest RX15 24 "BeaverhallModel$Run" "steps" "I" "BeaverhallModel") (by decide +kernel))) (fun _ h9 => h9) rfl dX15_lists_129 ?_
        refine va_put (D := (dC, dI)) (ci := 20) (v := .int sp_8) (ty := .int) (C := RX15) (T := TX15) (N := 21) hx hb hts iWX15 tyX15 tyX15_ok nmX15 hown hK hP hD hS 0 rfl rfl 18 (by decide) (hts (.fieldLink RX15 317 "BeaverhallModel" "listedSteps" "I") (by decide +kernel)) (fun _ h9 => h9) rfl (by decide +kernel) rfl rfl (Nat.le_of_ble_eq_true rfl) dX15_lists_132 (fun H locs hP hD hS => ?_)
        have hP : va_P (dC, dI) vwCl [(xm, .inr (20, [.int fA, .int fB, v2, v3, v4, v5, v6, v7, v8, v9, v10, v11, v12, v13, v14, .int x_15, .int lN, .int lO, .int sp_8, .int x_18, .ref lb])), (lb, .inr (18, lbs)), (ma, .inr (18, [.int 0, .int (nI S), .int (nI 2), .ref wa, .ref va, .ref na, .int (nI (n - 1)), .null, .int de, .int aa, .int bb, .ref tz])), (wa, .inl (cI, n, .inl w)), (va, .inl (cI, n, .inl mv)), (na, .inl (cI, n, .inl nx)), (q_1, .inr (19, [.ref ma, .ref q_2, .int st_4, .int ce_5, .int lf_6, .int rt_7, .int sp_8, .int hh_9, .int ib_10])), (q_2, .inl (cI, 1001, .inl f_11))] H := hP
        have hD : va_D A [(xm, .inr (20, [.int fA, .int fB, v2, v3, v4, v5, v6, v7, v8, v9, v10, v11, v12, v13, v14, .int x_15, .int lN, .int lO, .int sp_8, .int x_18, .ref lb])), (lb, .inr (18, lbs)), (ma, .inr (18, [.int 0, .int (nI S), .int (nI 2), .ref wa, .ref va, .ref na, .int (nI (n - 1)), .null, .int de, .int aa, .int bb, .ref tz])), (wa, .inl (cI, n, .inl w)), (va, .inl (cI, n, .inl mv)), (na, .inl (cI, n, .inl nx)), (q_1, .inr (19, [.ref ma, .ref q_2, .int st_4, .int ce_5, .int lf_6, .int rt_7, .int sp_8, .int hh_9, .int ib_10])), (q_2, .inl (cI, 1001, .inl f_11))] := hD
        refine lv_aload_n hx hb dX15_lists_135 rfl (lv_at hl 1 rfl) ?_
        refine lv_aload_n hx hb dX15_lists_136 rfl (lv_at hl 2 rfl) ?_
        refine lv_iconst (v := 0) hx hb dX15_lists_137 (by decide) ?_
        have hPc := hP.sub (ws' := [(ma, .inr (18, [.int 0, .int (nI S), .int (nI 2), .ref wa, .ref va, .ref na, .int (nI (n - 1)), .null, .int de, .int aa, .int bb, .ref tz])), (wa, .inl (cI, n, .inl w)), (va, .inl (cI, n, .inl mv)), (na, .inl (cI, n, .inl nx))]) [2, 3, 4, 5] rfl
        have hDc := hD.sub (ws' := [(ma, .inr (18, [.int 0, .int (nI S), .int (nI 2), .ref wa, .ref va, .ref na, .int (nI (n - 1)), .null, .int de, .int aa, .int bb, .ref tz])), (wa, .inl (cI, n, .inl w)), (va, .inl (cI, n, .inl mv)), (na, .inl (cI, n, .inl nx))]) [2, 3, 4, 5] (by decide) rfl
        have hKc := hK.sub (tys' := [(cI, .int)]) [0] rfl
        have hFc := va_free (wc := [(ma, .inr (18, [.int 0, .int (nI S), .int (nI 2), .ref wa, .ref va, .ref na, .int (nI (n - 1)), .null, .int de, .int aa, .int bb, .ref tz])), (wa, .inl (cI, n, .inl w)), (va, .inl (cI, n, .inl mv)), (na, .inl (cI, n, .inl nx))]) hD hS hA [2, 3, 4, 5] rfl
        refine va_callr (va_runV (As := [.int 0]) (rest := [.ref xm]) ⟨hx, hb, hml, hown, hts⟩ (c_X13_copy l dC dI cI ma wa va na tz n S 2 (nI (n - 1)) de aa bb w mv nx hM 0 H.size) (cwV 1 hts gX15_lists_X13_copy rfl rfl rfl (by decide +kernel) ⟨Nat.le_of_ble_eq_true rfl, Nat.le_of_ble_eq_true rfl⟩) (pcV hPc hDc hKc hN (ci := 18) (q0 := 0) rfl rfl) rfl rfl hl.1 rfl (lv_room (Nat.le_of_ble_eq_true rfl)) dX15_lists_138 ⟨Nat.le_of_ble_eq_true rfl, Nat.le_of_ble_eq_true rfl⟩) hS (fun q _ h => hFc q h) hFc (fun u r_28 t H1 locs ht hvm hw_29 hB hz1 hk1 hS => ?_)
        obtain ⟨⟨wa_21, va_22, na_23, tz_24⟩, w_25, mv_26, nx_27⟩ := u
        obtain ⟨hP1, hK1, hD1⟩ := hB
        rw [ht] at hP1
        try dsimp only at hw_29
        obtain ⟨hP, hD⟩ := va_join (wr := [(xm, .inr (20, [.int fA, .int fB, v2, v3, v4, v5, v6, v7, v8, v9, v10, v11, v12, v13, v14, .int x_15, .int lN, .int lO, .int sp_8, .int x_18, .ref lb])), (lb, .inr (18, lbs)), (q_1, .inr (19, [.ref ma, .ref q_2, .int st_4, .int ce_5, .int lf_6, .int rt_7, .int sp_8, .int hh_9, .int ib_10])), (q_2, .inl (cI, 1001, .inl f_11))]) (w1 := [(ma, .inr (18, [.int 0, .int (nI S), .int (nI 2), .ref wa, .ref va, .ref na, .int (nI (n - 1)), .null, .int de, .int aa, .int bb, .ref tz])), (wa, .inl (cI, n, .inl w)), (va, .inl (cI, n, .inl mv)), (na, .inl (cI, n, .inl nx)), (r_28, .inr (18, [.int 0, .int (nI S), .int (nI 2), .ref wa_21, .ref va_22, .ref na_23, .int (nI (n - 1)), .null, .int 63, .int 0, .int 0, .ref tz_24])), (wa_21, .inl (cI, (S * 2), .inl w_25)), (va_22, .inl (cI, (S * 2), .inl mv_26)), (na_23, .inl (cI, (S * 2), .inl nx_27))]) hP hD [2, 3, 4, 5] [0, 1, 6, 7] rfl rfl (by decide) (by decide) hk1 hFc hP1 hD1
        generalize H1 = H at hP hS ⊢
        have hP : va_P (dC, dI) vwCl [(xm, .inr (20, [.int fA, .int fB, v2, v3, v4, v5, v6, v7, v8, v9, v10, v11, v12, v13, v14, .int x_15, .int lN, .int lO, .int sp_8, .int x_18, .ref lb])), (lb, .inr (18, lbs)), (q_1, .inr (19, [.ref ma, .ref q_2, .int st_4, .int ce_5, .int lf_6, .int rt_7, .int sp_8, .int hh_9, .int ib_10])), (q_2, .inl (cI, 1001, .inl f_11)), (ma, .inr (18, [.int 0, .int (nI S), .int (nI 2), .ref wa, .ref va, .ref na, .int (nI (n - 1)), .null, .int de, .int aa, .int bb, .ref tz])), (wa, .inl (cI, n, .inl w)), (va, .inl (cI, n, .inl mv)), (na, .inl (cI, n, .inl nx)), (r_28, .inr (18, [.int 0, .int (nI S), .int (nI 2), .ref wa_21, .ref va_22, .ref na_23, .int (nI (n - 1)), .null, .int 63, .int 0, .int 0, .ref tz_24])), (wa_21, .inl (cI, (S * 2), .inl w_25)), (va_22, .inl (cI, (S * 2), .inl mv_26)), (na_23, .inl (cI, (S * 2), .inl nx_27))] H := hP
        have hD : va_D A [(xm, .inr (20, [.int fA, .int fB, v2, v3, v4, v5, v6, v7, v8, v9, v10, v11, v12, v13, v14, .int x_15, .int lN, .int lO, .int sp_8, .int x_18, .ref lb])), (lb, .inr (18, lbs)), (q_1, .inr (19, [.ref ma, .ref q_2, .int st_4, .int ce_5, .int lf_6, .int rt_7, .int sp_8, .int hh_9, .int ib_10])), (q_2, .inl (cI, 1001, .inl f_11)), (ma, .inr (18, [.int 0, .int (nI S), .int (nI 2), .ref wa, .ref va, .ref na, .int (nI (n - 1)), .null, .int de, .int aa, .int bb, .ref tz])), (wa, .inl (cI, n, .inl w)), (va, .inl (cI, n, .inl mv)), (na, .inl (cI, n, .inl nx)), (r_28, .inr (18, [.int 0, .int (nI S), .int (nI 2), .ref wa_21, .ref va_22, .ref na_23, .int (nI (n - 1)), .null, .int 63, .int 0, .int 0, .ref tz_24])), (wa_21, .inl (cI, (S * 2), .inl w_25)), (va_22, .inl (cI, (S * 2), .inl mv_26)), (na_23, .inl (cI, (S * 2), .inl nx_27))] := hD
        refine W.widen (k := 7) (n := 1098) (Nat.le_of_ble_eq_true rfl) (Nat.le_of_ble_eq_true rfl) ?_
        refine va_put (D := (dC, dI)) (ci := 20) (v := .ref r_28) (ty := .object "BeaverhallModel$Machine") (C := RX15) (T := TX15) (N := 21) hx hb hts iWX15 tyX15 tyX15_ok nmX15 hown hK hP hD hS 0 rfl rfl 20 (by decide) (hts (.fieldLink RX15 313 "BeaverhallModel" "listedBest" "LBeaverhallModel$Machine;") (by decide +kernel)) (fun _ h9 => h9) rfl (by decide +kernel) rfl rfl (Nat.le_of_ble_eq_true rfl) dX15_lists_141 (fun H locs hP hD hS => ?_)
        have hP : va_P (dC, dI) vwCl [(xm, .inr (20, [.int fA, .int fB, v2, v3, v4, v5, v6, v7, v8, v9, v10, v11, v12, v13, v14, .int x_15, .int lN, .int lO, .int sp_8, .int x_18, .ref r_28])), (lb, .inr (18, lbs)), (q_1, .inr (19, [.ref ma, .ref q_2, .int st_4, .int ce_5, .int lf_6, .int rt_7, .int sp_8, .int hh_9, .int ib_10])), (q_2, .inl (cI, 1001, .inl f_11)), (ma, .inr (18, [.int 0, .int (nI S), .int (nI 2), .ref wa, .ref va, .ref na, .int (nI (n - 1)), .null, .int de, .int aa, .int bb, .ref tz])), (wa, .inl (cI, n, .inl w)), (va, .inl (cI, n, .inl mv)), (na, .inl (cI, n, .inl nx)), (r_28, .inr (18, [.int 0, .int (nI S), .int (nI 2), .ref wa_21, .ref va_22, .ref na_23, .int (nI (n - 1)), .null, .int 63, .int 0, .int 0, .ref tz_24])), (wa_21, .inl (cI, (S * 2), .inl w_25)), (va_22, .inl (cI, (S * 2), .inl mv_26)), (na_23, .inl (cI, (S * 2), .inl nx_27))] H := hP
        have hD : va_D A [(xm, .inr (20, [.int fA, .int fB, v2, v3, v4, v5, v6, v7, v8, v9, v10, v11, v12, v13, v14, .int x_15, .int lN, .int lO, .int sp_8, .int x_18, .ref r_28])), (lb, .inr (18, lbs)), (q_1, .inr (19, [.ref ma, .ref q_2, .int st_4, .int ce_5, .int lf_6, .int rt_7, .int sp_8, .int hh_9, .int ib_10])), (q_2, .inl (cI, 1001, .inl f_11)), (ma, .inr (18, [.int 0, .int (nI S), .int (nI 2), .ref wa, .ref va, .ref na, .int (nI (n - 1)), .null, .int de, .int aa, .int bb, .ref tz])), (wa, .inl (cI, n, .inl w)), (va, .inl (cI, n, .inl mv)), (na, .inl (cI, n, .inl nx)), (r_28, .inr (18, [.int 0, .int (nI S), .int (nI 2), .ref wa_21, .ref va_22, .ref na_23, .int (nI (n - 1)), .null, .int 63, .int 0, .int 0, .ref tz_24])), (wa_21, .inl (cI, (S * 2), .inl w_25)), (va_22, .inl (cI, (S * 2), .inl mv_26)), (na_23, .inl (cI, (S * 2), .inl nx_27))] := hD
        exact hJ144 (sp_8, r_28, [.int 0, .int (nI S), .int (nI 2), .ref wa_21, .ref va_22, .ref na_23, .int (nI (n - 1)), .null, .int 63, .int 0, .int 0, .ref tz_24]) (if_pos (Int32.not_le.mp c124_20)).symm _ _ (hP.sub [0, 4, 5, 6, 7, 2, 3, 8] rfl) (hD.sub [0, 4, 5, 6, 7, 2, 3, 8] (by decide) rfl) hS ls (lv_sub hl [1, 2, 3, 0] rfl)
  · have hX : hnoX (nI 2) (cW T) (finX T k) = 0 := hF.2.2.2.2.2.1.symm.trans c17_14
    refine lv_aload_n hx hb dX15_lists_20 rfl (lv_at hl 1 rfl) ?_
    refine lv_aload_n hx hb dX15_lists_21 rfl (lv_at hl 2 rfl) ?_
    refine lv_iload_n hx hb dX15_lists_22 rfl (lv_at hl 3 rfl) ?_
    have hPc := hP.sub (ws' := [(xm, .inr (20, [.int fA, .int fB, v2, v3, v4, v5, v6, v7, v8, v9, v10, v11, v12, v13, v14, .int lH, .int lN, .int lO, .int lS, .int lM, .ref lb])), (ma, .inr (18, [.int 0, .int (nI S), .int (nI 2), .ref wa, .ref va, .ref na, .int (nI (n - 1)), .null, .int de, .int aa, .int bb, .ref tz])), (wa, .inl (cI, n, .inl w)), (va, .inl (cI, n, .inl mv)), (na, .inl (cI, n, .inl nx))]) [0, 2, 3, 4, 5] rfl
    have hDc := hD.sub (ws' := [(xm, .inr (20, [.int fA, .int fB, v2, v3, v4, v5, v6, v7, v8, v9, v10, v11, v12, v13, v14, .int lH, .int lN, .int lO, .int lS, .int lM, .ref lb])), (ma, .inr (18, [.int 0, .int (nI S), .int (nI 2), .ref wa, .ref va, .ref na, .int (nI (n - 1)), .null, .int de, .int aa, .int bb, .ref tz])), (wa, .inl (cI, n, .inl w)), (va, .inl (cI, n, .inl mv)), (na, .inl (cI, n, .inl nx))]) [0, 2, 3, 4, 5] (by decide) rfl
    have hKc := hK.sub (tys' := [(cI, .int)]) [0] rfl
    have hFc := va_free (wc := [(xm, .inr (20, [.int fA, .int fB, v2, v3, v4, v5, v6, v7, v8, v9, v10, v11, v12, v13, v14, .int lH, .int lN, .int lO, .int lS, .int lM, .ref lb])), (ma, .inr (18, [.int 0, .int (nI S), .int (nI 2), .ref wa, .ref va, .ref na, .int (nI (n - 1)), .null, .int de, .int aa, .int bb, .ref tz])), (wa, .inl (cI, n, .inl w)), (va, .inl (cI, n, .inl mv)), (na, .inl (cI, n, .inl nx))]) hD hS hA [0, 2, 3, 4, 5] rfl
    refine va_calli (va_runV (As := [.ref ma, .int (nI k)]) (rest := []) ⟨hx, hb, hml, hown, hts⟩ (c_X15_comesBack l dC dI cI xm fA fB lH lN lO lS lM v2 v3 v4 v5 v6 v7 v8 v9 v10 v11 v12 v13 v14 (.ref lb) ma wa va na tz n S 2 (nI (n - 1)) de aa bb w mv nx hM k (by omega) H.size) (cwV 2 hts gX15_lists_X15_comesBack rfl rfl rfl (by decide +kernel) ⟨Nat.le_of_ble_eq_true rfl, Nat.le_of_ble_eq_true rfl⟩) (pcV hPc hDc hKc hN (ci := 20) (q0 := 0) rfl rfl) rfl rfl hl.1 rfl (lv_room (Nat.le_of_ble_eq_true rfl)) dX15_lists_23 ⟨Nat.le_of_ble_eq_true rfl, Nat.le_of_ble_eq_true rfl⟩) hS (fun q _ h => hFc q h) hFc (fun r_32 u t H1 locs ht hvm hw_33 hB hz1 hk1 hS => ?_)
    obtain ⟨fA_30, fB_31⟩ := u
    obtain ⟨hP1, hK1, hD1⟩ := hB
    rw [ht] at hP1
    try dsimp only at hw_33
    obtain ⟨hP, hD⟩ := va_join (wr := [(lb, .inr (18, lbs)), (q_1, .inr (19, [.ref ma, .ref q_2, .int st_4, .int ce_5, .int lf_6, .int rt_7, .int sp_8, .int hh_9, .int ib_10])), (q_2, .inl (cI, 1001, .inl f_11))]) (w1 := [(xm, .inr (20, [.int fA_30, .int fB_31, v2, v3, v4, v5, v6, v7, v8, v9, v10, v11, v12, v13, v14, .int lH, .int lN, .int lO, .int lS, .int lM, .ref lb])), (ma, .inr (18, [.int 0, .int (nI S), .int (nI 2), .ref wa, .ref va, .ref na, .int (nI (n - 1)), .null, .int de, .int aa, .int bb, .ref tz])), (wa, .inl (cI, n, .inl w)), (va, .inl (cI, n, .inl mv)), (na, .inl (cI, n, .inl nx))]) hP hD [0, 2, 3, 4, 5] [1, 6, 7] rfl rfl (by decide) (by decide) hk1 hFc hP1 hD1
    generalize H1 = H at hP hS ⊢
    have hP : va_P (dC, dI) vwCl [(lb, .inr (18, lbs)), (q_1, .inr (19, [.ref ma, .ref q_2, .int st_4, .int ce_5, .int lf_6, .int rt_7, .int sp_8, .int hh_9, .int ib_10])), (q_2, .inl (cI, 1001, .inl f_11)), (xm, .inr (20, [.int fA_30, .int fB_31, v2, v3, v4, v5, v6, v7, v8, v9, v10, v11, v12, v13, v14, .int lH, .int lN, .int lO, .int lS, .int lM, .ref lb])), (ma, .inr (18, [.int 0, .int (nI S), .int (nI 2), .ref wa, .ref va, .ref na, .int (nI (n - 1)), .null, .int de, .int aa, .int bb, .ref tz])), (wa, .inl (cI, n, .inl w)), (va, .inl (cI, n, .inl mv)), (na, .inl (cI, n, .inl nx))] H := hP
    have hD : va_D A [(lb, .inr (18, lbs)), (q_1, .inr (19, [.ref ma, .ref q_2, .int st_4, .int ce_5, .int lf_6, .int rt_7, .int sp_8, .int hh_9, .int ib_10])), (q_2, .inl (cI, 1001, .inl f_11)), (xm, .inr (20, [.int fA_30, .int fB_31, v2, v3, v4, v5, v6, v7, v8, v9, v10, v11, v12, v13, v14, .int lH, .int lN, .int lO, .int lS, .int lM, .ref lb])), (ma, .inr (18, [.int 0, .int (nI S), .int (nI 2), .ref wa, .ref va, .ref na, .int (nI (n - 1)), .null, .int de, .int aa, .int bb, .ref tz])), (wa, .inl (cI, n, .inl w)), (va, .inl (cI, n, .inl mv)), (na, .inl (cI, n, .inl nx))] := hD
    refine W.widen (k := 6) (n := 3030) (Nat.le_of_ble_eq_true rfl) (Nat.le_of_ble_eq_true rfl) ?_
    refine lv_if_ne (tgt := 38) hx hb dX15_lists_26 (by decide) (fun c26_34 => ?_) (fun c26_34 => ?_)
    · have hN : nevP T k := Or.inl ((backP_sim (show okM S 2 n (cW T) (cM T) (cN T) from by rw [hn]; exact hM0) hsim k).mp (hw_33.elim (fun h => h.2) (fun h => absurd h.1 c26_34)))
      refine lv_iconst (v := 1) hx hb dX15_lists_38 (by decide) ?_
      refine lv_goto (tgt := 43) hx hb dX15_lists_39 (by decide) ?_
      refine lv_istore (lv' := [(4, .int 1), (3, .ref q_1), (0, .ref xm), (1, .ref ma), (2, .int (nI k))]) hx hb dX15_lists_43 hl (by decide) rfl (fun ls hl => ?_)
      refine lv_aload_n hx hb dX15_lists_45 rfl (lv_at hl 2 rfl) ?_
      refine lv_dup hx hb dX15_lists_46 rfl ?_
      refine va_get (D := (dC, dI)) (ci := 20) (v := .int lN) (C := RX15) (T := TX15) (N := 21) hx hb hts iWX15 hown hK hP 3 rfl rfl 16 (by decide) (hts (.fieldLink RX15 301 "BeaverhallModel" "listedNever" "I") (by decide +kernel)) (fun _ h9 => h9) rfl dX15_lists_47 ?_
      refine lv_iload hx hb dX15_lists_50 (lv_at hl 0 rfl) ?_
      refine lv_if_eq (tgt := 59) hx hb dX15_lists_52 (by decide) (fun c52_35 => ?_) (fun c52_35 => ?_)
      · exact absurd c52_35 (by decide)
      · refine lv_iconst (v := 1) hx hb dX15_lists_55 (by decide) ?_
        refine lv_goto (tgt := 60) hx hb dX15_lists_56 (by decide) ?_
        refine lv_iadd hx hb dX15_lists_60 ?_
        refine lv_topi (fun x_36 ex_36 => ?_)
        refine va_put (D := (dC, dI)) (ci := 20) (v := .int x_36) (ty := .int) (C := RX15) (T := TX15) (N := 21) hx hb hts iWX15 tyX15 tyX15_ok nmX15 hown hK hP hD hS 3 rfl rfl 16 (by decide) (hts (.fieldLink RX15 301 "BeaverhallModel" "listedNever" "I") (by decide +kernel)) (fun _ h9 => h9) rfl (by decide +kernel) rfl rfl (Nat.le_of_ble_eq_true rfl) dX15_lists_61 (fun H locs hP hD hS => ?_)
        have hP : va_P (dC, dI) vwCl [(lb, .inr (18, lbs)), (q_1, .inr (19, [.ref ma, .ref q_2, .int st_4, .int ce_5, .int lf_6, .int rt_7, .int sp_8, .int hh_9, .int ib_10])), (q_2, .inl (cI, 1001, .inl f_11)), (xm, .inr (20, [.int fA_30, .int fB_31, v2, v3, v4, v5, v6, v7, v8, v9, v10, v11, v12, v13, v14, .int lH, .int x_36, .int lO, .int lS, .int lM, .ref lb])), (ma, .inr (18, [.int 0, .int (nI S), .int (nI 2), .ref wa, .ref va, .ref na, .int (nI (n - 1)), .null, .int de, .int aa, .int bb, .ref tz])), (wa, .inl (cI, n, .inl w)), (va, .inl (cI, n, .inl mv)), (na, .inl (cI, n, .inl nx))] H := hP
        have hD : va_D A [(lb, .inr (18, lbs)), (q_1, .inr (19, [.ref ma, .ref q_2, .int st_4, .int ce_5, .int lf_6, .int rt_7, .int sp_8, .int hh_9, .int ib_10])), (q_2, .inl (cI, 1001, .inl f_11)), (xm, .inr (20, [.int fA_30, .int fB_31, v2, v3, v4, v5, v6, v7, v8, v9, v10, v11, v12, v13, v14, .int lH, .int x_36, .int lO, .int lS, .int lM, .ref lb])), (ma, .inr (18, [.int 0, .int (nI S), .int (nI 2), .ref wa, .ref va, .ref na, .int (nI (n - 1)), .null, .int de, .int aa, .int bb, .ref tz])), (wa, .inl (cI, n, .inl w)), (va, .inl (cI, n, .inl mv)), (na, .inl (cI, n, .inl nx))] := hD
        refine lv_aload_n hx hb dX15_lists_64 rfl (lv_at hl 2 rfl) ?_
        refine lv_dup hx hb dX15_lists_65 rfl ?_
        refine va_get (D := (dC, dI)) (ci := 20) (v := .int lO) (C := RX15) (T := TX15) (N := 21) hx hb hts iWX15 hown hK hP 3 rfl rfl 17 (by decide) (hts (.fieldLink RX15 304 "BeaverhallModel" "listedOpen" "I") (by decide +kernel)) (fun _ h9 => h9) rfl dX15_lists_66 ?_
        refine lv_iload hx hb dX15_lists_69 (lv_at hl 0 rfl) ?_
        refine lv_if_eq (tgt := 78) hx hb dX15_lists_71 (by decide) (fun c71_37 => ?_) (fun c71_37 => ?_)
        · exact absurd c71_37 (by decide)
        · refine lv_iconst (v := 0) hx hb dX15_lists_74 (by decide) ?_
          refine lv_goto (tgt := 79) hx hb dX15_lists_75 (by decide) ?_
          refine lv_iadd hx hb dX15_lists_79 ?_
          refine lv_topi (fun x_38 ex_38 => ?_)
          refine va_put (D := (dC, dI)) (ci := 20) (v := .int x_38) (ty := .int) (C := RX15) (T := TX15) (N := 21) hx hb hts iWX15 tyX15 tyX15_ok nmX15 hown hK hP hD hS 3 rfl rfl 17 (by decide) (hts (.fieldLink RX15 304 "BeaverhallModel" "listedOpen" "I") (by decide +kernel)) (fun _ h9 => h9) rfl (by decide +kernel) rfl rfl (Nat.le_of_ble_eq_true rfl) dX15_lists_80 (fun H locs hP hD hS => ?_)
          have hP : va_P (dC, dI) vwCl [(lb, .inr (18, lbs)), (q_1, .inr (19, [.ref ma, .ref q_2, .int st_4, .int ce_5, .int lf_6, .int rt_7, .int sp_8, .int hh_9, .int ib_10])), (q_2, .inl (cI, 1001, .inl f_11)), (xm, .inr (20, [.int fA_30, .int fB_31, v2, v3, v4, v5, v6, v7, v8, v9, v10, v11, v12, v13, v14, .int lH, .int x_36, .int x_38, .int lS, .int lM, .ref lb])), (ma, .inr (18, [.int 0, .int (nI S), .int (nI 2), .ref wa, .ref va, .ref na, .int (nI (n - 1)), .null, .int de, .int aa, .int bb, .ref tz])), (wa, .inl (cI, n, .inl w)), (va, .inl (cI, n, .inl mv)), (na, .inl (cI, n, .inl nx))] H := hP
          have hD : va_D A [(lb, .inr (18, lbs)), (q_1, .inr (19, [.ref ma, .ref q_2, .int st_4, .int ce_5, .int lf_6, .int rt_7, .int sp_8, .int hh_9, .int ib_10])), (q_2, .inl (cI, 1001, .inl f_11)), (xm, .inr (20, [.int fA_30, .int fB_31, v2, v3, v4, v5, v6, v7, v8, v9, v10, v11, v12, v13, v14, .int lH, .int x_36, .int x_38, .int lS, .int lM, .ref lb])), (ma, .inr (18, [.int 0, .int (nI S), .int (nI 2), .ref wa, .ref va, .ref na, .int (nI (n - 1)), .null, .int de, .int aa, .int bb, .ref tz])), (wa, .inl (cI, n, .inl w)), (va, .inl (cI, n, .inl mv)), (na, .inl (cI, n, .inl nx))] := hD
          have hP9 := hP.sub (ws' := [(xm, .inr (20, [.int fA_30, .int fB_31, v2, v3, v4, v5, v6, v7, v8, v9, v10, v11, v12, v13, v14, .int lH, .int x_36, .int x_38, .int lS, .int lM, .ref lb])), (ma, .inr (18, [.int 0, .int (nI S), .int (nI 2), .ref wa, .ref va, .ref na, .int (nI (n - 1)), .null, .int de, .int aa, .int bb, .ref tz])), (wa, .inl (cI, n, .inl w)), (va, .inl (cI, n, .inl mv)), (na, .inl (cI, n, .inl nx)), (lb, .inr (18, lbs))]) [3, 4, 5, 6, 7, 0] rfl
          have hD9 := hD.sub (ws' := [(xm, .inr (20, [.int fA_30, .int fB_31, v2, v3, v4, v5, v6, v7, v8, v9, v10, v11, v12, v13, v14, .int lH, .int x_36, .int x_38, .int lS, .int lM, .ref lb])), (ma, .inr (18, [.int 0, .int (nI S), .int (nI 2), .ref wa, .ref va, .ref na, .int (nI (n - 1)), .null, .int de, .int aa, .int bb, .ref tz])), (wa, .inl (cI, n, .inl w)), (va, .inl (cI, n, .inl mv)), (na, .inl (cI, n, .inl nx)), (lb, .inr (18, lbs))]) [3, 4, 5, 6, 7, 0] (by decide) rfl
          have hK9 := hK.sub (tys' := [(cI, .int)]) [0] rfl
          refine W.widen (k := 27) (n := 11182) (Nat.le_of_ble_eq_true rfl) (Nat.le_of_ble_eq_true rfl) ?_
          exact W.vret hx hb hr (fun t ht hW => ⟨⟨(fA_30, fB_31, lH, x_36, x_38, lS, lM, de, lb, lbs, w, mv, nx), rfl, ⟨hsim, by rw [listP_nev (d := 0) hX, nevC_yes hN]; simp [ex_36, ex_38]⟩, ⟨by rw [ht]; exact hP9, va_K.moved hW.alike hK9, hD9⟩⟩, hS.F ht⟩) hS.2.2 dX15_lists_83
    · have hN1 := hw_33.elim (fun h => absurd (h.1.symm.trans c26_34) (by decide)) (fun h => h.2)
      refine lv_aload_n hx hb dX15_lists_29 rfl (lv_at hl 1 rfl) ?_
      refine lv_aload_n hx hb dX15_lists_30 rfl (lv_at hl 2 rfl) ?_
      refine lv_iload_n hx hb dX15_lists_31 rfl (lv_at hl 3 rfl) ?_
      have hPc := hP.sub (ws' := [(xm, .inr (20, [.int fA_30, .int fB_31, v2, v3, v4, v5, v6, v7, v8, v9, v10, v11, v12, v13, v14, .int lH, .int lN, .int lO, .int lS, .int lM, .ref lb])), (ma, .inr (18, [.int 0, .int (nI S), .int (nI 2), .ref wa, .ref va, .ref na, .int (nI (n - 1)), .null, .int de, .int aa, .int bb, .ref tz])), (wa, .inl (cI, n, .inl w)), (va, .inl (cI, n, .inl mv)), (na, .inl (cI, n, .inl nx))]) [3, 4, 5, 6, 7] rfl
      have hDc := hD.sub (ws' := [(xm, .inr (20, [.int fA_30, .int fB_31, v2, v3, v4, v5, v6, v7, v8, v9, v10, v11, v12, v13, v14, .int lH, .int lN, .int lO, .int lS, .int lM, .ref lb])), (ma, .inr (18, [.int 0, .int (nI S), .int (nI 2), .ref wa, .ref va, .ref na, .int (nI (n - 1)), .null, .int de, .int aa, .int bb, .ref tz])), (wa, .inl (cI, n, .inl w)), (va, .inl (cI, n, .inl mv)), (na, .inl (cI, n, .inl nx))]) [3, 4, 5, 6, 7] (by decide) rfl
      have hKc := hK.sub (tys' := [(cI, .int)]) [0] rfl
      have hFc := va_free (wc := [(xm, .inr (20, [.int fA_30, .int fB_31, v2, v3, v4, v5, v6, v7, v8, v9, v10, v11, v12, v13, v14, .int lH, .int lN, .int lO, .int lS, .int lM, .ref lb])), (ma, .inr (18, [.int 0, .int (nI S), .int (nI 2), .ref wa, .ref va, .ref na, .int (nI (n - 1)), .null, .int de, .int aa, .int bb, .ref tz])), (wa, .inl (cI, n, .inl w)), (va, .inl (cI, n, .inl mv)), (na, .inl (cI, n, .inl nx))]) hD hS hA [3, 4, 5, 6, 7] rfl
      refine va_calli (va_runV (As := [.ref ma, .int (nI k)]) (rest := []) ⟨hx, hb, hml, hown, hts⟩ (c_X15_goesOn l dC dI cI xm fA_30 fB_31 lH lN lO lS lM v2 v3 v4 v5 v6 v7 v8 v9 v10 v11 v12 v13 v14 (.ref lb) ma wa va na tz n S 2 (nI (n - 1)) de aa bb w mv nx hM k hk H.size) (cwV 2 hts gX15_lists_X15_goesOn rfl rfl rfl (by decide +kernel) ⟨Nat.le_of_ble_eq_true rfl, Nat.le_of_ble_eq_true rfl⟩) (pcV hPc hDc hKc hN (ci := 20) (q0 := 0) rfl rfl) rfl rfl hl.1 rfl (lv_room (Nat.le_of_ble_eq_true rfl)) dX15_lists_32 ⟨Nat.le_of_ble_eq_true rfl, Nat.le_of_ble_eq_true rfl⟩) hS (fun q _ h => hFc q h) hFc (fun r_41 u t H1 locs ht hvm hw_42 hB hz1 hk1 hS => ?_)
      obtain ⟨fA_39, fB_40⟩ := u
      obtain ⟨hP1, hK1, hD1⟩ := hB
      rw [ht] at hP1
      try dsimp only at hw_42
      obtain ⟨hP, hD⟩ := va_join (wr := [(lb, .inr (18, lbs)), (q_1, .inr (19, [.ref ma, .ref q_2, .int st_4, .int ce_5, .int lf_6, .int rt_7, .int sp_8, .int hh_9, .int ib_10])), (q_2, .inl (cI, 1001, .inl f_11))]) (w1 := [(xm, .inr (20, [.int fA_39, .int fB_40, v2, v3, v4, v5, v6, v7, v8, v9, v10, v11, v12, v13, v14, .int lH, .int lN, .int lO, .int lS, .int lM, .ref lb])), (ma, .inr (18, [.int 0, .int (nI S), .int (nI 2), .ref wa, .ref va, .ref na, .int (nI (n - 1)), .null, .int de, .int aa, .int bb, .ref tz])), (wa, .inl (cI, n, .inl w)), (va, .inl (cI, n, .inl mv)), (na, .inl (cI, n, .inl nx))]) hP hD [3, 4, 5, 6, 7] [0, 1, 2] rfl rfl (by decide) (by decide) hk1 hFc hP1 hD1
      generalize H1 = H at hP hS ⊢
      have hP : va_P (dC, dI) vwCl [(lb, .inr (18, lbs)), (q_1, .inr (19, [.ref ma, .ref q_2, .int st_4, .int ce_5, .int lf_6, .int rt_7, .int sp_8, .int hh_9, .int ib_10])), (q_2, .inl (cI, 1001, .inl f_11)), (xm, .inr (20, [.int fA_39, .int fB_40, v2, v3, v4, v5, v6, v7, v8, v9, v10, v11, v12, v13, v14, .int lH, .int lN, .int lO, .int lS, .int lM, .ref lb])), (ma, .inr (18, [.int 0, .int (nI S), .int (nI 2), .ref wa, .ref va, .ref na, .int (nI (n - 1)), .null, .int de, .int aa, .int bb, .ref tz])), (wa, .inl (cI, n, .inl w)), (va, .inl (cI, n, .inl mv)), (na, .inl (cI, n, .inl nx))] H := hP
      have hD : va_D A [(lb, .inr (18, lbs)), (q_1, .inr (19, [.ref ma, .ref q_2, .int st_4, .int ce_5, .int lf_6, .int rt_7, .int sp_8, .int hh_9, .int ib_10])), (q_2, .inl (cI, 1001, .inl f_11)), (xm, .inr (20, [.int fA_39, .int fB_40, v2, v3, v4, v5, v6, v7, v8, v9, v10, v11, v12, v13, v14, .int lH, .int lN, .int lO, .int lS, .int lM, .ref lb])), (ma, .inr (18, [.int 0, .int (nI S), .int (nI 2), .ref wa, .ref va, .ref na, .int (nI (n - 1)), .null, .int de, .int aa, .int bb, .ref tz])), (wa, .inl (cI, n, .inl w)), (va, .inl (cI, n, .inl mv)), (na, .inl (cI, n, .inl nx))] := hD
      refine W.widen (k := 27) (n := 11182) (Nat.le_of_ble_eq_true rfl) (Nat.le_of_ble_eq_true rfl) ?_
      refine lv_if_eq (tgt := 42) hx hb dX15_lists_35 (by decide) (fun c35_43 => ?_) (fun c35_43 => ?_)
      · have hN2 := hw_42.elim (fun h => absurd (h.1.symm.trans c35_43) (by decide)) (fun h => h.2)
        have hN : ¬ nevP T k := fun h => h.elim (fun h => hN1 ((backP_sim (show okM S 2 n (cW T) (cM T) (cN T) from by rw [hn]; exact hM0) hsim k).mpr h)) (fun h => hN2 ((goP_sim (show okM S 2 n (cW T) (cM T) (cN T) from by rw [hn]; exact hM0) hsim k).mpr h))
        refine lv_iconst (v := 0) hx hb dX15_lists_42 (by decide) ?_
        refine lv_istore (lv' := [(4, .int 0), (3, .ref q_1), (0, .ref xm), (1, .ref ma), (2, .int (nI k))]) hx hb dX15_lists_43 hl (by decide) rfl (fun ls hl => ?_)
        refine lv_aload_n hx hb dX15_lists_45 rfl (lv_at hl 2 rfl) ?_
        refine lv_dup hx hb dX15_lists_46 rfl ?_
        refine va_get (D := (dC, dI)) (ci := 20) (v := .int lN) (C := RX15) (T := TX15) (N := 21) hx hb hts iWX15 hown hK hP 3 rfl rfl 16 (by decide) (hts (.fieldLink RX15 301 "BeaverhallModel" "listedNever" "I") (by decide +kernel)) (fun _ h9 => h9) rfl dX15_lists_47 ?_
        refine lv_iload hx hb dX15_lists_50 (lv_at hl 0 rfl) ?_
        refine lv_if_eq (tgt := 59) hx hb dX15_lists_52 (by decide) (fun c52_44 => ?_) (fun c52_44 => ?_)
        · refine lv_iconst (v := 0) hx hb dX15_lists_59 (by decide) ?_
          refine lv_iadd hx hb dX15_lists_60 ?_
          refine lv_topi (fun x_45 ex_45 => ?_)
          refine va_put (D := (dC, dI)) (ci := 20) (v := .int x_45) (ty := .int) (C := RX15) (T := TX15) (N := 21) hx hb hts iWX15 tyX15 tyX15_ok nmX15 hown hK hP hD hS 3 rfl rfl 16 (by decide) (hts (.fieldLink RX15 301 "BeaverhallModel" "listedNever" "I") (by decide +kernel)) (fun _ h9 => h9) rfl (by decide +kernel) rfl rfl (Nat.le_of_ble_eq_true rfl) dX15_lists_61 (fun H locs hP hD hS => ?_)
          have hP : va_P (dC, dI) vwCl [(lb, .inr (18, lbs)), (q_1, .inr (19, [.ref ma, .ref q_2, .int st_4, .int ce_5, .int lf_6, .int rt_7, .int sp_8, .int hh_9, .int ib_10])), (q_2, .inl (cI, 1001, .inl f_11)), (xm, .inr (20, [.int fA_39, .int fB_40, v2, v3, v4, v5, v6, v7, v8, v9, v10, v11, v12, v13, v14, .int lH, .int x_45, .int lO, .int lS, .int lM, .ref lb])), (ma, .inr (18, [.int 0, .int (nI S), .int (nI 2), .ref wa, .ref va, .ref na, .int (nI (n - 1)), .null, .int de, .int aa, .int bb, .ref tz])), (wa, .inl (cI, n, .inl w)), (va, .inl (cI, n, .inl mv)), (na, .inl (cI, n, .inl nx))] H := hP
          have hD : va_D A [(lb, .inr (18, lbs)), (q_1, .inr (19, [.ref ma, .ref q_2, .int st_4, .int ce_5, .int lf_6, .int rt_7, .int sp_8, .int hh_9, .int ib_10])), (q_2, .inl (cI, 1001, .inl f_11)), (xm, .inr (20, [.int fA_39, .int fB_40, v2, v3, v4, v5, v6, v7, v8, v9, v10, v11, v12, v13, v14, .int lH, .int x_45, .int lO, .int lS, .int lM, .ref lb])), (ma, .inr (18, [.int 0, .int (nI S), .int (nI 2), .ref wa, .ref va, .ref na, .int (nI (n - 1)), .null, .int de, .int aa, .int bb, .ref tz])), (wa, .inl (cI, n, .inl w)), (va, .inl (cI, n, .inl mv)), (na, .inl (cI, n, .inl nx))] := hD
          refine lv_aload_n hx hb dX15_lists_64 rfl (lv_at hl 2 rfl) ?_
          refine lv_dup hx hb dX15_lists_65 rfl ?_
          refine va_get (D := (dC, dI)) (ci := 20) (v := .int lO) (C := RX15) (T := TX15) (N := 21) hx hb hts iWX15 hown hK hP 3 rfl rfl 17 (by decide) (hts (.fieldLink RX15 304 "BeaverhallModel" "listedOpen" "I") (by decide +kernel)) (fun _ h9 => h9) rfl dX15_lists_66 ?_
          refine lv_iload hx hb dX15_lists_69 (lv_at hl 0 rfl) ?_
          refine lv_if_eq (tgt := 78) hx hb dX15_lists_71 (by decide) (fun c71_46 => ?_) (fun c71_46 => ?_)
          · refine lv_iconst (v := 1) hx hb dX15_lists_78 (by decide) ?_
            refine lv_iadd hx hb dX15_lists_79 ?_
            refine lv_topi (fun x_47 ex_47 => ?_)
            refine va_put (D := (dC, dI)) (ci := 20) (v := .int x_47) (ty := .int) (C := RX15) (T := TX15) (N := 21) hx hb hts iWX15 tyX15 tyX15_ok nmX15 hown hK hP hD hS 3 rfl rfl 17 (by decide) (hts (.fieldLink RX15 304 "BeaverhallModel" "listedOpen" "I") (by decide +kernel)) (fun _ h9 => h9) rfl (by decide +kernel) rfl rfl (Nat.le_of_ble_eq_true rfl) dX15_lists_80 (fun H locs hP hD hS => ?_)
            have hP : va_P (dC, dI) vwCl [(lb, .inr (18, lbs)), (q_1, .inr (19, [.ref ma, .ref q_2, .int st_4, .int ce_5, .int lf_6, .int rt_7, .int sp_8, .int hh_9, .int ib_10])), (q_2, .inl (cI, 1001, .inl f_11)), (xm, .inr (20, [.int fA_39, .int fB_40, v2, v3, v4, v5, v6, v7, v8, v9, v10, v11, v12, v13, v14, .int lH, .int x_45, .int x_47, .int lS, .int lM, .ref lb])), (ma, .inr (18, [.int 0, .int (nI S), .int (nI 2), .ref wa, .ref va, .ref na, .int (nI (n - 1)), .null, .int de, .int aa, .int bb, .ref tz])), (wa, .inl (cI, n, .inl w)), (va, .inl (cI, n, .inl mv)), (na, .inl (cI, n, .inl nx))] H := hP
            have hD : va_D A [(lb, .inr (18, lbs)), (q_1, .inr (19, [.ref ma, .ref q_2, .int st_4, .int ce_5, .int lf_6, .int rt_7, .int sp_8, .int hh_9, .int ib_10])), (q_2, .inl (cI, 1001, .inl f_11)), (xm, .inr (20, [.int fA_39, .int fB_40, v2, v3, v4, v5, v6, v7, v8, v9, v10, v11, v12, v13, v14, .int lH, .int x_45, .int x_47, .int lS, .int lM, .ref lb])), (ma, .inr (18, [.int 0, .int (nI S), .int (nI 2), .ref wa, .ref va, .ref na, .int (nI (n - 1)), .null, .int de, .int aa, .int bb, .ref tz])), (wa, .inl (cI, n, .inl w)), (va, .inl (cI, n, .inl mv)), (na, .inl (cI, n, .inl nx))] := hD
            have hP9 := hP.sub (ws' := [(xm, .inr (20, [.int fA_39, .int fB_40, v2, v3, v4, v5, v6, v7, v8, v9, v10, v11, v12, v13, v14, .int lH, .int x_45, .int x_47, .int lS, .int lM, .ref lb])), (ma, .inr (18, [.int 0, .int (nI S), .int (nI 2), .ref wa, .ref va, .ref na, .int (nI (n - 1)), .null, .int de, .int aa, .int bb, .ref tz])), (wa, .inl (cI, n, .inl w)), (va, .inl (cI, n, .inl mv)), (na, .inl (cI, n, .inl nx)), (lb, .inr (18, lbs))]) [3, 4, 5, 6, 7, 0] rfl
            have hD9 := hD.sub (ws' := [(xm, .inr (20, [.int fA_39, .int fB_40, v2, v3, v4, v5, v6, v7, v8, v9, v10, v11, v12, v13, v14, .int lH, .int x_45, .int x_47, .int lS, .int lM, .ref lb])), (ma, .inr (18, [.int 0, .int (nI S), .int (nI 2), .ref wa, .ref va, .ref na, .int (nI (n - 1)), .null, .int de, .int aa, .int bb, .ref tz])), (wa, .inl (cI, n, .inl w)), (va, .inl (cI, n, .inl mv)), (na, .inl (cI, n, .inl nx)), (lb, .inr (18, lbs))]) [3, 4, 5, 6, 7, 0] (by decide) rfl
            have hK9 := hK.sub (tys' := [(cI, .int)]) [0] rfl
            exact W.vret hx hb hr (fun t ht hW => ⟨⟨(fA_39, fB_40, lH, x_45, x_47, lS, lM, de, lb, lbs, w, mv, nx), rfl, ⟨hsim, by rw [listP_nev (d := 0) hX, nevC_no hN]; simp [ex_45, ex_47]⟩, ⟨by rw [ht]; exact hP9, va_K.moved hW.alike hK9, hD9⟩⟩, hS.F ht⟩) hS.2.2 dX15_lists_83
          · exact (c71_46 (by decide)).elim
        · exact (c52_44 (by decide)).elim
      · have hN : nevP T k := Or.inr ((goP_sim (show okM S 2 n (cW T) (cM T) (cN T) from by rw [hn]; exact hM0) hsim k).mp (hw_42.elim (fun h => h.2) (fun h => absurd h.1 c35_43)))
        refine lv_iconst (v := 1) hx hb dX15_lists_38 (by decide) ?_
        refine lv_goto (tgt := 43) hx hb dX15_lists_39 (by decide) ?_
        refine lv_istore (lv' := [(4, .int 1), (3, .ref q_1), (0, .ref xm), (1, .ref ma), (2, .int (nI k))]) hx hb dX15_lists_43 hl (by decide) rfl (fun ls hl => ?_)
        refine lv_aload_n hx hb dX15_lists_45 rfl (lv_at hl 2 rfl) ?_
        refine lv_dup hx hb dX15_lists_46 rfl ?_
        refine va_get (D := (dC, dI)) (ci := 20) (v := .int lN) (C := RX15) (T := TX15) (N := 21) hx hb hts iWX15 hown hK hP 3 rfl rfl 16 (by decide) (hts (.fieldLink RX15 301 "BeaverhallModel" "listedNever" "I") (by decide +kernel)) (fun _ h9 => h9) rfl dX15_lists_47 ?_
        refine lv_iload hx hb dX15_lists_50 (lv_at hl 0 rfl) ?_
        refine lv_if_eq (tgt := 59) hx hb dX15_lists_52 (by decide) (fun c52_48 => ?_) (fun c52_48 => ?_)
        · exact absurd c52_48 (by decide)
        · refine lv_iconst (v := 1) hx hb dX15_lists_55 (by decide) ?_
          refine lv_goto (tgt := 60) hx hb dX15_lists_56 (by decide) ?_
          refine lv_iadd hx hb dX15_lists_60 ?_
          refine lv_topi (fun x_49 ex_49 => ?_)
          refine va_put (D := (dC, dI)) (ci := 20) (v := .int x_49) (ty := .int) (C := RX15) (T := TX15) (N := 21) hx hb hts iWX15 tyX15 tyX15_ok nmX15 hown hK hP hD hS 3 rfl rfl 16 (by decide) (hts (.fieldLink RX15 301 "BeaverhallModel" "listedNever" "I") (by decide +kernel)) (fun _ h9 => h9) rfl (by decide +kernel) rfl rfl (Nat.le_of_ble_eq_true rfl) dX15_lists_61 (fun H locs hP hD hS => ?_)
          have hP : va_P (dC, dI) vwCl [(lb, .inr (18, lbs)), (q_1, .inr (19, [.ref ma, .ref q_2, .int st_4, .int ce_5, .int lf_6, .int rt_7, .int sp_8, .int hh_9, .int ib_10])), (q_2, .inl (cI, 1001, .inl f_11)), (xm, .inr (20, [.int fA_39, .int fB_40, v2, v3, v4, v5, v6, v7, v8, v9, v10, v11, v12, v13, v14, .int lH, .int x_49, .int lO, .int lS, .int lM, .ref lb])), (ma, .inr (18, [.int 0, .int (nI S), .int (nI 2), .ref wa, .ref va, .ref na, .int (nI (n - 1)), .null, .int de, .int aa, .int bb, .ref tz])), (wa, .inl (cI, n, .inl w)), (va, .inl (cI, n, .inl mv)), (na, .inl (cI, n, .inl nx))] H := hP
          have hD : va_D A [(lb, .inr (18, lbs)), (q_1, .inr (19, [.ref ma, .ref q_2, .int st_4, .int ce_5, .int lf_6, .int rt_7, .int sp_8, .int hh_9, .int ib_10])), (q_2, .inl (cI, 1001, .inl f_11)), (xm, .inr (20, [.int fA_39, .int fB_40, v2, v3, v4, v5, v6, v7, v8, v9, v10, v11, v12, v13, v14, .int lH, .int x_49, .int lO, .int lS, .int lM, .ref lb])), (ma, .inr (18, [.int 0, .int (nI S), .int (nI 2), .ref wa, .ref va, .ref na, .int (nI (n - 1)), .null, .int de, .int aa, .int bb, .ref tz])), (wa, .inl (cI, n, .inl w)), (va, .inl (cI, n, .inl mv)), (na, .inl (cI, n, .inl nx))] := hD
          refine lv_aload_n hx hb dX15_lists_64 rfl (lv_at hl 2 rfl) ?_
          refine lv_dup hx hb dX15_lists_65 rfl ?_
          refine va_get (D := (dC, dI)) (ci := 20) (v := .int lO) (C := RX15) (T := TX15) (N := 21) hx hb hts iWX15 hown hK hP 3 rfl rfl 17 (by decide) (hts (.fieldLink RX15 304 "BeaverhallModel" "listedOpen" "I") (by decide +kernel)) (fun _ h9 => h9) rfl dX15_lists_66 ?_
          refine lv_iload hx hb dX15_lists_69 (lv_at hl 0 rfl) ?_
          refine lv_if_eq (tgt := 78) hx hb dX15_lists_71 (by decide) (fun c71_50 => ?_) (fun c71_50 => ?_)
          · exact absurd c71_50 (by decide)
          · refine lv_iconst (v := 0) hx hb dX15_lists_74 (by decide) ?_
            refine lv_goto (tgt := 79) hx hb dX15_lists_75 (by decide) ?_
            refine lv_iadd hx hb dX15_lists_79 ?_
            refine lv_topi (fun x_51 ex_51 => ?_)
            refine va_put (D := (dC, dI)) (ci := 20) (v := .int x_51) (ty := .int) (C := RX15) (T := TX15) (N := 21) hx hb hts iWX15 tyX15 tyX15_ok nmX15 hown hK hP hD hS 3 rfl rfl 17 (by decide) (hts (.fieldLink RX15 304 "BeaverhallModel" "listedOpen" "I") (by decide +kernel)) (fun _ h9 => h9) rfl (by decide +kernel) rfl rfl (Nat.le_of_ble_eq_true rfl) dX15_lists_80 (fun H locs hP hD hS => ?_)
            have hP : va_P (dC, dI) vwCl [(lb, .inr (18, lbs)), (q_1, .inr (19, [.ref ma, .ref q_2, .int st_4, .int ce_5, .int lf_6, .int rt_7, .int sp_8, .int hh_9, .int ib_10])), (q_2, .inl (cI, 1001, .inl f_11)), (xm, .inr (20, [.int fA_39, .int fB_40, v2, v3, v4, v5, v6, v7, v8, v9, v10, v11, v12, v13, v14, .int lH, .int x_49, .int x_51, .int lS, .int lM, .ref lb])), (ma, .inr (18, [.int 0, .int (nI S), .int (nI 2), .ref wa, .ref va, .ref na, .int (nI (n - 1)), .null, .int de, .int aa, .int bb, .ref tz])), (wa, .inl (cI, n, .inl w)), (va, .inl (cI, n, .inl mv)), (na, .inl (cI, n, .inl nx))] H := hP
            have hD : va_D A [(lb, .inr (18, lbs)), (q_1, .inr (19, [.ref ma, .ref q_2, .int st_4, .int ce_5, .int lf_6, .int rt_7, .int sp_8, .int hh_9, .int ib_10])), (q_2, .inl (cI, 1001, .inl f_11)), (xm, .inr (20, [.int fA_39, .int fB_40, v2, v3, v4, v5, v6, v7, v8, v9, v10, v11, v12, v13, v14, .int lH, .int x_49, .int x_51, .int lS, .int lM, .ref lb])), (ma, .inr (18, [.int 0, .int (nI S), .int (nI 2), .ref wa, .ref va, .ref na, .int (nI (n - 1)), .null, .int de, .int aa, .int bb, .ref tz])), (wa, .inl (cI, n, .inl w)), (va, .inl (cI, n, .inl mv)), (na, .inl (cI, n, .inl nx))] := hD
            have hP9 := hP.sub (ws' := [(xm, .inr (20, [.int fA_39, .int fB_40, v2, v3, v4, v5, v6, v7, v8, v9, v10, v11, v12, v13, v14, .int lH, .int x_49, .int x_51, .int lS, .int lM, .ref lb])), (ma, .inr (18, [.int 0, .int (nI S), .int (nI 2), .ref wa, .ref va, .ref na, .int (nI (n - 1)), .null, .int de, .int aa, .int bb, .ref tz])), (wa, .inl (cI, n, .inl w)), (va, .inl (cI, n, .inl mv)), (na, .inl (cI, n, .inl nx)), (lb, .inr (18, lbs))]) [3, 4, 5, 6, 7, 0] rfl
            have hD9 := hD.sub (ws' := [(xm, .inr (20, [.int fA_39, .int fB_40, v2, v3, v4, v5, v6, v7, v8, v9, v10, v11, v12, v13, v14, .int lH, .int x_49, .int x_51, .int lS, .int lM, .ref lb])), (ma, .inr (18, [.int 0, .int (nI S), .int (nI 2), .ref wa, .ref va, .ref na, .int (nI (n - 1)), .null, .int de, .int aa, .int bb, .ref tz])), (wa, .inl (cI, n, .inl w)), (va, .inl (cI, n, .inl mv)), (na, .inl (cI, n, .inl nx)), (lb, .inr (18, lbs))]) [3, 4, 5, 6, 7, 0] (by decide) rfl
            have hK9 := hK.sub (tys' := [(cI, .int)]) [0] rfl
            exact W.vret hx hb hr (fun t ht hW => ⟨⟨(fA_39, fB_40, lH, x_49, x_51, lS, lM, de, lb, lbs, w, mv, nx), rfl, ⟨hsim, by rw [listP_nev (d := 0) hX, nevC_yes hN]; simp [ex_49, ex_51]⟩, ⟨by rw [ht]; exact hP9, va_K.moved hW.alike hK9, hD9⟩⟩, hS.F ht⟩) hS.2.2 dX15_lists_83
