theorem dX15_listAll_0 : decode cX15_listAll 0 = .ok (.aload_n 0, 1) := by decide +kernel
theorem dX15_listAll_1 : decode cX15_listAll 1 = .ok (.iconst 0, 1) := by decide +kernel
theorem dX15_listAll_2 : decode cX15_listAll 2 = .ok (.putfield 307, 3) := by decide +kernel
theorem dX15_listAll_5 : decode cX15_listAll 5 = .ok (.aload_n 0, 1) := by decide +kernel
theorem dX15_listAll_6 : decode cX15_listAll 6 = .ok (.iconst 0, 1) := by decide +kernel
theorem dX15_listAll_7 : decode cX15_listAll 7 = .ok (.putfield 301, 3) := by decide +kernel
theorem dX15_listAll_10 : decode cX15_listAll 10 = .ok (.aload_n 0, 1) := by decide +kernel
theorem dX15_listAll_11 : decode cX15_listAll 11 = .ok (.iconst 0, 1) := by decide +kernel
theorem dX15_listAll_12 : decode cX15_listAll 12 = .ok (.putfield 304, 3) := by decide +kernel
theorem dX15_listAll_15 : decode cX15_listAll 15 = .ok (.aload_n 0, 1) := by decide +kernel
theorem dX15_listAll_16 : decode cX15_listAll 16 = .ok (.iconst 0, 1) := by decide +kernel
theorem dX15_listAll_17 : decode cX15_listAll 17 = .ok (.putfield 317, 3) := by decide +kernel
theorem dX15_listAll_20 : decode cX15_listAll 20 = .ok (.aload_n 0, 1) := by decide +kernel
theorem dX15_listAll_21 : decode cX15_listAll 21 = .ok (.iconst 0, 1) := by decide +kernel
theorem dX15_listAll_22 : decode cX15_listAll 22 = .ok (.putfield 310, 3) := by decide +kernel
theorem dX15_listAll_25 : decode cX15_listAll 25 = .ok (.aload_n 0, 1) := by decide +kernel
theorem dX15_listAll_26 : decode cX15_listAll 26 = .ok (.aconst_null, 1) := by decide +kernel
theorem dX15_listAll_27 : decode cX15_listAll 27 = .ok (.putfield 313, 3) := by decide +kernel
theorem dX15_listAll_30 : decode cX15_listAll 30 = .ok (.aload_n 0, 1) := by decide +kernel
theorem dX15_listAll_31 : decode cX15_listAll 31 = .ok (.new 83, 3) := by decide +kernel
theorem dX15_listAll_34 : decode cX15_listAll 34 = .ok (.dup, 1) := by decide +kernel
theorem dX15_listAll_35 : decode cX15_listAll 35 = .ok (.iconst 0, 1) := by decide +kernel
theorem dX15_listAll_36 : decode cX15_listAll 36 = .ok (.iload_n 1, 1) := by decide +kernel
theorem dX15_listAll_37 : decode cX15_listAll 37 = .ok (.iconst 2, 1) := by decide +kernel
set_option maxRecDepth 20000 in
theorem ggX15_listAll_X13_init : GoodIn wsX15_listAll wsX13_init := goodIn_ca (goodIn_r _ [12, 13, 14, 15, 16, 17, 18, 19, 20, 21, 22, 23, 24, 25, 160, 161, 162, 163, 164, 165, 166, 167, 168, 169, 170, 171] rfl (by decide +kernel)) (goodIn_sub (fun _ h => List.mem_cons_of_mem _ (List.mem_append_left _ (List.mem_append_right _ h))) (by decide +kernel))
set_option maxRecDepth 20000 in
theorem gX15_listAll_X13_init : GoodIn wsX15_listAll (wsX13_init) := ggX15_listAll_X13_init
theorem dX15_listAll_38 : decode cX15_listAll 38 = .ok (.invokespecial 221, 3) := by decide +kernel
theorem dX15_listAll_41 : decode cX15_listAll 41 = .ok (.iload_n 2, 1) := by decide +kernel
set_option maxRecDepth 20000 in
theorem ggX15_listAll_X15_lists : GoodIn wsX15_listAll wsX15_lists := goodIn_ca (goodIn_ca (goodIn_r _ [30, 31, 32, 33, 2, 3, 1, 5, 34, 35, 36, 37, 6, 4, 38, 39, 40, 41, 42, 43, 44, 14, 15, 22, 45, 46, 47, 48, 49, 50, 51, 52, 53, 54, 55, 56, 57, 58, 59, 60, 61, 62, 63, 64, 65, 66, 67, 68, 69, 70, 71, 72, 73, 74, 9, 75, 21, 76, 77, 78, 29, 79, 80, 81, 82, 83, 84, 85, 86, 87, 88, 89, 90, 91, 92, 93, 94, 95, 96, 97, 98, 99, 100, 101, 102, 103, 104, 105, 106, 107, 108, 109, 110, 111, 112, 113, 114, 115, 116, 117, 118, 8, 19, 20, 23, 24, 25, 119, 120, 11, 12, 13, 16, 17, 18, 121, 122, 123, 124, 125, 126, 127, 128, 129, 130, 131, 132, 133, 134, 26, 27, 28, 135, 136, 137, 138, 172, 173, 174, 175, 176, 177, 178, 179, 180, 139, 140, 141, 142, 143, 144, 145, 146, 147, 148, 149, 150, 151, 152, 153, 154, 155, 156, 157, 158, 159, 160, 161, 162, 163, 164, 165, 166, 167, 168, 169, 170, 171] rfl (by decide +kernel)) (goodIn_sub (fun _ h => List.mem_cons_of_mem _ (List.mem_append_left _ (List.mem_append_right _ h))) (by decide +kernel))) (goodIn_sub (fun _ h => List.mem_cons_of_mem _ (List.mem_append_right _ h)) (by decide +kernel))
set_option maxRecDepth 20000 in
theorem gX15_listAll_X15_lists : GoodIn wsX15_listAll (wsV RX15 323 RX15 yX15_lists wsX15_lists) := goodIn_app (goodIn_of _ (by decide +kernel)) ggX15_listAll_X15_lists
theorem dX15_listAll_42 : decode cX15_listAll 42 = .ok (.invokevirtual 323, 3) := by decide +kernel
theorem dX15_listAll_45 : decode cX15_listAll 45 = .ok (.return_, 1) := by decide +kernel
set_option maxHeartbeats 4000000 in
set_option maxRecDepth 100000 in
/-- X15_listAll -/
theorem c_X15_listAll_1 (l : Launch) (dC : Nat → ClassId) (dI : Nat → Nat → Nat) (cI : ClassId) (xm : Nat) (fA fB lH lN lO lS lM : Int32) (v2 v3 v4 v5 v6 v7 v8 v9 v10 v11 v12 v13 v14 v20 : Value) (k : Nat) (hk : k ≤ 500) (sz : Nat) : Met l yX15_listAll wsX15_listAll ({ frames := 16, cells := 228, slots := 90642, locals := 370 }) (va_Pc [.ref xm, .int (nI 1), .int (nI k)] (cPC dC dI [(xm, .inr (20, [.int fA, .int fB, v2, v3, v4, v5, v6, v7, v8, v9, v10, v11, v12, v13, v14, .int lH, .int lN, .int lO, .int lS, .int lM, v20]))] [(cI, .int)] sz)) (va_Qv (fun (u : Int32 × Int32 × Int32 × Int32 × Int32 × Int32 × Int32 × Nat × List Value) => (u.2.2.1, u.2.2.2.1, u.2.2.2.2.1, u.2.2.2.2.2.1, u.2.2.2.2.2.2.1) = allP 1 k) (fun (u : Int32 × Int32 × Int32 × Int32 × Int32 × Int32 × Int32 × Nat × List Value) t => cQB dC dI [(xm, .inr (20, [.int u.1, .int u.2.1, v2, v3, v4, v5, v6, v7, v8, v9, v10, v11, v12, v13, v14, .int u.2.2.1, .int u.2.2.2.1, .int u.2.2.2.2.1, .int u.2.2.2.2.2.1, .int u.2.2.2.2.2.2.1, .ref u.2.2.2.2.2.2.2.1])), (u.2.2.2.2.2.2.2.1, .inr (18, u.2.2.2.2.2.2.2.2))] [(cI, .int)] (va_A [(xm, .inr (20, [.int fA, .int fB, v2, v3, v4, v5, v6, v7, v8, v9, v10, v11, v12, v13, v14, .int lH, .int lN, .int lO, .int lS, .int lM, v20]))] sz) t) (va_A [(xm, .inr (20, [.int fA, .int fB, v2, v3, v4, v5, v6, v7, v8, v9, v10, v11, v12, v13, v14, .int lH, .int lN, .int lO, .int lS, .int lM, v20]))] sz)) 228 90642 (va_A [(xm, .inr (20, [.int fA, .int fB, v2, v3, v4, v5, v6, v7, v8, v9, v10, v11, v12, v13, v14, .int lH, .int lN, .int lO, .int lS, .int lM, v20]))] sz) := by
  refine Met.ofW (cc := cX15_listAll) (maxL := 3) (ret := none) (by decide) rfl ?_
  intro p e s m args below meth c s₁ B hml hv
  obtain ⟨rfl, hsz, hP, hK, hD0, hN⟩ := hv
  have hx := B.exec
  have hb := B.bytes
  have hr := B.returns
  have hts := atoms_spec (ws := wsX15_listAll) B.pre
  have hown : s.vm.findClass RX15 = some m.cls := findClass_of_methodNamed B.named
  have hlocks := B.notSynchronized
  subst hsz
  have hD := hD0.self (sz := s.heap.size)
  generalize hAe : va_A [(xm, .inr (20, [.int fA, .int fB, v2, v3, v4, v5, v6, v7, v8, v9, v10, v11, v12, v13, v14, .int lH, .int lN, .int lO, .int lS, .int lM, v20]))] s.heap.size = A at hD ⊢
  have hA : ∀ q : Nat, s.heap.size ≤ q → A q := fun q h => by rw [← hAe]; exact Or.inr h
  have hS : va_S A s.heap s.heap [] := va_S.rf
  have hP : va_P (dC, dI) vwCl [(xm, .inr (20, [.int fA, .int fB, v2, v3, v4, v5, v6, v7, v8, v9, v10, v11, v12, v13, v14, .int lH, .int lN, .int lO, .int lS, .int lM, v20]))] s.heap := hP
  have hD : va_D A [(xm, .inr (20, [.int fA, .int fB, v2, v3, v4, v5, v6, v7, v8, v9, v10, v11, v12, v13, v14, .int lH, .int lN, .int lO, .int lS, .int lM, v20]))] := hD
  have hl := lv_entry ([.ref xm, .int (nI 1), .int (nI k)]) (n := 3) (Nat.le_of_ble_eq_true rfl)
  rw [lg_entry_eq]
  generalize (lg_sl ([.ref xm, .int (nI 1), .int (nI k)]) ++ List.replicate (3 - (lg_sl ([.ref xm, .int (nI 1), .int (nI k)])).length) Slot.unset).toArray = ls at hl ⊢
  have hl : lv_has ls 3 [(0, .ref xm), (1, .int (nI 1)), (2, .int (nI k))] := hl
  have iWX13 : ∀ w ∈ u_ws RX13 TX13 12, w ∈ wsX15_listAll := by decide +kernel
  have iWX15 : ∀ w ∈ u_ws RX15 TX15 21, w ∈ wsX15_listAll := by decide +kernel
  refine lv_aload_n hx hb dX15_listAll_0 rfl (lv_at hl 0 rfl) ?_
  refine lv_iconst (v := 0) hx hb dX15_listAll_1 (by decide) ?_
  refine va_put (D := (dC, dI)) (ci := 20) (v := .int 0) (ty := .int) (C := RX15) (T := TX15) (N := 21) hx hb hts iWX15 tyX15 tyX15_ok nmX15 hown hK hP hD hS 0 rfl rfl 15 (by decide) (hts (.fieldLink RX15 307 "BeaverhallModel" "listedHalting" "I") (by decide +kernel)) (fun _ h9 => h9) rfl (by decide +kernel) rfl rfl (Nat.le_of_ble_eq_true rfl) dX15_listAll_2 (fun H locs hP hD hS => ?_)
  have hP : va_P (dC, dI) vwCl [(xm, .inr (20, [.int fA, .int fB, v2, v3, v4, v5, v6, v7, v8, v9, v10, v11, v12, v13, v14, .int 0, .int lN, .int lO, .int lS, .int lM, v20]))] H := hP
  have hD : va_D A [(xm, .inr (20, [.int fA, .int fB, v2, v3, v4, v5, v6, v7, v8, v9, v10, v11, v12, v13, v14, .int 0, .int lN, .int lO, .int lS, .int lM, v20]))] := hD
  refine lv_aload_n hx hb dX15_listAll_5 rfl (lv_at hl 0 rfl) ?_
  refine lv_iconst (v := 0) hx hb dX15_listAll_6 (by decide) ?_
  refine va_put (D := (dC, dI)) (ci := 20) (v := .int 0) (ty := .int) (C := RX15) (T := TX15) (N := 21) hx hb hts iWX15 tyX15 tyX15_ok nmX15 hown hK hP hD hS 0 rfl rfl 16 (by decide) (hts (.fieldLink RX15 301 "BeaverhallModel" "listedNever" "I") (by decide +kernel)) (fun _ h9 => h9) rfl (by decide +kernel) rfl rfl (Nat.le_of_ble_eq_true rfl) dX15_listAll_7 (fun H locs hP hD hS => ?_)
  have hP : va_P (dC, dI) vwCl [(xm, .inr (20, [.int fA, .int fB, v2, v3, v4, v5, v6, v7, v8, v9, v10, v11, v12, v13, v14, .int 0, .int 0, .int lO, .int lS, .int lM, v20]))] H := hP
  have hD : va_D A [(xm, .inr (20, [.int fA, .int fB, v2, v3, v4, v5, v6, v7, v8, v9, v10, v11, v12, v13, v14, .int 0, .int 0, .int lO, .int lS, .int lM, v20]))] := hD
  refine lv_aload_n hx hb dX15_listAll_10 rfl (lv_at hl 0 rfl) ?_
  refine lv_iconst (v := 0) hx hb dX15_listAll_11 (by decide) ?_
  refine va_put (D := (dC, dI)) (ci := 20) (v := .int 0) (ty := .int) (C := RX15) (T := TX15) (N := 21) hx hb hts iWX15 tyX15 tyX15_ok nmX15 hown hK hP hD hS 0 rfl rfl 17 (by decide) (hts (.fieldLink RX15 304 "BeaverhallModel" "listedOpen" "I") (by decide +kernel)) (fun _ h9 => h9) rfl (by decide +kernel) rfl rfl (Nat.le_of_ble_eq_true rfl) dX15_listAll_12 (fun H locs hP hD hS => ?_)
  have hP : va_P (dC, dI) vwCl [(xm, .inr (20, [.int fA, .int fB, v2, v3, v4, v5, v6, v7, v8, v9, v10, v11, v12, v13, v14, .int 0, .int 0, .int 0, .int lS, .int lM, v20]))] H := hP
  have hD : va_D A [(xm, .inr (20, [.int fA, .int fB, v2, v3, v4, v5, v6, v7, v8, v9, v10, v11, v12, v13, v14, .int 0, .int 0, .int 0, .int lS, .int lM, v20]))] := hD
  refine lv_aload_n hx hb dX15_listAll_15 rfl (lv_at hl 0 rfl) ?_
  refine lv_iconst (v := 0) hx hb dX15_listAll_16 (by decide) ?_
  refine va_put (D := (dC, dI)) (ci := 20) (v := .int 0) (ty := .int) (C := RX15) (T := TX15) (N := 21) hx hb hts iWX15 tyX15 tyX15_ok nmX15 hown hK hP hD hS 0 rfl rfl 18 (by decide) (hts (.fieldLink RX15 317 "BeaverhallModel" "listedSteps" "I") (by decide +kernel)) (fun _ h9 => h9) rfl (by decide +kernel) rfl rfl (Nat.le_of_ble_eq_true rfl) dX15_listAll_17 (fun H locs hP hD hS => ?_)
  have hP : va_P (dC, dI) vwCl [(xm, .inr (20, [.int fA, .int fB, v2, v3, v4, v5, v6, v7, v8, v9, v10, v11, v12, v13, v14, .int 0, .int 0, .int 0, .int 0, .int lM, v20]))] H := hP
  have hD : va_D A [(xm, .inr (20, [.int fA, .int fB, v2, v3, v4, v5, v6, v7, v8, v9, v10, v11, v12, v13, v14, .int 0, .int 0, .int 0, .int 0, .int lM, v20]))] := hD
  refine lv_aload_n hx hb dX15_listAll_20 rfl (lv_at hl 0 rfl) ?_
  refine lv_iconst (v := 0) hx hb dX15_listAll_21 (by decide) ?_
  refine va_put (D := (dC, dI)) (ci := 20) (v := .int 0) (ty := .int) (C := RX15) (T := TX15) (N := 21) hx hb hts iWX15 tyX15 tyX15_ok nmX15 hown hK hP hD hS 0 rfl rfl 19 (by decide) (hts (.fieldLink RX15 310 "BeaverhallModel" "listedMarks" "I") (by decide +kernel)) (fun _ h9 => h9) rfl (by decide +kernel) rfl rfl (Nat.le_of_ble_eq_true rfl) dX15_listAll_22 (fun H locs hP hD hS => ?_)
  have hP : va_P (dC, dI) vwCl [(xm, .inr (20, [.int fA, .int fB, v2, v3, v4, v5, v6, v7, v8, v9, v10, v11, v12, v13, v14, .int 0, .int 0, .int 0, .int 0, .int 0, v20]))] H := hP
  have hD : va_D A [(xm, .inr (20, [.int fA, .int fB, v2, v3, v4, v5, v6, v7, v8, v9, v10, v11, v12, v13, v14, .int 0, .int 0, .int 0, .int 0, .int 0, v20]))] := hD
  refine lv_aload_n hx hb dX15_listAll_25 rfl (lv_at hl 0 rfl) ?_
  refine lv_null hx hb dX15_listAll_26 ?_
  refine va_put (D := (dC, dI)) (ci := 20) (v := .null) (ty := .object "BeaverhallModel$Machine") (C := RX15) (T := TX15) (N := 21) hx hb hts iWX15 tyX15 tyX15_ok nmX15 hown hK hP hD hS 0 rfl rfl 20 (by decide) (hts (.fieldLink RX15 313 "BeaverhallModel" "listedBest" "LBeaverhallModel$Machine;") (by decide +kernel)) (fun _ h9 => h9) rfl (by decide +kernel) rfl rfl (Nat.le_of_ble_eq_true rfl) dX15_listAll_27 (fun H locs hP hD hS => ?_)
  have hP : va_P (dC, dI) vwCl [(xm, .inr (20, [.int fA, .int fB, v2, v3, v4, v5, v6, v7, v8, v9, v10, v11, v12, v13, v14, .int 0, .int 0, .int 0, .int 0, .int 0, .null]))] H := hP
  have hD : va_D A [(xm, .inr (20, [.int fA, .int fB, v2, v3, v4, v5, v6, v7, v8, v9, v10, v11, v12, v13, v14, .int 0, .int 0, .int 0, .int 0, .int 0, .null]))] := hD
  refine lv_aload_n hx hb dX15_listAll_30 rfl (lv_at hl 0 rfl) ?_
  refine va_new (ci := 18) (fs := [.int 0, .int 0, .int 0, .null, .null, .null, .int 0, .null, .int 0, .int 0, .int 0, .null]) (C := RX13) (T := TX13) (N := 12) hx hb hts iWX13 tyX13 tyX13_ok hown (hts (.classLink RX15 83 RX13) (by decide +kernel)) (hts (.instantiable RX13 12) (by decide +kernel)) (hts (.initialized RX13) (by decide +kernel)) hK hP hD hS hA rfl (fun j hj => by rcases (show j = 0 ∨ j = 1 ∨ j = 2 ∨ j = 3 ∨ j = 4 ∨ j = 5 ∨ j = 6 ∨ j = 7 ∨ j = 8 ∨ j = 9 ∨ j = 10 ∨ j = 11 by omega) with rfl | rfl | rfl | rfl | rfl | rfl | rfl | rfl | rfl | rfl | rfl | rfl <;> rfl) (Nat.le_of_ble_eq_true rfl) (Nat.le_of_ble_eq_true rfl) dX15_listAll_31 (fun q_1 H hP hD hS => ?_)
  have hP : va_P (dC, dI) vwCl [(xm, .inr (20, [.int fA, .int fB, v2, v3, v4, v5, v6, v7, v8, v9, v10, v11, v12, v13, v14, .int 0, .int 0, .int 0, .int 0, .int 0, .null])), (q_1, .inr (18, [.int 0, .int 0, .int 0, .null, .null, .null, .int 0, .null, .int 0, .int 0, .int 0, .null]))] H := hP
  have hD : va_D A [(xm, .inr (20, [.int fA, .int fB, v2, v3, v4, v5, v6, v7, v8, v9, v10, v11, v12, v13, v14, .int 0, .int 0, .int 0, .int 0, .int 0, .null])), (q_1, .inr (18, [.int 0, .int 0, .int 0, .null, .null, .null, .int 0, .null, .int 0, .int 0, .int 0, .null]))] := hD
  refine W.widen (k := 1) (n := 12) (Nat.le_of_ble_eq_true rfl) (Nat.le_of_ble_eq_true rfl) ?_
  refine lv_dup hx hb dX15_listAll_34 rfl ?_
  refine lv_iconst (v := 0) hx hb dX15_listAll_35 (by decide) ?_
  refine lv_iload_n hx hb dX15_listAll_36 rfl (lv_at hl 1 rfl) ?_
  refine lv_iconst (v := 2) hx hb dX15_listAll_37 (by decide) ?_
  have hPc := hP.sub (ws' := [(q_1, .inr (18, [.int 0, .int 0, .int 0, .null, .null, .null, .int 0, .null, .int 0, .int 0, .int 0, .null]))]) [1] rfl
  have hDc := hD.sub (ws' := [(q_1, .inr (18, [.int 0, .int 0, .int 0, .null, .null, .null, .int 0, .null, .int 0, .int 0, .int 0, .null]))]) [1] (by decide) rfl
  have hKc := hK.sub (tys' := [(cI, .int)]) [0] rfl
  have hFc := va_free (wc := [(q_1, .inr (18, [.int 0, .int 0, .int 0, .null, .null, .null, .int 0, .null, .int 0, .int 0, .int 0, .null]))]) hD hS hA [1] rfl
  refine va_callv (va_runI (As := [.int 0, .int (nI 1), .int 2]) (rest := [.ref q_1, .ref xm]) ⟨hx, hb, hml, hown, hts⟩ (c_X13_init l dC dI cI q_1 1 2 (by decide) H.size) (cwI 3 hts gX15_listAll_X13_init rfl rfl rfl (hts (.initialized RX13) (by decide +kernel)) (hts (.methodLink RX15 221 yX13_init) (by decide +kernel)) (hts (.instanceMethod yX13_init) (by decide +kernel)) rfl (by decide +kernel) ⟨Nat.le_of_ble_eq_true rfl, Nat.le_of_ble_eq_true rfl⟩) (pcS hPc hDc hKc hN) rfl rfl hl.1 rfl (lv_room (Nat.le_of_ble_eq_true rfl)) dX15_listAll_38 ⟨Nat.le_of_ble_eq_true rfl, Nat.le_of_ble_eq_true rfl⟩) hS (fun q _ h => hFc q h) hFc (fun u t H1 locs ht hvm hw_6 hB hz1 hk1 hS => ?_)
  obtain ⟨wa_2, va_3, na_4, tz_5⟩ := u
  obtain ⟨hP1, hK1, hD1⟩ := hB
  rw [ht] at hP1
  try dsimp only at hw_6
  obtain ⟨hP, hD⟩ := va_join (wr := [(xm, .inr (20, [.int fA, .int fB, v2, v3, v4, v5, v6, v7, v8, v9, v10, v11, v12, v13, v14, .int 0, .int 0, .int 0, .int 0, .int 0, .null]))]) (w1 := [(q_1, .inr (18, [.int 0, .int (nI 1), .int (nI 2), .ref wa_2, .ref va_3, .ref na_4, .int 0, .null, .int 63, .int 0, .int 0, .ref tz_5])), (wa_2, .inl (cI, (1 * 2), .inl (fun q => if q < 1 * 2 then -1 else 0))), (va_3, .inl (cI, (1 * 2), .inl (fun _ => 0))), (na_4, .inl (cI, (1 * 2), .inl (fun _ => 0)))]) hP hD [1] [0] rfl rfl (by decide) (by decide) hk1 hFc hP1 hD1
  generalize H1 = H at hP hS ⊢
  have hP : va_P (dC, dI) vwCl [(xm, .inr (20, [.int fA, .int fB, v2, v3, v4, v5, v6, v7, v8, v9, v10, v11, v12, v13, v14, .int 0, .int 0, .int 0, .int 0, .int 0, .null])), (q_1, .inr (18, [.int 0, .int (nI 1), .int (nI 2), .ref wa_2, .ref va_3, .ref na_4, .int 0, .null, .int 63, .int 0, .int 0, .ref tz_5])), (wa_2, .inl (cI, (1 * 2), .inl (fun q => if q < 1 * 2 then -1 else 0))), (va_3, .inl (cI, (1 * 2), .inl (fun _ => 0))), (na_4, .inl (cI, (1 * 2), .inl (fun _ => 0)))] H := hP
  have hD : va_D A [(xm, .inr (20, [.int fA, .int fB, v2, v3, v4, v5, v6, v7, v8, v9, v10, v11, v12, v13, v14, .int 0, .int 0, .int 0, .int 0, .int 0, .null])), (q_1, .inr (18, [.int 0, .int (nI 1), .int (nI 2), .ref wa_2, .ref va_3, .ref na_4, .int 0, .null, .int 63, .int 0, .int 0, .ref tz_5])), (wa_2, .inl (cI, (1 * 2), .inl (fun q => if q < 1 * 2 then -1 else 0))), (va_3, .inl (cI, (1 * 2), .inl (fun _ => 0))), (na_4, .inl (cI, (1 * 2), .inl (fun _ => 0)))] := hD
  refine W.widen (k := 5) (n := 88) (Nat.le_of_ble_eq_true rfl) (Nat.le_of_ble_eq_true rfl) ?_
  refine lv_iload_n hx hb dX15_listAll_41 rfl (lv_at hl 2 rfl) ?_
  have hPc := hP.sub (ws' := [(xm, .inr (20, [.int fA, .int fB, v2, v3, v4, v5, v6, v7, v8, v9, v10, v11, v12, v13, v14, .int 0, .int 0, .int 0, .int 0, .int 0, .null])), (q_1, .inr (18, [.int 0, .int (nI 1), .int (nI 2), .ref wa_2, .ref va_3, .ref na_4, .int 0, .null, .int 63, .int 0, .int 0, .ref tz_5])), (wa_2, .inl (cI, (1 * 2), .inl (fun q => if q < 1 * 2 then -1 else 0))), (va_3, .inl (cI, (1 * 2), .inl (fun _ => 0))), (na_4, .inl (cI, (1 * 2), .inl (fun _ => 0)))]) [0, 1, 2, 3, 4] rfl
  have hDc := hD.sub (ws' := [(xm, .inr (20, [.int fA, .int fB, v2, v3, v4, v5, v6, v7, v8, v9, v10, v11, v12, v13, v14, .int 0, .int 0, .int 0, .int 0, .int 0, .null])), (q_1, .inr (18, [.int 0, .int (nI 1), .int (nI 2), .ref wa_2, .ref va_3, .ref na_4, .int 0, .null, .int 63, .int 0, .int 0, .ref tz_5])), (wa_2, .inl (cI, (1 * 2), .inl (fun q => if q < 1 * 2 then -1 else 0))), (va_3, .inl (cI, (1 * 2), .inl (fun _ => 0))), (na_4, .inl (cI, (1 * 2), .inl (fun _ => 0)))]) [0, 1, 2, 3, 4] (by decide) rfl
  have hKc := hK.sub (tys' := [(cI, .int)]) [0] rfl
  have hFc := va_free (wc := [(xm, .inr (20, [.int fA, .int fB, v2, v3, v4, v5, v6, v7, v8, v9, v10, v11, v12, v13, v14, .int 0, .int 0, .int 0, .int 0, .int 0, .null])), (q_1, .inr (18, [.int 0, .int (nI 1), .int (nI 2), .ref wa_2, .ref va_3, .ref na_4, .int 0, .null, .int 63, .int 0, .int 0, .ref tz_5])), (wa_2, .inl (cI, (1 * 2), .inl (fun q => if q < 1 * 2 then -1 else 0))), (va_3, .inl (cI, (1 * 2), .inl (fun _ => 0))), (na_4, .inl (cI, (1 * 2), .inl (fun _ => 0)))]) hD hS hA [0, 1, 2, 3, 4] rfl
  refine va_callv (va_runV (As := [.ref q_1, .int (nI k)]) (rest := []) ⟨hx, hb, hml, hown, hts⟩ (c_X15_lists0_2 l dC dI cI xm fA fB 0 0 0 0 0 v2 v3 v4 v5 v6 v7 v8 v9 v10 v11 v12 v13 v14 q_1 wa_2 va_3 na_4 tz_5 (1 * 2) 1 0 63 0 0 (fun q => if q < 1 * 2 then -1 else 0) (fun _ => 0) (fun _ => 0) (fun _ => 0) rfl k (by decide) (by decide) rfl (by decide) sim_zero (by decide) hk H.size) (cwV 2 hts gX15_listAll_X15_lists rfl rfl rfl (by decide +kernel) ⟨Nat.le_of_ble_eq_true rfl, Nat.le_of_ble_eq_true rfl⟩) (pcV hPc hDc hKc hN (ci := 20) (q0 := 0) rfl rfl) rfl rfl hl.1 rfl (lv_room (Nat.le_of_ble_eq_true rfl)) dX15_listAll_42 ⟨Nat.le_of_ble_eq_true rfl, Nat.le_of_ble_eq_true rfl⟩) hS (fun q _ h => hFc q h) hFc (fun u t H1 locs ht hvm hw_20 hB hz1 hk1 hS => ?_)
  obtain ⟨fA_7, fB_8, lH_9, lN_10, lO_11, lS_12, lM_13, de_14, lb_15, lbs_16, w_17, mv_18, nx_19⟩ := u
  obtain ⟨hP1, hK1, hD1⟩ := hB
  rw [ht] at hP1
  try dsimp only at hw_20
  obtain ⟨hP, hD⟩ := va_join (wr := []) (w1 := [(xm, .inr (20, [.int fA_7, .int fB_8, v2, v3, v4, v5, v6, v7, v8, v9, v10, v11, v12, v13, v14, .int lH_9, .int lN_10, .int lO_11, .int lS_12, .int lM_13, .ref lb_15])), (q_1, .inr (18, [.int 0, .int (nI 1), .int (nI 2), .ref wa_2, .ref va_3, .ref na_4, .int 0, .null, .int de_14, .int 0, .int 0, .ref tz_5])), (wa_2, .inl (cI, (1 * 2), .inl w_17)), (va_3, .inl (cI, (1 * 2), .inl mv_18)), (na_4, .inl (cI, (1 * 2), .inl nx_19)), (lb_15, .inr (18, lbs_16))]) hP hD [0, 1, 2, 3, 4] [] rfl rfl (by decide) (by decide) hk1 hFc hP1 hD1
  generalize H1 = H at hP hS ⊢
  have hP : va_P (dC, dI) vwCl [(xm, .inr (20, [.int fA_7, .int fB_8, v2, v3, v4, v5, v6, v7, v8, v9, v10, v11, v12, v13, v14, .int lH_9, .int lN_10, .int lO_11, .int lS_12, .int lM_13, .ref lb_15])), (q_1, .inr (18, [.int 0, .int (nI 1), .int (nI 2), .ref wa_2, .ref va_3, .ref na_4, .int 0, .null, .int de_14, .int 0, .int 0, .ref tz_5])), (wa_2, .inl (cI, (1 * 2), .inl w_17)), (va_3, .inl (cI, (1 * 2), .inl mv_18)), (na_4, .inl (cI, (1 * 2), .inl nx_19)), (lb_15, .inr (18, lbs_16))] H := hP
  have hD : va_D A [(xm, .inr (20, [.int fA_7, .int fB_8, v2, v3, v4, v5, v6, v7, v8, v9, v10, v11, v12, v13, v14, .int lH_9, .int lN_10, .int lO_11, .int lS_12, .int lM_13, .ref lb_15])), (q_1, .inr (18, [.int 0, .int (nI 1), .int (nI 2), .ref wa_2, .ref va_3, .ref na_4, .int 0, .null, .int de_14, .int 0, .int 0, .ref tz_5])), (wa_2, .inl (cI, (1 * 2), .inl w_17)), (va_3, .inl (cI, (1 * 2), .inl mv_18)), (na_4, .inl (cI, (1 * 2), .inl nx_19)), (lb_15, .inr (18, lbs_16))] := hD
  refine W.widen (k := 228) (n := 90642) (Nat.le_of_ble_eq_true rfl) (Nat.le_of_ble_eq_true rfl) ?_
  have hP9 := hP.sub (ws' := [(xm, .inr (20, [.int fA_7, .int fB_8, v2, v3, v4, v5, v6, v7, v8, v9, v10, v11, v12, v13, v14, .int lH_9, .int lN_10, .int lO_11, .int lS_12, .int lM_13, .ref lb_15])), (lb_15, .inr (18, lbs_16))]) [0, 5] rfl
  have hD9 := hD.sub (ws' := [(xm, .inr (20, [.int fA_7, .int fB_8, v2, v3, v4, v5, v6, v7, v8, v9, v10, v11, v12, v13, v14, .int lH_9, .int lN_10, .int lO_11, .int lS_12, .int lM_13, .ref lb_15])), (lb_15, .inr (18, lbs_16))]) [0, 5] (by decide) rfl
  have hK9 := hK.sub (tys' := [(cI, .int)]) [0] rfl
  exact W.vret hx hb hr (fun t ht hW => ⟨⟨(fA_7, fB_8, lH_9, lN_10, lO_11, lS_12, lM_13, lb_15, lbs_16), rfl, hw_20.2, ⟨by rw [ht]; exact hP9, va_K.moved hW.alike hK9, hD9⟩⟩, hS.F ht⟩) hS.2.2 dX15_listAll_45

set_option maxHeartbeats 4000000 in
set_option maxRecDepth 100000 in
/-- X15_listAll -/
theorem c_X15_listAll_2 (l : Launch) (dC : Nat → ClassId) (dI : Nat → Nat → Nat) (cI : ClassId) (xm : Nat) (fA fB lH lN lO lS lM : Int32) (v2 v3 v4 v5 v6 v7 v8 v9 v10 v11 v12 v13 v14 v20 : Value) (k : Nat) (hk : k ≤ 500) (sz : Nat) : Met l yX15_listAll wsX15_listAll ({ frames := 20, cells := 14340, slots := 5805426, locals := 450 }) (va_Pc [.ref xm, .int (nI 2), .int (nI k)] (cPC dC dI [(xm, .inr (20, [.int fA, .int fB, v2, v3, v4, v5, v6, v7, v8, v9, v10, v11, v12, v13, v14, .int lH, .int lN, .int lO, .int lS, .int lM, v20]))] [(cI, .int)] sz)) (va_Qv (fun (u : Int32 × Int32 × Int32 × Int32 × Int32 × Int32 × Int32 × Nat × List Value) => (u.2.2.1, u.2.2.2.1, u.2.2.2.2.1, u.2.2.2.2.2.1, u.2.2.2.2.2.2.1) = allP 2 k) (fun (u : Int32 × Int32 × Int32 × Int32 × Int32 × Int32 × Int32 × Nat × List Value) t => cQB dC dI [(xm, .inr (20, [.int u.1, .int u.2.1, v2, v3, v4, v5, v6, v7, v8, v9, v10, v11, v12, v13, v14, .int u.2.2.1, .int u.2.2.2.1, .int u.2.2.2.2.1, .int u.2.2.2.2.2.1, .int u.2.2.2.2.2.2.1, .ref u.2.2.2.2.2.2.2.1])), (u.2.2.2.2.2.2.2.1, .inr (18, u.2.2.2.2.2.2.2.2))] [(cI, .int)] (va_A [(xm, .inr (20, [.int fA, .int fB, v2, v3, v4, v5, v6, v7, v8, v9, v10, v11, v12, v13, v14, .int lH, .int lN, .int lO, .int lS, .int lM, v20]))] sz) t) (va_A [(xm, .inr (20, [.int fA, .int fB, v2, v3, v4, v5, v6, v7, v8, v9, v10, v11, v12, v13, v14, .int lH, .int lN, .int lO, .int lS, .int lM, v20]))] sz)) 14340 5805426 (va_A [(xm, .inr (20, [.int fA, .int fB, v2, v3, v4, v5, v6, v7, v8, v9, v10, v11, v12, v13, v14, .int lH, .int lN, .int lO, .int lS, .int lM, v20]))] sz) := by
  refine Met.ofW (cc := cX15_listAll) (maxL := 3) (ret := none) (by decide) rfl ?_
  intro p e s m args below meth c s₁ B hml hv
  obtain ⟨rfl, hsz, hP, hK, hD0, hN⟩ := hv
  have hx := B.exec
  have hb := B.bytes
  have hr := B.returns
  have hts := atoms_spec (ws := wsX15_listAll) B.pre
  have hown : s.vm.findClass RX15 = some m.cls := findClass_of_methodNamed B.named
  have hlocks := B.notSynchronized
  subst hsz
  have hD := hD0.self (sz := s.heap.size)
  generalize hAe : va_A [(xm, .inr (20, [.int fA, .int fB, v2, v3, v4, v5, v6, v7, v8, v9, v10, v11, v12, v13, v14, .int lH, .int lN, .int lO, .int lS, .int lM, v20]))] s.heap.size = A at hD ⊢
  have hA : ∀ q : Nat, s.heap.size ≤ q → A q := fun q h => by rw [← hAe]; exact Or.inr h
  have hS : va_S A s.heap s.heap [] := va_S.rf
  have hP : va_P (dC, dI) vwCl [(xm, .inr (20, [.int fA, .int fB, v2, v3, v4, v5, v6, v7, v8, v9, v10, v11, v12, v13, v14, .int lH, .int lN, .int lO, .int lS, .int lM, v20]))] s.heap := hP
  have hD : va_D A [(xm, .inr (20, [.int fA, .int fB, v2, v3, v4, v5, v6, v7, v8, v9, v10, v11, v12, v13, v14, .int lH, .int lN, .int lO, .int lS, .int lM, v20]))] := hD
  have hl := lv_entry ([.ref xm, .int (nI 2), .int (nI k)]) (n := 3) (Nat.le_of_ble_eq_true rfl)
  rw [lg_entry_eq]
  generalize (lg_sl ([.ref xm, .int (nI 2), .int (nI k)]) ++ List.replicate (3 - (lg_sl ([.ref xm, .int (nI 2), .int (nI k)])).length) Slot.unset).toArray = ls at hl ⊢
  have hl : lv_has ls 3 [(0, .ref xm), (1, .int (nI 2)), (2, .int (nI k))] := hl
  have iWX13 : ∀ w ∈ u_ws RX13 TX13 12, w ∈ wsX15_listAll := by decide +kernel
  have iWX15 : ∀ w ∈ u_ws RX15 TX15 21, w ∈ wsX15_listAll := by decide +kernel
  refine lv_aload_n hx hb dX15_listAll_0 rfl (lv_at hl 0 rfl) ?_
  refine lv_iconst (v := 0) hx hb dX15_listAll_1 (by decide) ?_
  refine va_put (D := (dC, dI)) (ci := 20) (v := .int 0) (ty := .int) (C := RX15) (T := TX15) (N := 21) hx hb hts iWX15 tyX15 tyX15_ok nmX15 hown hK hP hD hS 0 rfl rfl 15 (by decide) (hts (.fieldLink RX15 307 "BeaverhallModel" "listedHalting" "I") (by decide +kernel)) (fun _ h9 => h9) rfl (by decide +kernel) rfl rfl (Nat.le_of_ble_eq_true rfl) dX15_listAll_2 (fun H locs hP hD hS => ?_)
  have hP : va_P (dC, dI) vwCl [(xm, .inr (20, [.int fA, .int fB, v2, v3, v4, v5, v6, v7, v8, v9, v10, v11, v12, v13, v14, .int 0, .int lN, .int lO, .int lS, .int lM, v20]))] H := hP
  have hD : va_D A [(xm, .inr (20, [.int fA, .int fB, v2, v3, v4, v5, v6, v7, v8, v9, v10, v11, v12, v13, v14, .int 0, .int lN, .int lO, .int lS, .int lM, v20]))] := hD
  refine lv_aload_n hx hb dX15_listAll_5 rfl (lv_at hl 0 rfl) ?_
  refine lv_iconst (v := 0) hx hb dX15_listAll_6 (by decide) ?_
  refine va_put (D := (dC, dI)) (ci := 20) (v := .int 0) (ty := .int) (C := RX15) (T := TX15) (N := 21) hx hb hts iWX15 tyX15 tyX15_ok nmX15 hown hK hP hD hS 0 rfl rfl 16 (by decide) (hts (.fieldLink RX15 301 "BeaverhallModel" "listedNever" "I") (by decide +kernel)) (fun _ h9 => h9) rfl (by decide +kernel) rfl rfl (Nat.le_of_ble_eq_true rfl) dX15_listAll_7 (fun H locs hP hD hS => ?_)
  have hP : va_P (dC, dI) vwCl [(xm, .inr (20, [.int fA, .int fB, v2, v3, v4, v5, v6, v7, v8, v9, v10, v11, v12, v13, v14, .int 0, .int 0, .int lO, .int lS, .int lM, v20]))] H := hP
  have hD : va_D A [(xm, .inr (20, [.int fA, .int fB, v2, v3, v4, v5, v6, v7, v8, v9, v10, v11, v12, v13, v14, .int 0, .int 0, .int lO, .int lS, .int lM, v20]))] := hD
  refine lv_aload_n hx hb dX15_listAll_10 rfl (lv_at hl 0 rfl) ?_
  refine lv_iconst (v := 0) hx hb dX15_listAll_11 (by decide) ?_
  refine va_put (D := (dC, dI)) (ci := 20) (v := .int 0) (ty := .int) (C := RX15) (T := TX15) (N := 21) hx hb hts iWX15 tyX15 tyX15_ok nmX15 hown hK hP hD hS 0 rfl rfl 17 (by decide) (hts (.fieldLink RX15 304 "BeaverhallModel" "listedOpen" "I") (by decide +kernel)) (fun _ h9 => h9) rfl (by decide +kernel) rfl rfl (Nat.le_of_ble_eq_true rfl) dX15_listAll_12 (fun H locs hP hD hS => ?_)
  have hP : va_P (dC, dI) vwCl [(xm, .inr (20, [.int fA, .int fB, v2, v3, v4, v5, v6, v7, v8, v9, v10, v11, v12, v13, v14, .int 0, .int 0, .int 0, .int lS, .int lM, v20]))] H := hP
  have hD : va_D A [(xm, .inr (20, [.int fA, .int fB, v2, v3, v4, v5, v6, v7, v8, v9, v10, v11, v12, v13, v14, .int 0, .int 0, .int 0, .int lS, .int lM, v20]))] := hD
  refine lv_aload_n hx hb dX15_listAll_15 rfl (lv_at hl 0 rfl) ?_
  refine lv_iconst (v := 0) hx hb dX15_listAll_16 (by decide) ?_
  refine va_put (D := (dC, dI)) (ci := 20) (v := .int 0) (ty := .int) (C := RX15) (T := TX15) (N := 21) hx hb hts iWX15 tyX15 tyX15_ok nmX15 hown hK hP hD hS 0 rfl rfl 18 (by decide) (hts (.fieldLink RX15 317 "BeaverhallModel" "listedSteps" "I") (by decide +kernel)) (fun _ h9 => h9) rfl (by decide +kernel) rfl rfl (Nat.le_of_ble_eq_true rfl) dX15_listAll_17 (fun H locs hP hD hS => ?_)
  have hP : va_P (dC, dI) vwCl [(xm, .inr (20, [.int fA, .int fB, v2, v3, v4, v5, v6, v7, v8, v9, v10, v11, v12, v13, v14, .int 0, .int 0, .int 0, .int 0, .int lM, v20]))] H := hP
  have hD : va_D A [(xm, .inr (20, [.int fA, .int fB, v2, v3, v4, v5, v6, v7, v8, v9, v10, v11, v12, v13, v14, .int 0, .int 0, .int 0, .int 0, .int lM, v20]))] := hD
  refine lv_aload_n hx hb dX15_listAll_20 rfl (lv_at hl 0 rfl) ?_
  refine lv_iconst (v := 0) hx hb dX15_listAll_21 (by decide) ?_
  refine va_put (D := (dC, dI)) (ci := 20) (v := .int 0) (ty := .int) (C := RX15) (T := TX15) (N := 21) hx hb hts iWX15 tyX15 tyX15_ok nmX15 hown hK hP hD hS 0 rfl rfl 19 (by decide) (hts (.fieldLink RX15 310 "BeaverhallModel" "listedMarks" "I") (by decide +kernel)) (fun _ h9 => h9) rfl (by decide +kernel) rfl rfl (Nat.le_of_ble_eq_true rfl) dX15_listAll_22 (fun H locs hP hD hS => ?_)
  have hP : va_P (dC, dI) vwCl [(xm, .inr (20, [.int fA, .int fB, v2, v3, v4, v5, v6, v7, v8, v9, v10, v11, v12, v13, v14, .int 0, .int 0, .int 0, .int 0, .int 0, v20]))] H := hP
  have hD : va_D A [(xm, .inr (20, [.int fA, .int fB, v2, v3, v4, v5, v6, v7, v8, v9, v10, v11, v12, v13, v14, .int 0, .int 0, .int 0, .int 0, .int 0, v20]))] := hD
  refine lv_aload_n hx hb dX15_listAll_25 rfl (lv_at hl 0 rfl) ?_
  refine lv_null hx hb dX15_listAll_26 ?_
  refine va_put (D := (dC, dI)) (ci := 20) (v := .null) (ty := .object "BeaverhallModel$Machine") (C := RX15) (T := TX15) (N := 21) hx hb hts iWX15 tyX15 tyX15_ok nmX15 hown hK hP hD hS 0 rfl rfl 20 (by decide) (hts (.fieldLink RX15 313 "BeaverhallModel" "listedBest" "LBeaverhallModel$Machine;") (by decide +kernel)) (fun _ h9 => h9) rfl (by decide +kernel) rfl rfl (Nat.le_of_ble_eq_true rfl) dX15_listAll_27 (fun H locs hP hD hS => ?_)
  have hP : va_P (dC, dI) vwCl [(xm, .inr (20, [.int fA, .int fB, v2, v3, v4, v5, v6, v7, v8, v9, v10, v11, v12, v13, v14, .int 0, .int 0, .int 0, .int 0, .int 0, .null]))] H := hP
  have hD : va_D A [(xm, .inr (20, [.int fA, .int fB, v2, v3, v4, v5, v6, v7, v8, v9, v10, v11, v12, v13, v14, .int 0, .int 0, .int 0, .int 0, .int 0, .null]))] := hD
  refine lv_aload_n hx hb dX15_listAll_30 rfl (lv_at hl 0 rfl) ?_
  refine va_new (ci := 18) (fs := [.int 0, .int 0, .int 0, .null, .null, .null, .int 0, .null, .int 0, .int 0, .int 0, .null]) (C := RX13) (T := TX13) (N := 12) hx hb hts iWX13 tyX13 tyX13_ok hown (hts (.classLink RX15 83 RX13) (by decide +kernel)) (hts (.instantiable RX13 12) (by decide +kernel)) (hts (.initialized RX13) (by decide +kernel)) hK hP hD hS hA rfl (fun j hj => by rcases (show j = 0 ∨ j = 1 ∨ j = 2 ∨ j = 3 ∨ j = 4 ∨ j = 5 ∨ j = 6 ∨ j = 7 ∨ j = 8 ∨ j = 9 ∨ j = 10 ∨ j = 11 by omega) with rfl | rfl | rfl | rfl | rfl | rfl | rfl | rfl | rfl | rfl | rfl | rfl <;> rfl) (Nat.le_of_ble_eq_true rfl) (Nat.le_of_ble_eq_true rfl) dX15_listAll_31 (fun q_1 H hP hD hS => ?_)
  have hP : va_P (dC, dI) vwCl [(xm, .inr (20, [.int fA, .int fB, v2, v3, v4, v5, v6, v7, v8, v9, v10, v11, v12, v13, v14, .int 0, .int 0, .int 0, .int 0, .int 0, .null])), (q_1, .inr (18, [.int 0, .int 0, .int 0, .null, .null, .null, .int 0, .null, .int 0, .int 0, .int 0, .null]))] H := hP
  have hD : va_D A [(xm, .inr (20, [.int fA, .int fB, v2, v3, v4, v5, v6, v7, v8, v9, v10, v11, v12, v13, v14, .int 0, .int 0, .int 0, .int 0, .int 0, .null])), (q_1, .inr (18, [.int 0, .int 0, .int 0, .null, .null, .null, .int 0, .null, .int 0, .int 0, .int 0, .null]))] := hD
  refine W.widen (k := 1) (n := 12) (Nat.le_of_ble_eq_true rfl) (Nat.le_of_ble_eq_true rfl) ?_
  refine lv_dup hx hb dX15_listAll_34 rfl ?_
  refine lv_iconst (v := 0) hx hb dX15_listAll_35 (by decide) ?_
  refine lv_iload_n hx hb dX15_listAll_36 rfl (lv_at hl 1 rfl) ?_
  refine lv_iconst (v := 2) hx hb dX15_listAll_37 (by decide) ?_
  have hPc := hP.sub (ws' := [(q_1, .inr (18, [.int 0, .int 0, .int 0, .null, .null, .null, .int 0, .null, .int 0, .int 0, .int 0, .null]))]) [1] rfl
  have hDc := hD.sub (ws' := [(q_1, .inr (18, [.int 0, .int 0, .int 0, .null, .null, .null, .int 0, .null, .int 0, .int 0, .int 0, .null]))]) [1] (by decide) rfl
  have hKc := hK.sub (tys' := [(cI, .int)]) [0] rfl
  have hFc := va_free (wc := [(q_1, .inr (18, [.int 0, .int 0, .int 0, .null, .null, .null, .int 0, .null, .int 0, .int 0, .int 0, .null]))]) hD hS hA [1] rfl
  refine va_callv (va_runI (As := [.int 0, .int (nI 2), .int 2]) (rest := [.ref q_1, .ref xm]) ⟨hx, hb, hml, hown, hts⟩ (c_X13_init l dC dI cI q_1 2 2 (by decide) H.size) (cwI 3 hts gX15_listAll_X13_init rfl rfl rfl (hts (.initialized RX13) (by decide +kernel)) (hts (.methodLink RX15 221 yX13_init) (by decide +kernel)) (hts (.instanceMethod yX13_init) (by decide +kernel)) rfl (by decide +kernel) ⟨Nat.le_of_ble_eq_true rfl, Nat.le_of_ble_eq_true rfl⟩) (pcS hPc hDc hKc hN) rfl rfl hl.1 rfl (lv_room (Nat.le_of_ble_eq_true rfl)) dX15_listAll_38 ⟨Nat.le_of_ble_eq_true rfl, Nat.le_of_ble_eq_true rfl⟩) hS (fun q _ h => hFc q h) hFc (fun u t H1 locs ht hvm hw_6 hB hz1 hk1 hS => ?_)
  obtain ⟨wa_2, va_3, na_4, tz_5⟩ := u
  obtain ⟨hP1, hK1, hD1⟩ := hB
  rw [ht] at hP1
  try dsimp only at hw_6
  obtain ⟨hP, hD⟩ := va_join (wr := [(xm, .inr (20, [.int fA, .int fB, v2, v3, v4, v5, v6, v7, v8, v9, v10, v11, v12, v13, v14, .int 0, .int 0, .int 0, .int 0, .int 0, .null]))]) (w1 := [(q_1, .inr (18, [.int 0, .int (nI 2), .int (nI 2), .ref wa_2, .ref va_3, .ref na_4, .int 0, .null, .int 63, .int 0, .int 0, .ref tz_5])), (wa_2, .inl (cI, (2 * 2), .inl (fun q => if q < 2 * 2 then -1 else 0))), (va_3, .inl (cI, (2 * 2), .inl (fun _ => 0))), (na_4, .inl (cI, (2 * 2), .inl (fun _ => 0)))]) hP hD [1] [0] rfl rfl (by decide) (by decide) hk1 hFc hP1 hD1
  generalize H1 = H at hP hS ⊢
  have hP : va_P (dC, dI) vwCl [(xm, .inr (20, [.int fA, .int fB, v2, v3, v4, v5, v6, v7, v8, v9, v10, v11, v12, v13, v14, .int 0, .int 0, .int 0, .int 0, .int 0, .null])), (q_1, .inr (18, [.int 0, .int (nI 2), .int (nI 2), .ref wa_2, .ref va_3, .ref na_4, .int 0, .null, .int 63, .int 0, .int 0, .ref tz_5])), (wa_2, .inl (cI, (2 * 2), .inl (fun q => if q < 2 * 2 then -1 else 0))), (va_3, .inl (cI, (2 * 2), .inl (fun _ => 0))), (na_4, .inl (cI, (2 * 2), .inl (fun _ => 0)))] H := hP
  have hD : va_D A [(xm, .inr (20, [.int fA, .int fB, v2, v3, v4, v5, v6, v7, v8, v9, v10, v11, v12, v13, v14, .int 0, .int 0, .int 0, .int 0, .int 0, .null])), (q_1, .inr (18, [.int 0, .int (nI 2), .int (nI 2), .ref wa_2, .ref va_3, .ref na_4, .int 0, .null, .int 63, .int 0, .int 0, .ref tz_5])), (wa_2, .inl (cI, (2 * 2), .inl (fun q => if q < 2 * 2 then -1 else 0))), (va_3, .inl (cI, (2 * 2), .inl (fun _ => 0))), (na_4, .inl (cI, (2 * 2), .inl (fun _ => 0)))] := hD
  refine W.widen (k := 5) (n := 88) (Nat.le_of_ble_eq_true rfl) (Nat.le_of_ble_eq_true rfl) ?_
  refine lv_iload_n hx hb dX15_listAll_41 rfl (lv_at hl 2 rfl) ?_
  have hPc := hP.sub (ws' := [(xm, .inr (20, [.int fA, .int fB, v2, v3, v4, v5, v6, v7, v8, v9, v10, v11, v12, v13, v14, .int 0, .int 0, .int 0, .int 0, .int 0, .null])), (q_1, .inr (18, [.int 0, .int (nI 2), .int (nI 2), .ref wa_2, .ref va_3, .ref na_4, .int 0, .null, .int 63, .int 0, .int 0, .ref tz_5])), (wa_2, .inl (cI, (2 * 2), .inl (fun q => if q < 2 * 2 then -1 else 0))), (va_3, .inl (cI, (2 * 2), .inl (fun _ => 0))), (na_4, .inl (cI, (2 * 2), .inl (fun _ => 0)))]) [0, 1, 2, 3, 4] rfl
  have hDc := hD.sub (ws' := [(xm, .inr (20, [.int fA, .int fB, v2, v3, v4, v5, v6, v7, v8, v9, v10, v11, v12, v13, v14, .int 0, .int 0, .int 0, .int 0, .int 0, .null])), (q_1, .inr (18, [.int 0, .int (nI 2), .int (nI 2), .ref wa_2, .ref va_3, .ref na_4, .int 0, .null, .int 63, .int 0, .int 0, .ref tz_5])), (wa_2, .inl (cI, (2 * 2), .inl (fun q => if q < 2 * 2 then -1 else 0))), (va_3, .inl (cI, (2 * 2), .inl (fun _ => 0))), (na_4, .inl (cI, (2 * 2), .inl (fun _ => 0)))]) [0, 1, 2, 3, 4] (by decide) rfl
  have hKc := hK.sub (tys' := [(cI, .int)]) [0] rfl
  have hFc := va_free (wc := [(xm, .inr (20, [.int fA, .int fB, v2, v3, v4, v5, v6, v7, v8, v9, v10, v11, v12, v13, v14, .int 0, .int 0, .int 0, .int 0, .int 0, .null])), (q_1, .inr (18, [.int 0, .int (nI 2), .int (nI 2), .ref wa_2, .ref va_3, .ref na_4, .int 0, .null, .int 63, .int 0, .int 0, .ref tz_5])), (wa_2, .inl (cI, (2 * 2), .inl (fun q => if q < 2 * 2 then -1 else 0))), (va_3, .inl (cI, (2 * 2), .inl (fun _ => 0))), (na_4, .inl (cI, (2 * 2), .inl (fun _ => 0)))]) hD hS hA [0, 1, 2, 3, 4] rfl
  refine va_callv (va_runV (As := [.ref q_1, .int (nI k)]) (rest := []) ⟨hx, hb, hml, hown, hts⟩ (c_X15_lists0_4 l dC dI cI xm fA fB 0 0 0 0 0 v2 v3 v4 v5 v6 v7 v8 v9 v10 v11 v12 v13 v14 q_1 wa_2 va_3 na_4 tz_5 (2 * 2) 2 0 63 0 0 (fun q => if q < 2 * 2 then -1 else 0) (fun _ => 0) (fun _ => 0) (fun _ => 0) rfl k (by decide) (by decide) rfl (by decide) sim_zero (by decide) hk H.size) (cwV 2 hts gX15_listAll_X15_lists rfl rfl rfl (by decide +kernel) ⟨Nat.le_of_ble_eq_true rfl, Nat.le_of_ble_eq_true rfl⟩) (pcV hPc hDc hKc hN (ci := 20) (q0 := 0) rfl rfl) rfl rfl hl.1 rfl (lv_room (Nat.le_of_ble_eq_true rfl)) dX15_listAll_42 ⟨Nat.le_of_ble_eq_true rfl, Nat.le_of_ble_eq_true rfl⟩) hS (fun q _ h => hFc q h) hFc (fun u t H1 locs ht hvm hw_20 hB hz1 hk1 hS => ?_)
  obtain ⟨fA_7, fB_8, lH_9, lN_10, lO_11, lS_12, lM_13, de_14, lb_15, lbs_16, w_17, mv_18, nx_19⟩ := u
  obtain ⟨hP1, hK1, hD1⟩ := hB
  rw [ht] at hP1
  try dsimp only at hw_20
  obtain ⟨hP, hD⟩ := va_join (wr := []) (w1 := [(xm, .inr (20, [.int fA_7, .int fB_8, v2, v3, v4, v5, v6, v7, v8, v9, v10, v11, v12, v13, v14, .int lH_9, .int lN_10, .int lO_11, .int lS_12, .int lM_13, .ref lb_15])), (q_1, .inr (18, [.int 0, .int (nI 2), .int (nI 2), .ref wa_2, .ref va_3, .ref na_4, .int 0, .null, .int de_14, .int 0, .int 0, .ref tz_5])), (wa_2, .inl (cI, (2 * 2), .inl w_17)), (va_3, .inl (cI, (2 * 2), .inl mv_18)), (na_4, .inl (cI, (2 * 2), .inl nx_19)), (lb_15, .inr (18, lbs_16))]) hP hD [0, 1, 2, 3, 4] [] rfl rfl (by decide) (by decide) hk1 hFc hP1 hD1
  generalize H1 = H at hP hS ⊢
  have hP : va_P (dC, dI) vwCl [(xm, .inr (20, [.int fA_7, .int fB_8, v2, v3, v4, v5, v6, v7, v8, v9, v10, v11, v12, v13, v14, .int lH_9, .int lN_10, .int lO_11, .int lS_12, .int lM_13, .ref lb_15])), (q_1, .inr (18, [.int 0, .int (nI 2), .int (nI 2), .ref wa_2, .ref va_3, .ref na_4, .int 0, .null, .int de_14, .int 0, .int 0, .ref tz_5])), (wa_2, .inl (cI, (2 * 2), .inl w_17)), (va_3, .inl (cI, (2 * 2), .inl mv_18)), (na_4, .inl (cI, (2 * 2), .inl nx_19)), (lb_15, .inr (18, lbs_16))] H := hP
  have hD : va_D A [(xm, .inr (20, [.int fA_7, .int fB_8, v2, v3, v4, v5, v6, v7, v8, v9, v10, v11, v12, v13, v14, .int lH_9, .int lN_10, .int lO_11, .int lS_12, .int lM_13, .ref lb_15])), (q_1, .inr (18, [.int 0, .int (nI 2), .int (nI 2), .ref wa_2, .ref va_3, .ref na_4, .int 0, .null, .int de_14, .int 0, .int 0, .ref tz_5])), (wa_2, .inl (cI, (2 * 2), .inl w_17)), (va_3, .inl (cI, (2 * 2), .inl mv_18)), (na_4, .inl (cI, (2 * 2), .inl nx_19)), (lb_15, .inr (18, lbs_16))] := hD
  refine W.widen (k := 14340) (n := 5805426) (Nat.le_of_ble_eq_true rfl) (Nat.le_of_ble_eq_true rfl) ?_
  have hP9 := hP.sub (ws' := [(xm, .inr (20, [.int fA_7, .int fB_8, v2, v3, v4, v5, v6, v7, v8, v9, v10, v11, v12, v13, v14, .int lH_9, .int lN_10, .int lO_11, .int lS_12, .int lM_13, .ref lb_15])), (lb_15, .inr (18, lbs_16))]) [0, 5] rfl
  have hD9 := hD.sub (ws' := [(xm, .inr (20, [.int fA_7, .int fB_8, v2, v3, v4, v5, v6, v7, v8, v9, v10, v11, v12, v13, v14, .int lH_9, .int lN_10, .int lO_11, .int lS_12, .int lM_13, .ref lb_15])), (lb_15, .inr (18, lbs_16))]) [0, 5] (by decide) rfl
  have hK9 := hK.sub (tys' := [(cI, .int)]) [0] rfl
  exact W.vret hx hb hr (fun t ht hW => ⟨⟨(fA_7, fB_8, lH_9, lN_10, lO_11, lS_12, lM_13, lb_15, lbs_16), rfl, hw_20.2, ⟨by rw [ht]; exact hP9, va_K.moved hW.alike hK9, hD9⟩⟩, hS.F ht⟩) hS.2.2 dX15_listAll_45
