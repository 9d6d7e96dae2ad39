theorem dX13_at_0 : decode cX13_at 0 = .ok (.iload_n 1, 1) := by decide +kernel
theorem dX13_at_1 : decode cX13_at 1 = .ok (.aload_n 0, 1) := by decide +kernel
theorem dX13_at_2 : decode cX13_at 2 = .ok (.getfield 27, 3) := by decide +kernel
theorem dX13_at_5 : decode cX13_at 5 = .ok (.imul, 1) := by decide +kernel
theorem dX13_at_6 : decode cX13_at 6 = .ok (.iload_n 2, 1) := by decide +kernel
theorem dX13_at_7 : decode cX13_at 7 = .ok (.iadd, 1) := by decide +kernel
theorem dX13_at_8 : decode cX13_at 8 = .ok (.ireturn, 1) := by decide +kernel
theorem dX14_order_0 : decode cX14_order 0 = .ok (.aload_n 0, 1) := by decide +kernel
theorem dX14_order_1 : decode cX14_order 1 = .ok (.getfield 15, 3) := by decide +kernel
theorem dX14_order_4 : decode cX14_order 4 = .ok (.aload_n 0, 1) := by decide +kernel
theorem dX14_order_5 : decode cX14_order 5 = .ok (.getfield 26, 3) := by decide +kernel
theorem dX14_order_8 : decode cX14_order 8 = .ok (.aload_n 0, 1) := by decide +kernel
theorem dX14_order_9 : decode cX14_order 9 = .ok (.getfield 9, 3) := by decide +kernel
theorem dX14_order_12 : decode cX14_order 12 = .ok (.sipush 500, 3) := by decide +kernel
theorem dX14_order_15 : decode cX14_order 15 = .ok (.aload_n 0, 1) := by decide +kernel
theorem dX14_order_16 : decode cX14_order 16 = .ok (.getfield 29, 3) := by decide +kernel
theorem dX14_order_19 : decode cX14_order 19 = .ok (.iadd, 1) := by decide +kernel
theorem dX14_order_20 : decode cX14_order 20 = .ok (.iaload, 1) := by decide +kernel
set_option maxRecDepth 20000 in
theorem ggX14_order_X13_at : GoodIn wsX14_order wsX13_at := goodIn_r _ [9, 10, 20, 21, 22, 23, 24, 25, 26, 27, 28, 29, 30, 31] rfl (by decide +kernel)
set_option maxRecDepth 20000 in
theorem gX14_order_X13_at : GoodIn wsX14_order (wsV RX14 42 RX13 yX13_at wsX13_at) := goodIn_app (goodIn_of _ (by decide +kernel)) ggX14_order_X13_at
theorem dX14_order_21 : decode cX14_order 21 = .ok (.invokevirtual 42, 3) := by decide +kernel
theorem dX14_order_24 : decode cX14_order 24 = .ok (.ireturn, 1) := by decide +kernel
theorem dX14_hasNoOrder_0 : decode cX14_hasNoOrder 0 = .ok (.aload_n 0, 1) := by decide +kernel
theorem dX14_hasNoOrder_1 : decode cX14_hasNoOrder 1 = .ok (.getfield 15, 3) := by decide +kernel
theorem dX14_hasNoOrder_4 : decode cX14_hasNoOrder 4 = .ok (.getfield 48, 3) := by decide +kernel
theorem dX14_hasNoOrder_7 : decode cX14_hasNoOrder 7 = .ok (.aload_n 0, 1) := by decide +kernel
set_option maxRecDepth 20000 in
theorem ggX14_hasNoOrder_X14_order : GoodIn wsX14_hasNoOrder wsX14_order := goodIn_ca (goodIn_r _ [6, 1, 7, 8, 9, 10, 11, 12, 13, 14, 15, 16, 17, 18, 19, 20, 21, 22, 23, 24, 25, 26, 27, 28, 29, 30, 31, 32, 33, 34, 35, 36] rfl (by decide +kernel)) (goodIn_sub (fun _ h => List.mem_cons_of_mem _ (List.mem_append_right _ h)) (by decide +kernel))
set_option maxRecDepth 20000 in
theorem gX14_hasNoOrder_X14_order : GoodIn wsX14_hasNoOrder (wsV RX14 51 RX14 yX14_order wsX14_order) := goodIn_app (goodIn_of _ (by decide +kernel)) ggX14_hasNoOrder_X14_order
theorem dX14_hasNoOrder_8 : decode cX14_hasNoOrder 8 = .ok (.invokevirtual 51, 3) := by decide +kernel
theorem dX14_hasNoOrder_11 : decode cX14_hasNoOrder 11 = .ok (.iaload, 1) := by decide +kernel
theorem dX14_hasNoOrder_12 : decode cX14_hasNoOrder 12 = .ok (.iconst (-1), 1) := by decide +kernel
theorem dX14_hasNoOrder_13 : decode cX14_hasNoOrder 13 = .ok (.if_icmp .ne 7, 3) := by decide +kernel
theorem dX14_hasNoOrder_20 : decode cX14_hasNoOrder 20 = .ok (.iconst 0, 1) := by decide +kernel
theorem dX14_hasNoOrder_21 : decode cX14_hasNoOrder 21 = .ok (.ireturn, 1) := by decide +kernel
theorem dX14_hasNoOrder_16 : decode cX14_hasNoOrder 16 = .ok (.iconst 1, 1) := by decide +kernel
theorem dX14_hasNoOrder_17 : decode cX14_hasNoOrder 17 = .ok (.goto 4, 3) := by decide +kernel
theorem dX14_step_0 : decode cX14_step 0 = .ok (.aload_n 0, 1) := by decide +kernel
theorem dX14_step_1 : decode cX14_step 1 = .ok (.aload_n 0, 1) := by decide +kernel
theorem dX14_step_2 : decode cX14_step 2 = .ok (.getfield 35, 3) := by decide +kernel
theorem dX14_step_5 : decode cX14_step 5 = .ok (.ifCond .ne 10, 3) := by decide +kernel
theorem dX14_step_15 : decode cX14_step 15 = .ok (.iconst 1, 1) := by decide +kernel
theorem dX14_step_16 : decode cX14_step 16 = .ok (.goto 4, 3) := by decide +kernel
theorem dX14_step_20 : decode cX14_step 20 = .ok (.putfield 35, 3) := by decide +kernel
theorem dX14_step_23 : decode cX14_step 23 = .ok (.aload_n 0, 1) := by decide +kernel
set_option maxRecDepth 20000 in
theorem ggX14_step_X14_order : GoodIn wsX14_step wsX14_order := goodIn_ca (goodIn_r _ [25, 3, 6, 5, 2, 26, 27, 28, 29, 30, 31, 32, 33, 34, 35, 36, 37, 38, 39, 40, 41, 42, 43, 44, 45, 46, 47, 48, 49, 50, 51, 52] rfl (by decide +kernel)) (goodIn_sub (fun _ h => List.mem_cons_of_mem _ (List.mem_append_right _ h)) (by decide +kernel))
set_option maxRecDepth 20000 in
theorem gX14_step_X14_order : GoodIn wsX14_step (wsV RX14 51 RX14 yX14_order wsX14_order) := goodIn_app (goodIn_of _ (by decide +kernel)) ggX14_step_X14_order
theorem dX14_step_24 : decode cX14_step 24 = .ok (.invokevirtual 51, 3) := by decide +kernel
theorem dX14_step_27 : decode cX14_step 27 = .ok (.istore_n 1, 1) := by decide +kernel
theorem dX14_step_28 : decode cX14_step 28 = .ok (.aload_n 0, 1) := by decide +kernel
theorem dX14_step_29 : decode cX14_step 29 = .ok (.getfield 35, 3) := by decide +kernel
theorem dX14_step_32 : decode cX14_step 32 = .ok (.ifCond .eq 10, 3) := by decide +kernel
theorem dX14_step_35 : decode cX14_step 35 = .ok (.aload_n 0, 1) := by decide +kernel
theorem dX14_step_36 : decode cX14_step 36 = .ok (.getfield 29, 3) := by decide +kernel
theorem dX14_step_39 : decode cX14_step 39 = .ok (.goto 17, 3) := by decide +kernel
theorem dX14_step_56 : decode cX14_step 56 = .ok (.istore_n 2, 1) := by decide +kernel
theorem dX14_step_57 : decode cX14_step 57 = .ok (.aload_n 0, 1) := by decide +kernel
theorem dX14_step_58 : decode cX14_step 58 = .ok (.aload_n 0, 1) := by decide +kernel
theorem dX14_step_59 : decode cX14_step 59 = .ok (.getfield 39, 3) := by decide +kernel
theorem dX14_step_62 : decode cX14_step 62 = .ok (.ifCond .ne 17, 3) := by decide +kernel
theorem dX14_step_79 : decode cX14_step 79 = .ok (.iconst 1, 1) := by decide +kernel
theorem dX14_step_80 : decode cX14_step 80 = .ok (.goto 4, 3) := by decide +kernel
theorem dX14_step_84 : decode cX14_step 84 = .ok (.putfield 39, 3) := by decide +kernel
theorem dX14_step_87 : decode cX14_step 87 = .ok (.aload_n 0, 1) := by decide +kernel
theorem dX14_step_88 : decode cX14_step 88 = .ok (.getfield 35, 3) := by decide +kernel
theorem dX14_step_91 : decode cX14_step 91 = .ok (.ifCond .ne 10, 3) := by decide +kernel
theorem dX14_step_101 : decode cX14_step 101 = .ok (.iconst 0, 1) := by decide +kernel
theorem dX14_step_102 : decode cX14_step 102 = .ok (.ireturn, 1) := by decide +kernel
theorem dX14_step_65 : decode cX14_step 65 = .ok (.iload_n 2, 1) := by decide +kernel
theorem dX14_step_66 : decode cX14_step 66 = .ok (.sipush 500, 3) := by decide +kernel
theorem dX14_step_69 : decode cX14_step 69 = .ok (.if_icmp .gt 10, 3) := by decide +kernel
theorem dX14_step_72 : decode cX14_step 72 = .ok (.iload_n 2, 1) := by decide +kernel
theorem dX14_step_73 : decode cX14_step 73 = .ok (.sipush (-500), 3) := by decide +kernel
theorem dX14_step_76 : decode cX14_step 76 = .ok (.if_icmp .ge 7, 3) := by decide +kernel
theorem dX14_step_83 : decode cX14_step 83 = .ok (.iconst 0, 1) := by decide +kernel
theorem dX14_step_8 : decode cX14_step 8 = .ok (.aload_n 0, 1) := by decide +kernel
set_option maxRecDepth 20000 in
theorem ggX14_step_X14_hasNoOrder : GoodIn wsX14_step wsX14_hasNoOrder := goodIn_ca (goodIn_r _ [21, 3, 22, 23, 24, 20, 25, 6, 5, 2, 26, 27, 28, 29, 30, 31, 32, 33, 34, 35, 36, 37, 38, 39, 40, 41, 42, 43, 44, 45, 46, 47, 48, 49, 50, 51, 52] rfl (by decide +kernel)) (goodIn_sub (fun _ h => List.mem_cons_of_mem _ (List.mem_append_right _ h)) (by decide +kernel))
set_option maxRecDepth 20000 in
theorem gX14_step_X14_hasNoOrder : GoodIn wsX14_step (wsV RX14 55 RX14 yX14_hasNoOrder wsX14_hasNoOrder) := goodIn_app (goodIn_of _ (by decide +kernel)) ggX14_step_X14_hasNoOrder
theorem dX14_step_9 : decode cX14_step 9 = .ok (.invokevirtual 55, 3) := by decide +kernel
theorem dX14_step_12 : decode cX14_step 12 = .ok (.ifCond .eq 7, 3) := by decide +kernel
theorem dX14_step_19 : decode cX14_step 19 = .ok (.iconst 0, 1) := by decide +kernel
theorem dX14_step_42 : decode cX14_step 42 = .ok (.aload_n 0, 1) := by decide +kernel
theorem dX14_step_43 : decode cX14_step 43 = .ok (.getfield 29, 3) := by decide +kernel
theorem dX14_step_46 : decode cX14_step 46 = .ok (.aload_n 0, 1) := by decide +kernel
theorem dX14_step_47 : decode cX14_step 47 = .ok (.getfield 15, 3) := by decide +kernel
theorem dX14_step_50 : decode cX14_step 50 = .ok (.getfield 59, 3) := by decide +kernel
theorem dX14_step_53 : decode cX14_step 53 = .ok (.iload_n 1, 1) := by decide +kernel
theorem dX14_step_54 : decode cX14_step 54 = .ok (.iaload, 1) := by decide +kernel
theorem dX14_step_55 : decode cX14_step 55 = .ok (.iadd, 1) := by decide +kernel
theorem dX14_step_94 : decode cX14_step 94 = .ok (.aload_n 0, 1) := by decide +kernel
theorem dX14_step_95 : decode cX14_step 95 = .ok (.getfield 39, 3) := by decide +kernel
theorem dX14_step_98 : decode cX14_step 98 = .ok (.ifCond .eq 5, 3) := by decide +kernel
theorem dX14_step_103 : decode cX14_step 103 = .ok (.aload_n 0, 1) := by decide +kernel
theorem dX14_step_104 : decode cX14_step 104 = .ok (.getfield 9, 3) := by decide +kernel
theorem dX14_step_107 : decode cX14_step 107 = .ok (.sipush 500, 3) := by decide +kernel
theorem dX14_step_110 : decode cX14_step 110 = .ok (.aload_n 0, 1) := by decide +kernel
theorem dX14_step_111 : decode cX14_step 111 = .ok (.getfield 29, 3) := by decide +kernel
theorem dX14_step_114 : decode cX14_step 114 = .ok (.iadd, 1) := by decide +kernel
theorem dX14_step_115 : decode cX14_step 115 = .ok (.aload_n 0, 1) := by decide +kernel
theorem dX14_step_116 : decode cX14_step 116 = .ok (.getfield 15, 3) := by decide +kernel
theorem dX14_step_119 : decode cX14_step 119 = .ok (.getfield 48, 3) := by decide +kernel
theorem dX14_step_122 : decode cX14_step 122 = .ok (.iload_n 1, 1) := by decide +kernel
theorem dX14_step_123 : decode cX14_step 123 = .ok (.iaload, 1) := by decide +kernel
theorem dX14_step_124 : decode cX14_step 124 = .ok (.iastore, 1) := by decide +kernel
theorem dX14_step_125 : decode cX14_step 125 = .ok (.aload_n 0, 1) := by decide +kernel
theorem dX14_step_126 : decode cX14_step 126 = .ok (.aload_n 0, 1) := by decide +kernel
theorem dX14_step_127 : decode cX14_step 127 = .ok (.getfield 15, 3) := by decide +kernel
theorem dX14_step_130 : decode cX14_step 130 = .ok (.getfield 62, 3) := by decide +kernel
theorem dX14_step_133 : decode cX14_step 133 = .ok (.iload_n 1, 1) := by decide +kernel
theorem dX14_step_134 : decode cX14_step 134 = .ok (.iaload, 1) := by decide +kernel
theorem dX14_step_135 : decode cX14_step 135 = .ok (.putfield 26, 3) := by decide +kernel
theorem dX14_step_138 : decode cX14_step 138 = .ok (.aload_n 0, 1) := by decide +kernel
theorem dX14_step_139 : decode cX14_step 139 = .ok (.dup, 1) := by decide +kernel
theorem dX14_step_140 : decode cX14_step 140 = .ok (.getfield 32, 3) := by decide +kernel
theorem dX14_step_143 : decode cX14_step 143 = .ok (.iconst 1, 1) := by decide +kernel
theorem dX14_step_144 : decode cX14_step 144 = .ok (.iadd, 1) := by decide +kernel
theorem dX14_step_145 : decode cX14_step 145 = .ok (.putfield 32, 3) := by decide +kernel
theorem dX14_step_148 : decode cX14_step 148 = .ok (.aload_n 0, 1) := by decide +kernel
theorem dX14_step_149 : decode cX14_step 149 = .ok (.getfield 15, 3) := by decide +kernel
theorem dX14_step_152 : decode cX14_step 152 = .ok (.getfield 65, 3) := by decide +kernel
theorem dX14_step_155 : decode cX14_step 155 = .ok (.ifCond .eq 15, 3) := by decide +kernel
theorem dX14_step_170 : decode cX14_step 170 = .ok (.aload_n 0, 1) := by decide +kernel
theorem dX14_step_171 : decode cX14_step 171 = .ok (.iload_n 2, 1) := by decide +kernel
theorem dX14_step_172 : decode cX14_step 172 = .ok (.putfield 29, 3) := by decide +kernel
theorem dX14_step_175 : decode cX14_step 175 = .ok (.aload_n 0, 1) := by decide +kernel
theorem dX14_step_176 : decode cX14_step 176 = .ok (.aload_n 0, 1) := by decide +kernel
theorem dX14_step_177 : decode cX14_step 177 = .ok (.getfield 19, 3) := by decide +kernel
theorem dX14_step_180 : decode cX14_step 180 = .ok (.aload_n 0, 1) := by decide +kernel
theorem dX14_step_181 : decode cX14_step 181 = .ok (.getfield 29, 3) := by decide +kernel
theorem dX14_step_184 : decode cX14_step 184 = .ok (.invokestatic 68, 3) := by decide +kernel
theorem dX14_step_187 : decode cX14_step 187 = .ok (.putfield 19, 3) := by decide +kernel
theorem dX14_step_190 : decode cX14_step 190 = .ok (.aload_n 0, 1) := by decide +kernel
theorem dX14_step_191 : decode cX14_step 191 = .ok (.aload_n 0, 1) := by decide +kernel
theorem dX14_step_192 : decode cX14_step 192 = .ok (.getfield 23, 3) := by decide +kernel
theorem dX14_step_195 : decode cX14_step 195 = .ok (.aload_n 0, 1) := by decide +kernel
theorem dX14_step_196 : decode cX14_step 196 = .ok (.getfield 29, 3) := by decide +kernel
theorem dX14_step_199 : decode cX14_step 199 = .ok (.invokestatic 73, 3) := by decide +kernel
theorem dX14_step_202 : decode cX14_step 202 = .ok (.putfield 23, 3) := by decide +kernel
theorem dX14_step_205 : decode cX14_step 205 = .ok (.iconst 1, 1) := by decide +kernel
theorem dX14_step_206 : decode cX14_step 206 = .ok (.ireturn, 1) := by decide +kernel
set_option maxHeartbeats 4000000 in
set_option maxRecDepth 100000 in
/-- X13_at -/
theorem c_X13_at (l : Launch) (dC : Nat → ClassId) (dI : Nat → Nat → Nat) (cI : ClassId) (ma wa va na tz n S G : Nat) (my de aa bb : Int32) (w mv nx : Nat → Int32) (a b : Int32) (sz : Nat) : Met l yX13_at wsX13_at ({ frames := 0, cells := 0, slots := 0, locals := 0 }) (va_Pc [.ref ma, .int a, .int b] (cPC dC dI [(ma, .inr (18, [.int 0, .int (nI S), .int (nI G), .ref wa, .ref va, .ref na, .int my, .null, .int de, .int aa, .int bb, .ref tz]))] [] sz)) (va_Qi (fun (r : Int32) (u : Unit) => r = a * nI G + b) (fun (u : Unit) t => cQB dC dI [(ma, .inr (18, [.int 0, .int (nI S), .int (nI G), .ref wa, .ref va, .ref na, .int my, .null, .int de, .int aa, .int bb, .ref tz]))] [] (va_A [(ma, .inr (18, [.int 0, .int (nI S), .int (nI G), .ref wa, .ref va, .ref na, .int my, .null, .int de, .int aa, .int bb, .ref tz]))] sz) t) (va_A [(ma, .inr (18, [.int 0, .int (nI S), .int (nI G), .ref wa, .ref va, .ref na, .int my, .null, .int de, .int aa, .int bb, .ref tz]))] sz)) 0 0 (va_A [(ma, .inr (18, [.int 0, .int (nI S), .int (nI G), .ref wa, .ref va, .ref na, .int my, .null, .int de, .int aa, .int bb, .ref tz]))] sz) := by
  refine Met.ofW (cc := cX13_at) (maxL := 3) (ret := (some .int)) (by decide) rfl ?_
  intro p e s m args below meth c s₁ B hml hv
  obtain ⟨rfl, hsz, hP, hK, hD0, hN⟩ := hv
  have hx := B.exec
  have hb := B.bytes
  have hr := B.returns
  have hts := atoms_spec (ws := wsX13_at) B.pre
  have hown : s.vm.findClass RX13 = some m.cls := findClass_of_methodNamed B.named
  have hlocks := B.notSynchronized
  subst hsz
  have hD := hD0.self (sz := s.heap.size)
  generalize hAe : va_A [(ma, .inr (18, [.int 0, .int (nI S), .int (nI G), .ref wa, .ref va, .ref na, .int my, .null, .int de, .int aa, .int bb, .ref tz]))] s.heap.size = A at hD ⊢
  have hA : ∀ q : Nat, s.heap.size ≤ q → A q := fun q h => by rw [← hAe]; exact Or.inr h
  have hS : va_S A s.heap s.heap [] := va_S.rf
  have hP : va_P (dC, dI) vwCl [(ma, .inr (18, [.int 0, .int (nI S), .int (nI G), .ref wa, .ref va, .ref na, .int my, .null, .int de, .int aa, .int bb, .ref tz]))] s.heap := hP
  have hD : va_D A [(ma, .inr (18, [.int 0, .int (nI S), .int (nI G), .ref wa, .ref va, .ref na, .int my, .null, .int de, .int aa, .int bb, .ref tz]))] := hD
  have hl := lv_entry ([.ref ma, .int a, .int b]) (n := 3) (Nat.le_of_ble_eq_true rfl)
  rw [lg_entry_eq]
  generalize (lg_sl ([.ref ma, .int a, .int b]) ++ List.replicate (3 - (lg_sl ([.ref ma, .int a, .int b])).length) Slot.unset).toArray = ls at hl ⊢
  have hl : lv_has ls 3 [(0, .ref ma), (1, .int a), (2, .int b)] := hl
  have iWX13 : ∀ w ∈ u_ws RX13 TX13 12, w ∈ wsX13_at := by decide +kernel
  refine lv_iload_n hx hb dX13_at_0 rfl (lv_at hl 1 rfl) ?_
  refine lv_aload_n hx hb dX13_at_1 rfl (lv_at hl 0 rfl) ?_
  refine va_get (D := (dC, dI)) (ci := 18) (v := .int (nI G)) (C := RX13) (T := TX13) (N := 12) hx hb hts iWX13 hown hK hP 0 rfl rfl 2 (by decide) (hts (.fieldLink RX13 27 "BeaverhallModel$Machine" "signs" "I") (by decide +kernel)) (fun _ h9 => h9) rfl dX13_at_2 ?_
  refine lv_imul hx hb dX13_at_5 ?_
  refine lv_iload_n hx hb dX13_at_6 rfl (lv_at hl 2 rfl) ?_
  refine lv_iadd hx hb dX13_at_7 ?_
  have hP9 := hP.sub (ws' := [(ma, .inr (18, [.int 0, .int (nI S), .int (nI G), .ref wa, .ref va, .ref na, .int my, .null, .int de, .int aa, .int bb, .ref tz]))]) [0] rfl
  have hD9 := hD.sub (ws' := [(ma, .inr (18, [.int 0, .int (nI S), .int (nI G), .ref wa, .ref va, .ref na, .int my, .null, .int de, .int aa, .int bb, .ref tz]))]) [0] (by decide) rfl
  have hK9 := hK.sub (tys' := []) [] rfl
  exact W.iret (v := ((a * (nI G)) + b)) hx hb hr (fun t ht hW => ⟨⟨((a * (nI G)) + b), (), rfl, rfl, ⟨by rw [ht]; exact hP9, va_K.moved hW.alike hK9, hD9⟩⟩, hS.F ht⟩) hS.2.2 dX13_at_8

set_option maxHeartbeats 4000000 in
set_option maxRecDepth 100000 in
/-- X14_order -/
theorem c_X14_order (l : Launch) (dC : Nat → ClassId) (dI : Nat → Nat → Nat) (cI : ClassId) (ma wa va na tz n S G : Nat) (my de aa bb : Int32) (w mv nx : Nat → Int32) (hM : okM S G n w mv nx) (ra ta : Nat) (st ce lf rt sp hh ib : Int32) (f : Nat → Int32) (hR : okR S G (st, ce, lf, rt, sp, hh, ib, f)) (sz : Nat) : Met l yX14_order wsX14_order ({ frames := 1, cells := 0, slots := 0, locals := 24 }) (va_Pc [.ref ra] (cPC dC dI [(ma, .inr (18, [.int 0, .int (nI S), .int (nI G), .ref wa, .ref va, .ref na, .int my, .null, .int de, .int aa, .int bb, .ref tz])), (wa, .inl (cI, n, .inl w)), (va, .inl (cI, n, .inl mv)), (na, .inl (cI, n, .inl nx)), (ra, .inr (19, [.ref ma, .ref ta, .int st, .int ce, .int lf, .int rt, .int sp, .int hh, .int ib])), (ta, .inl (cI, 1001, .inl f))] [(cI, .int)] sz)) (va_Qi (fun (r : Int32) (u : Unit) => r = ordR (nI G) st ce f) (fun (u : Unit) t => cQB dC dI [(ma, .inr (18, [.int 0, .int (nI S), .int (nI G), .ref wa, .ref va, .ref na, .int my, .null, .int de, .int aa, .int bb, .ref tz])), (wa, .inl (cI, n, .inl w)), (va, .inl (cI, n, .inl mv)), (na, .inl (cI, n, .inl nx)), (ra, .inr (19, [.ref ma, .ref ta, .int st, .int ce, .int lf, .int rt, .int sp, .int hh, .int ib])), (ta, .inl (cI, 1001, .inl f))] [(cI, .int)] (va_A [(ma, .inr (18, [.int 0, .int (nI S), .int (nI G), .ref wa, .ref va, .ref na, .int my, .null, .int de, .int aa, .int bb, .ref tz])), (wa, .inl (cI, n, .inl w)), (va, .inl (cI, n, .inl mv)), (na, .inl (cI, n, .inl nx)), (ra, .inr (19, [.ref ma, .ref ta, .int st, .int ce, .int lf, .int rt, .int sp, .int hh, .int ib])), (ta, .inl (cI, 1001, .inl f))] sz) t) (va_A [(ma, .inr (18, [.int 0, .int (nI S), .int (nI G), .ref wa, .ref va, .ref na, .int my, .null, .int de, .int aa, .int bb, .ref tz])), (wa, .inl (cI, n, .inl w)), (va, .inl (cI, n, .inl mv)), (na, .inl (cI, n, .inl nx)), (ra, .inr (19, [.ref ma, .ref ta, .int st, .int ce, .int lf, .int rt, .int sp, .int hh, .int ib])), (ta, .inl (cI, 1001, .inl f))] sz)) 0 0 (va_A [(ma, .inr (18, [.int 0, .int (nI S), .int (nI G), .ref wa, .ref va, .ref na, .int my, .null, .int de, .int aa, .int bb, .ref tz])), (wa, .inl (cI, n, .inl w)), (va, .inl (cI, n, .inl mv)), (na, .inl (cI, n, .inl nx)), (ra, .inr (19, [.ref ma, .ref ta, .int st, .int ce, .int lf, .int rt, .int sp, .int hh, .int ib])), (ta, .inl (cI, 1001, .inl f))] sz) := by
  refine Met.ofW (cc := cX14_order) (maxL := 1) (ret := (some .int)) (by decide) rfl ?_
  intro p e s m args below meth c s₁ B hml hv
  obtain ⟨rfl, hsz, hP, hK, hD0, hN⟩ := hv
  have hx := B.exec
  have hb := B.bytes
  have hr := B.returns
  have hts := atoms_spec (ws := wsX14_order) B.pre
  have hown : s.vm.findClass RX14 = some m.cls := findClass_of_methodNamed B.named
  have hlocks := B.notSynchronized
  subst hsz
  have hD := hD0.self (sz := s.heap.size)
  generalize hAe : va_A [(ma, .inr (18, [.int 0, .int (nI S), .int (nI G), .ref wa, .ref va, .ref na, .int my, .null, .int de, .int aa, .int bb, .ref tz])), (wa, .inl (cI, n, .inl w)), (va, .inl (cI, n, .inl mv)), (na, .inl (cI, n, .inl nx)), (ra, .inr (19, [.ref ma, .ref ta, .int st, .int ce, .int lf, .int rt, .int sp, .int hh, .int ib])), (ta, .inl (cI, 1001, .inl f))] s.heap.size = A at hD ⊢
  have hA : ∀ q : Nat, s.heap.size ≤ q → A q := fun q h => by rw [← hAe]; exact Or.inr h
  have hS : va_S A s.heap s.heap [] := va_S.rf
  have hP : va_P (dC, dI) vwCl [(ma, .inr (18, [.int 0, .int (nI S), .int (nI G), .ref wa, .ref va, .ref na, .int my, .null, .int de, .int aa, .int bb, .ref tz])), (wa, .inl (cI, n, .inl w)), (va, .inl (cI, n, .inl mv)), (na, .inl (cI, n, .inl nx)), (ra, .inr (19, [.ref ma, .ref ta, .int st, .int ce, .int lf, .int rt, .int sp, .int hh, .int ib])), (ta, .inl (cI, 1001, .inl f))] s.heap := hP
  have hD : va_D A [(ma, .inr (18, [.int 0, .int (nI S), .int (nI G), .ref wa, .ref va, .ref na, .int my, .null, .int de, .int aa, .int bb, .ref tz])), (wa, .inl (cI, n, .inl w)), (va, .inl (cI, n, .inl mv)), (na, .inl (cI, n, .inl nx)), (ra, .inr (19, [.ref ma, .ref ta, .int st, .int ce, .int lf, .int rt, .int sp, .int hh, .int ib])), (ta, .inl (cI, 1001, .inl f))] := hD
  have hl := lv_entry ([.ref ra]) (n := 1) (Nat.le_of_ble_eq_true rfl)
  rw [lg_entry_eq]
  generalize (lg_sl ([.ref ra]) ++ List.replicate (1 - (lg_sl ([.ref ra])).length) Slot.unset).toArray = ls at hl ⊢
  have hl : lv_has ls 1 [(0, .ref ra)] := hl
  have iWX14 : ∀ w ∈ u_ws RX14 TX14 9, w ∈ wsX14_order := by decide +kernel
  refine lv_aload_n hx hb dX14_order_0 rfl (lv_at hl 0 rfl) ?_
  refine va_get (D := (dC, dI)) (ci := 19) (v := .ref ma) (C := RX14) (T := TX14) (N := 9) hx hb hts iWX14 hown hK hP 4 rfl rfl 0 (by decide) (hts (.fieldLink RX14 15 "BeaverhallModel$Run" "machine" "LBeaverhallModel$Machine;") (by decide +kernel)) (fun _ h9 => h9) rfl dX14_order_1 ?_
  refine lv_aload_n hx hb dX14_order_4 rfl (lv_at hl 0 rfl) ?_
  refine va_get (D := (dC, dI)) (ci := 19) (v := .int st) (C := RX14) (T := TX14) (N := 9) hx hb hts iWX14 hown hK hP 4 rfl rfl 2 (by decide) (hts (.fieldLink RX14 26 "BeaverhallModel$Run" "state" "I") (by decide +kernel)) (fun _ h9 => h9) rfl dX14_order_5 ?_
  refine lv_aload_n hx hb dX14_order_8 rfl (lv_at hl 0 rfl) ?_
  refine va_get (D := (dC, dI)) (ci := 19) (v := .ref ta) (C := RX14) (T := TX14) (N := 9) hx hb hts iWX14 hown hK hP 4 rfl rfl 1 (by decide) (hts (.fieldLink RX14 9 "BeaverhallModel$Run" "tape" "[I") (by decide +kernel)) (fun _ h9 => h9) rfl dX14_order_9 ?_
  refine lv_sipush (v := 500) hx hb dX14_order_12 (by decide) ?_
  refine lv_aload_n hx hb dX14_order_15 rfl (lv_at hl 0 rfl) ?_
  refine va_get (D := (dC, dI)) (ci := 19) (v := .int ce) (C := RX14) (T := TX14) (N := 9) hx hb hts iWX14 hown hK hP 4 rfl rfl 3 (by decide) (hts (.fieldLink RX14 29 "BeaverhallModel$Run" "cell" "I") (by decide +kernel)) (fun _ h9 => h9) rfl dX14_order_16 ?_
  refine lv_iadd hx hb dX14_order_19 ?_
  refine va_iald hx hb hK hP 5 0 rfl rfl (okR_ix hR) dX14_order_20 ?_
  have hPc := hP.sub (ws' := [(ma, .inr (18, [.int 0, .int (nI S), .int (nI G), .ref wa, .ref va, .ref na, .int my, .null, .int de, .int aa, .int bb, .ref tz]))]) [0] rfl
  have hDc := hD.sub (ws' := [(ma, .inr (18, [.int 0, .int (nI S), .int (nI G), .ref wa, .ref va, .ref na, .int my, .null, .int de, .int aa, .int bb, .ref tz]))]) [0] (by decide) rfl
  have hKc := hK.sub (tys' := []) [] rfl
  have hFc := va_free (wc := [(ma, .inr (18, [.int 0, .int (nI S), .int (nI G), .ref wa, .ref va, .ref na, .int my, .null, .int de, .int aa, .int bb, .ref tz]))]) hD hS hA [0] rfl
  refine va_calli (va_runV (As := [.int st, .int (f ((500 + ce)).toNatClampNeg)]) (rest := []) ⟨hx, hb, hml, hown, hts⟩ (c_X13_at l dC dI cI ma wa va na tz n S G my de aa bb w mv nx st (f ((500 + ce)).toNatClampNeg) s.heap.size) (cwV 2 hts gX14_order_X13_at rfl rfl rfl (by decide +kernel) ⟨Nat.le_of_ble_eq_true rfl, Nat.le_of_ble_eq_true rfl⟩) (pcV hPc hDc hKc hN (ci := 18) (q0 := 0) rfl rfl) rfl rfl hl.1 rfl (lv_room (Nat.le_of_ble_eq_true rfl)) dX14_order_21 ⟨Nat.le_of_ble_eq_true rfl, Nat.le_of_ble_eq_true rfl⟩) hS (fun q _ h => hFc q h) hFc (fun r_1 u t H1 locs ht hvm hw_2 hB hz1 hk1 hS => ?_)
  obtain ⟨hP1, hK1, hD1⟩ := hB
  rw [ht] at hP1
  try dsimp only at hw_2
  obtain ⟨hP, hD⟩ := va_join (wr := [(wa, .inl (cI, n, .inl w)), (va, .inl (cI, n, .inl mv)), (na, .inl (cI, n, .inl nx)), (ra, .inr (19, [.ref ma, .ref ta, .int st, .int ce, .int lf, .int rt, .int sp, .int hh, .int ib])), (ta, .inl (cI, 1001, .inl f))]) (w1 := [(ma, .inr (18, [.int 0, .int (nI S), .int (nI G), .ref wa, .ref va, .ref na, .int my, .null, .int de, .int aa, .int bb, .ref tz]))]) hP hD [0] [1, 2, 3, 4, 5] rfl rfl (by decide) (by decide) hk1 hFc hP1 hD1
  generalize H1 = H at hP hS ⊢
  have hP : va_P (dC, dI) vwCl [(wa, .inl (cI, n, .inl w)), (va, .inl (cI, n, .inl mv)), (na, .inl (cI, n, .inl nx)), (ra, .inr (19, [.ref ma, .ref ta, .int st, .int ce, .int lf, .int rt, .int sp, .int hh, .int ib])), (ta, .inl (cI, 1001, .inl f)), (ma, .inr (18, [.int 0, .int (nI S), .int (nI G), .ref wa, .ref va, .ref na, .int my, .null, .int de, .int aa, .int bb, .ref tz]))] H := hP
  have hD : va_D A [(wa, .inl (cI, n, .inl w)), (va, .inl (cI, n, .inl mv)), (na, .inl (cI, n, .inl nx)), (ra, .inr (19, [.ref ma, .ref ta, .int st, .int ce, .int lf, .int rt, .int sp, .int hh, .int ib])), (ta, .inl (cI, 1001, .inl f)), (ma, .inr (18, [.int 0, .int (nI S), .int (nI G), .ref wa, .ref va, .ref na, .int my, .null, .int de, .int aa, .int bb, .ref tz]))] := hD
  have hP9 := hP.sub (ws' := [(ma, .inr (18, [.int 0, .int (nI S), .int (nI G), .ref wa, .ref va, .ref na, .int my, .null, .int de, .int aa, .int bb, .ref tz])), (wa, .inl (cI, n, .inl w)), (va, .inl (cI, n, .inl mv)), (na, .inl (cI, n, .inl nx)), (ra, .inr (19, [.ref ma, .ref ta, .int st, .int ce, .int lf, .int rt, .int sp, .int hh, .int ib])), (ta, .inl (cI, 1001, .inl f))]) [5, 0, 1, 2, 3, 4] rfl
  have hD9 := hD.sub (ws' := [(ma, .inr (18, [.int 0, .int (nI S), .int (nI G), .ref wa, .ref va, .ref na, .int my, .null, .int de, .int aa, .int bb, .ref tz])), (wa, .inl (cI, n, .inl w)), (va, .inl (cI, n, .inl mv)), (na, .inl (cI, n, .inl nx)), (ra, .inr (19, [.ref ma, .ref ta, .int st, .int ce, .int lf, .int rt, .int sp, .int hh, .int ib])), (ta, .inl (cI, 1001, .inl f))]) [5, 0, 1, 2, 3, 4] (by decide) rfl
  have hK9 := hK.sub (tys' := [(cI, .int)]) [0] rfl
  exact W.iret (v := r_1) hx hb hr (fun t ht hW => ⟨⟨r_1, (), rfl, (by subst hw_2; rfl), ⟨by rw [ht]; exact hP9, va_K.moved hW.alike hK9, hD9⟩⟩, hS.F ht⟩) hS.2.2 dX14_order_24

set_option maxHeartbeats 4000000 in
set_option maxRecDepth 100000 in
/-- X14_hasNoOrder -/
theorem c_X14_hasNoOrder (l : Launch) (dC : Nat → ClassId) (dI : Nat → Nat → Nat) (cI : ClassId) (ma wa va na tz n S G : Nat) (my de aa bb : Int32) (w mv nx : Nat → Int32) (hM : okM S G n w mv nx) (ra ta : Nat) (st ce lf rt sp hh ib : Int32) (f : Nat → Int32) (hR : okR S G (st, ce, lf, rt, sp, hh, ib, f)) (sz : Nat) : Met l yX14_hasNoOrder wsX14_hasNoOrder ({ frames := 2, cells := 0, slots := 0, locals := 60 }) (va_Pc [.ref ra] (cPC dC dI [(ma, .inr (18, [.int 0, .int (nI S), .int (nI G), .ref wa, .ref va, .ref na, .int my, .null, .int de, .int aa, .int bb, .ref tz])), (wa, .inl (cI, n, .inl w)), (va, .inl (cI, n, .inl mv)), (na, .inl (cI, n, .inl nx)), (ra, .inr (19, [.ref ma, .ref ta, .int st, .int ce, .int lf, .int rt, .int sp, .int hh, .int ib])), (ta, .inl (cI, 1001, .inl f))] [(cI, .int)] sz)) (va_Qi (fun (r : Int32) (u : Unit) => r = hnoR (nI G) w st ce f) (fun (u : Unit) t => cQB dC dI [(ma, .inr (18, [.int 0, .int (nI S), .int (nI G), .ref wa, .ref va, .ref na, .int my, .null, .int de, .int aa, .int bb, .ref tz])), (wa, .inl (cI, n, .inl w)), (va, .inl (cI, n, .inl mv)), (na, .inl (cI, n, .inl nx)), (ra, .inr (19, [.ref ma, .ref ta, .int st, .int ce, .int lf, .int rt, .int sp, .int hh, .int ib])), (ta, .inl (cI, 1001, .inl f))] [(cI, .int)] (va_A [(ma, .inr (18, [.int 0, .int (nI S), .int (nI G), .ref wa, .ref va, .ref na, .int my, .null, .int de, .int aa, .int bb, .ref tz])), (wa, .inl (cI, n, .inl w)), (va, .inl (cI, n, .inl mv)), (na, .inl (cI, n, .inl nx)), (ra, .inr (19, [.ref ma, .ref ta, .int st, .int ce, .int lf, .int rt, .int sp, .int hh, .int ib])), (ta, .inl (cI, 1001, .inl f))] sz) t) (va_A [(ma, .inr (18, [.int 0, .int (nI S), .int (nI G), .ref wa, .ref va, .ref na, .int my, .null, .int de, .int aa, .int bb, .ref tz])), (wa, .inl (cI, n, .inl w)), (va, .inl (cI, n, .inl mv)), (na, .inl (cI, n, .inl nx)), (ra, .inr (19, [.ref ma, .ref ta, .int st, .int ce, .int lf, .int rt, .int sp, .int hh, .int ib])), (ta, .inl (cI, 1001, .inl f))] sz)) 0 0 (va_A [(ma, .inr (18, [.int 0, .int (nI S), .int (nI G), .ref wa, .ref va, .ref na, .int my, .null, .int de, .int aa, .int bb, .ref tz])), (wa, .inl (cI, n, .inl w)), (va, .inl (cI, n, .inl mv)), (na, .inl (cI, n, .inl nx)), (ra, .inr (19, [.ref ma, .ref ta, .int st, .int ce, .int lf, .int rt, .int sp, .int hh, .int ib])), (ta, .inl (cI, 1001, .inl f))] sz) := by
  refine Met.ofW (cc := cX14_hasNoOrder) (maxL := 1) (ret := (some .boolean)) (by decide) rfl ?_
  intro p e s m args below meth c s₁ B hml hv
  obtain ⟨rfl, hsz, hP, hK, hD0, hN⟩ := hv
  have hx := B.exec
  have hb := B.bytes
  have hr := B.returns
  have hts := atoms_spec (ws := wsX14_hasNoOrder) B.pre
  have hown : s.vm.findClass RX14 = some m.cls := findClass_of_methodNamed B.named
  have hlocks := B.notSynchronized
  subst hsz
  have hD := hD0.self (sz := s.heap.size)
  generalize hAe : va_A [(ma, .inr (18, [.int 0, .int (nI S), .int (nI G), .ref wa, .ref va, .ref na, .int my, .null, .int de, .int aa, .int bb, .ref tz])), (wa, .inl (cI, n, .inl w)), (va, .inl (cI, n, .inl mv)), (na, .inl (cI, n, .inl nx)), (ra, .inr (19, [.ref ma, .ref ta, .int st, .int ce, .int lf, .int rt, .int sp, .int hh, .int ib])), (ta, .inl (cI, 1001, .inl f))] s.heap.size = A at hD ⊢
  have hA : ∀ q : Nat, s.heap.size ≤ q → A q := fun q h => by rw [← hAe]; exact Or.inr h
  have hS : va_S A s.heap s.heap [] := va_S.rf
  have hP : va_P (dC, dI) vwCl [(ma, .inr (18, [.int 0, .int (nI S), .int (nI G), .ref wa, .ref va, .ref na, .int my, .null, .int de, .int aa, .int bb, .ref tz])), (wa, .inl (cI, n, .inl w)), (va, .inl (cI, n, .inl mv)), (na, .inl (cI, n, .inl nx)), (ra, .inr (19, [.ref ma, .ref ta, .int st, .int ce, .int lf, .int rt, .int sp, .int hh, .int ib])), (ta, .inl (cI, 1001, .inl f))] s.heap := hP
  have hD : va_D A [(ma, .inr (18, [.int 0, .int (nI S), .int (nI G), .ref wa, .ref va, .ref na, .int my, .null, .int de, .int aa, .int bb, .ref tz])), (wa, .inl (cI, n, .inl w)), (va, .inl (cI, n, .inl mv)), (na, .inl (cI, n, .inl nx)), (ra, .inr (19, [.ref ma, .ref ta, .int st, .int ce, .int lf, .int rt, .int sp, .int hh, .int ib])), (ta, .inl (cI, 1001, .inl f))] := hD
  have hl := lv_entry ([.ref ra]) (n := 1) (Nat.le_of_ble_eq_true rfl)
  rw [lg_entry_eq]
  generalize (lg_sl ([.ref ra]) ++ List.replicate (1 - (lg_sl ([.ref ra])).length) Slot.unset).toArray = ls at hl ⊢
  have hl : lv_has ls 1 [(0, .ref ra)] := hl
  have iWX13 : ∀ w ∈ u_ws RX13 TX13 12, w ∈ wsX14_hasNoOrder := by decide +kernel
  have iWX14 : ∀ w ∈ u_ws RX14 TX14 9, w ∈ wsX14_hasNoOrder := by decide +kernel
  refine lv_aload_n hx hb dX14_hasNoOrder_0 rfl (lv_at hl 0 rfl) ?_
  refine va_get (D := (dC, dI)) (ci := 19) (v := .ref ma) (C := RX14) (T := TX14) (N := 9) hx hb hts iWX14 hown hK hP 4 rfl rfl 0 (by decide) (hts (.fieldLink RX14 15 "BeaverhallModel$Run" "machine" "LBeaverhallModel$Machine;") (by decide +kernel)) (fun _ h9 => h9) rfl dX14_hasNoOrder_1 ?_
  refine va_getN (D := (dC, dI)) (ci := 18) (v := .ref wa) (C := RX13) (T := TX13) (N := 12) hx hb hts iWX13 hown hK hP 0 rfl rfl 3 (by decide) (va_Nw.use rfl (hN (.fieldLinkNest RX14 48 "BeaverhallModel$Machine" "writes" "[I" "BeaverhallModel") (by decide +kernel))) (fun _ h9 => h9) rfl dX14_hasNoOrder_4 ?_
  refine lv_aload_n hx hb dX14_hasNoOrder_7 rfl (lv_at hl 0 rfl) ?_
  have hPc := hP.sub (ws' := [(ma, .inr (18, [.int 0, .int (nI S), .int (nI G), .ref wa, .ref va, .ref na, .int my, .null, .int de, .int aa, .int bb, .ref tz])), (wa, .inl (cI, n, .inl w)), (va, .inl (cI, n, .inl mv)), (na, .inl (cI, n, .inl nx)), (ra, .inr (19, [.ref ma, .ref ta, .int st, .int ce, .int lf, .int rt, .int sp, .int hh, .int ib])), (ta, .inl (cI, 1001, .inl f))]) [0, 1, 2, 3, 4, 5] rfl
  have hDc := hD.sub (ws' := [(ma, .inr (18, [.int 0, .int (nI S), .int (nI G), .ref wa, .ref va, .ref na, .int my, .null, .int de, .int aa, .int bb, .ref tz])), (wa, .inl (cI, n, .inl w)), (va, .inl (cI, n, .inl mv)), (na, .inl (cI, n, .inl nx)), (ra, .inr (19, [.ref ma, .ref ta, .int st, .int ce, .int lf, .int rt, .int sp, .int hh, .int ib])), (ta, .inl (cI, 1001, .inl f))]) [0, 1, 2, 3, 4, 5] (by decide) rfl
  have hKc := hK.sub (tys' := [(cI, .int)]) [0] rfl
  have hFc := va_free (wc := [(ma, .inr (18, [.int 0, .int (nI S), .int (nI G), .ref wa, .ref va, .ref na, .int my, .null, .int de, .int aa, .int bb, .ref tz])), (wa, .inl (cI, n, .inl w)), (va, .inl (cI, n, .inl mv)), (na, .inl (cI, n, .inl nx)), (ra, .inr (19, [.ref ma, .ref ta, .int st, .int ce, .int lf, .int rt, .int sp, .int hh, .int ib])), (ta, .inl (cI, 1001, .inl f))]) hD hS hA [0, 1, 2, 3, 4, 5] rfl
  refine va_calli (va_runV (As := []) (rest := [.ref wa]) ⟨hx, hb, hml, hown, hts⟩ (c_X14_order l dC dI cI ma wa va na tz n S G my de aa bb w mv nx hM ra ta st ce lf rt sp hh ib f hR  s.heap.size) (cwV 0 hts gX14_hasNoOrder_X14_order rfl rfl rfl (by decide +kernel) ⟨Nat.le_of_ble_eq_true rfl, Nat.le_of_ble_eq_true rfl⟩) (pcV hPc hDc hKc hN (ci := 19) (q0 := 4) rfl rfl) rfl rfl hl.1 rfl (lv_room (Nat.le_of_ble_eq_true rfl)) dX14_hasNoOrder_8 ⟨Nat.le_of_ble_eq_true rfl, Nat.le_of_ble_eq_true rfl⟩) hS (fun q _ h => hFc q h) hFc (fun r_1 u t H1 locs ht hvm hw_2 hB hz1 hk1 hS => ?_)
  obtain ⟨hP1, hK1, hD1⟩ := hB
  rw [ht] at hP1
  try dsimp only at hw_2
  obtain ⟨hP, hD⟩ := va_join (wr := []) (w1 := [(ma, .inr (18, [.int 0, .int (nI S), .int (nI G), .ref wa, .ref va, .ref na, .int my, .null, .int de, .int aa, .int bb, .ref tz])), (wa, .inl (cI, n, .inl w)), (va, .inl (cI, n, .inl mv)), (na, .inl (cI, n, .inl nx)), (ra, .inr (19, [.ref ma, .ref ta, .int st, .int ce, .int lf, .int rt, .int sp, .int hh, .int ib])), (ta, .inl (cI, 1001, .inl f))]) hP hD [0, 1, 2, 3, 4, 5] [] rfl rfl (by decide) (by decide) hk1 hFc hP1 hD1
  generalize H1 = H at hP hS ⊢
  have hP : va_P (dC, dI) vwCl [(ma, .inr (18, [.int 0, .int (nI S), .int (nI G), .ref wa, .ref va, .ref na, .int my, .null, .int de, .int aa, .int bb, .ref tz])), (wa, .inl (cI, n, .inl w)), (va, .inl (cI, n, .inl mv)), (na, .inl (cI, n, .inl nx)), (ra, .inr (19, [.ref ma, .ref ta, .int st, .int ce, .int lf, .int rt, .int sp, .int hh, .int ib])), (ta, .inl (cI, 1001, .inl f))] H := hP
  have hD : va_D A [(ma, .inr (18, [.int 0, .int (nI S), .int (nI G), .ref wa, .ref va, .ref na, .int my, .null, .int de, .int aa, .int bb, .ref tz])), (wa, .inl (cI, n, .inl w)), (va, .inl (cI, n, .inl mv)), (na, .inl (cI, n, .inl nx)), (ra, .inr (19, [.ref ma, .ref ta, .int st, .int ce, .int lf, .int rt, .int sp, .int hh, .int ib])), (ta, .inl (cI, 1001, .inl f))] := hD
  refine va_iald hx hb hK hP 1 0 rfl rfl (by rw [hw_2]; exact okR_oin hM hR) dX14_hasNoOrder_11 ?_
  refine lv_iconst (v := (-1)) hx hb dX14_hasNoOrder_12 (by decide) ?_
  refine lv_icmp_ne (tgt := 20) hx hb dX14_hasNoOrder_13 (by decide) (fun c13_3 => ?_) (fun c13_3 => ?_)
  · refine lv_iconst (v := 0) hx hb dX14_hasNoOrder_20 (by decide) ?_
    have hP9 := hP.sub (ws' := [(ma, .inr (18, [.int 0, .int (nI S), .int (nI G), .ref wa, .ref va, .ref na, .int my, .null, .int de, .int aa, .int bb, .ref tz])), (wa, .inl (cI, n, .inl w)), (va, .inl (cI, n, .inl mv)), (na, .inl (cI, n, .inl nx)), (ra, .inr (19, [.ref ma, .ref ta, .int st, .int ce, .int lf, .int rt, .int sp, .int hh, .int ib])), (ta, .inl (cI, 1001, .inl f))]) [0, 1, 2, 3, 4, 5] rfl
    have hD9 := hD.sub (ws' := [(ma, .inr (18, [.int 0, .int (nI S), .int (nI G), .ref wa, .ref va, .ref na, .int my, .null, .int de, .int aa, .int bb, .ref tz])), (wa, .inl (cI, n, .inl w)), (va, .inl (cI, n, .inl mv)), (na, .inl (cI, n, .inl nx)), (ra, .inr (19, [.ref ma, .ref ta, .int st, .int ce, .int lf, .int rt, .int sp, .int hh, .int ib])), (ta, .inl (cI, 1001, .inl f))]) [0, 1, 2, 3, 4, 5] (by decide) rfl
    have hK9 := hK.sub (tys' := [(cI, .int)]) [0] rfl
    exact W.zret (v := 0) hx hb hr (by rfl) (fun t ht hW => ⟨⟨0, (), rfl, (by (try subst hw_2); simp [hnoR, c13_3]), ⟨by rw [ht]; exact hP9, va_K.moved hW.alike hK9, hD9⟩⟩, hS.F ht⟩) hS.2.2 dX14_hasNoOrder_21
  · refine lv_iconst (v := 1) hx hb dX14_hasNoOrder_16 (by decide) ?_
    refine lv_goto (tgt := 21) hx hb dX14_hasNoOrder_17 (by decide) ?_
    have hP9 := hP.sub (ws' := [(ma, .inr (18, [.int 0, .int (nI S), .int (nI G), .ref wa, .ref va, .ref na, .int my, .null, .int de, .int aa, .int bb, .ref tz])), (wa, .inl (cI, n, .inl w)), (va, .inl (cI, n, .inl mv)), (na, .inl (cI, n, .inl nx)), (ra, .inr (19, [.ref ma, .ref ta, .int st, .int ce, .int lf, .int rt, .int sp, .int hh, .int ib])), (ta, .inl (cI, 1001, .inl f))]) [0, 1, 2, 3, 4, 5] rfl
    have hD9 := hD.sub (ws' := [(ma, .inr (18, [.int 0, .int (nI S), .int (nI G), .ref wa, .ref va, .ref na, .int my, .null, .int de, .int aa, .int bb, .ref tz])), (wa, .inl (cI, n, .inl w)), (va, .inl (cI, n, .inl mv)), (na, .inl (cI, n, .inl nx)), (ra, .inr (19, [.ref ma, .ref ta, .int st, .int ce, .int lf, .int rt, .int sp, .int hh, .int ib])), (ta, .inl (cI, 1001, .inl f))]) [0, 1, 2, 3, 4, 5] (by decide) rfl
    have hK9 := hK.sub (tys' := [(cI, .int)]) [0] rfl
    exact W.zret (v := 1) hx hb hr (by rfl) (fun t ht hW => ⟨⟨1, (), rfl, (by (try subst hw_2); simp [hnoR, c13_3]), ⟨by rw [ht]; exact hP9, va_K.moved hW.alike hK9, hD9⟩⟩, hS.F ht⟩) hS.2.2 dX14_hasNoOrder_21

set_option maxHeartbeats 4000000 in
set_option maxRecDepth 100000 in
/-- X14_step -/
theorem c_X14_step (l : Launch) (dC : Nat → ClassId) (dI : Nat → Nat → Nat) (cI : ClassId) (ma wa va na tz n S G : Nat) (my de aa bb : Int32) (w mv nx : Nat → Int32) (hM : okM S G n w mv nx) (ra ta : Nat) (st ce lf rt sp hh ib : Int32) (f : Nat → Int32) (hR : okR S G (st, ce, lf, rt, sp, hh, ib, f)) (sz : Nat) : Met l yX14_step wsX14_step ({ frames := 3, cells := 0, slots := 0, locals := 90 }) (va_Pc [.ref ra] (cPC dC dI [(ma, .inr (18, [.int 0, .int (nI S), .int (nI G), .ref wa, .ref va, .ref na, .int my, .null, .int de, .int aa, .int bb, .ref tz])), (wa, .inl (cI, n, .inl w)), (va, .inl (cI, n, .inl mv)), (na, .inl (cI, n, .inl nx)), (ra, .inr (19, [.ref ma, .ref ta, .int st, .int ce, .int lf, .int rt, .int sp, .int hh, .int ib])), (ta, .inl (cI, 1001, .inl f))] [(cI, .int)] sz)) (va_Qi (fun (r : Int32) (u : RunT) => (r, u) = stepR (nI G) w mv nx (st, ce, lf, rt, sp, hh, ib, f)) (fun (u : RunT) t => cQB dC dI [(ma, .inr (18, [.int 0, .int (nI S), .int (nI G), .ref wa, .ref va, .ref na, .int my, .null, .int de, .int aa, .int bb, .ref tz])), (wa, .inl (cI, n, .inl w)), (va, .inl (cI, n, .inl mv)), (na, .inl (cI, n, .inl nx)), (ra, .inr (19, [.ref ma, .ref ta, .int u.1, .int u.2.1, .int u.2.2.1, .int u.2.2.2.1, .int u.2.2.2.2.1, .int u.2.2.2.2.2.1, .int u.2.2.2.2.2.2.1])), (ta, .inl (cI, 1001, .inl u.2.2.2.2.2.2.2))] [(cI, .int)] (va_A [(ma, .inr (18, [.int 0, .int (nI S), .int (nI G), .ref wa, .ref va, .ref na, .int my, .null, .int de, .int aa, .int bb, .ref tz])), (wa, .inl (cI, n, .inl w)), (va, .inl (cI, n, .inl mv)), (na, .inl (cI, n, .inl nx)), (ra, .inr (19, [.ref ma, .ref ta, .int st, .int ce, .int lf, .int rt, .int sp, .int hh, .int ib])), (ta, .inl (cI, 1001, .inl f))] sz) t) (va_A [(ma, .inr (18, [.int 0, .int (nI S), .int (nI G), .ref wa, .ref va, .ref na, .int my, .null, .int de, .int aa, .int bb, .ref tz])), (wa, .inl (cI, n, .inl w)), (va, .inl (cI, n, .inl mv)), (na, .inl (cI, n, .inl nx)), (ra, .inr (19, [.ref ma, .ref ta, .int st, .int ce, .int lf, .int rt, .int sp, .int hh, .int ib])), (ta, .inl (cI, 1001, .inl f))] sz)) 0 0 (va_A [(ma, .inr (18, [.int 0, .int (nI S), .int (nI G), .ref wa, .ref va, .ref na, .int my, .null, .int de, .int aa, .int bb, .ref tz])), (wa, .inl (cI, n, .inl w)), (va, .inl (cI, n, .inl mv)), (na, .inl (cI, n, .inl nx)), (ra, .inr (19, [.ref ma, .ref ta, .int st, .int ce, .int lf, .int rt, .int sp, .int hh, .int ib])), (ta, .inl (cI, 1001, .inl f))] sz) := by
  refine Met.ofW (cc := cX14_step) (maxL := 3) (ret := (some .boolean)) (by decide) rfl ?_
  intro p e s m args below meth c s₁ B hml hv
  obtain ⟨rfl, hsz, hP, hK, hD0, hN⟩ := hv
  have hx := B.exec
  have hb := B.bytes
  have hr := B.returns
  have hts := atoms_spec (ws := wsX14_step) B.pre
  have hown : s.vm.findClass RX14 = some m.cls := findClass_of_methodNamed B.named
  have hlocks := B.notSynchronized
  subst hsz
  have hD := hD0.self (sz := s.heap.size)
  generalize hAe : va_A [(ma, .inr (18, [.int 0, .int (nI S), .int (nI G), .ref wa, .ref va, .ref na, .int my, .null, .int de, .int aa, .int bb, .ref tz])), (wa, .inl (cI, n, .inl w)), (va, .inl (cI, n, .inl mv)), (na, .inl (cI, n, .inl nx)), (ra, .inr (19, [.ref ma, .ref ta, .int st, .int ce, .int lf, .int rt, .int sp, .int hh, .int ib])), (ta, .inl (cI, 1001, .inl f))] s.heap.size = A at hD ⊢
  have hA : ∀ q : Nat, s.heap.size ≤ q → A q := fun q h => by rw [← hAe]; exact Or.inr h
  have hS : va_S A s.heap s.heap [] := va_S.rf
  have hP : va_P (dC, dI) vwCl [(ma, .inr (18, [.int 0, .int (nI S), .int (nI G), .ref wa, .ref va, .ref na, .int my, .null, .int de, .int aa, .int bb, .ref tz])), (wa, .inl (cI, n, .inl w)), (va, .inl (cI, n, .inl mv)), (na, .inl (cI, n, .inl nx)), (ra, .inr (19, [.ref ma, .ref ta, .int st, .int ce, .int lf, .int rt, .int sp, .int hh, .int ib])), (ta, .inl (cI, 1001, .inl f))] s.heap := hP
  have hD : va_D A [(ma, .inr (18, [.int 0, .int (nI S), .int (nI G), .ref wa, .ref va, .ref na, .int my, .null, .int de, .int aa, .int bb, .ref tz])), (wa, .inl (cI, n, .inl w)), (va, .inl (cI, n, .inl mv)), (na, .inl (cI, n, .inl nx)), (ra, .inr (19, [.ref ma, .ref ta, .int st, .int ce, .int lf, .int rt, .int sp, .int hh, .int ib])), (ta, .inl (cI, 1001, .inl f))] := hD
  have hl := lv_entry ([.ref ra]) (n := 3) (Nat.le_of_ble_eq_true rfl)
  rw [lg_entry_eq]
  generalize (lg_sl ([.ref ra]) ++ List.replicate (3 - (lg_sl ([.ref ra])).length) Slot.unset).toArray = ls at hl ⊢
  have hl : lv_has ls 3 [(0, .ref ra)] := hl
  have iWX13 : ∀ w ∈ u_ws RX13 TX13 12, w ∈ wsX14_step := by decide +kernel
  have iWX14 : ∀ w ∈ u_ws RX14 TX14 9, w ∈ wsX14_step := by decide +kernel
  refine lv_aload_n hx hb dX14_step_0 rfl (lv_at hl 0 rfl) ?_
  refine lv_aload_n hx hb dX14_step_1 rfl (lv_at hl 0 rfl) ?_
  refine va_get (D := (dC, dI)) (ci := 19) (v := .int hh) (C := RX14) (T := TX14) (N := 9) hx hb hts iWX14 hown hK hP 4 rfl rfl 7 (by decide) (hts (.fieldLink RX14 35 "BeaverhallModel$Run" "hasHalted" "Z") (by decide +kernel)) (fun _ h9 => h9) rfl dX14_step_2 ?_
  refine lv_if_ne (tgt := 15) hx hb dX14_step_5 (by decide) (fun c5_1 => ?_) (fun c5_1 => ?_)
  · refine lv_iconst (v := 1) hx hb dX14_step_15 (by decide) ?_
    refine lv_goto (tgt := 20) hx hb dX14_step_16 (by decide) ?_
    refine va_put (D := (dC, dI)) (ci := 19) (v := .int 1) (ty := .boolean) (C := RX14) (T := TX14) (N := 9) hx hb hts iWX14 tyX14 tyX14_ok nmX14 hown hK hP hD hS 4 rfl rfl 7 (by decide) (hts (.fieldLink RX14 35 "BeaverhallModel$Run" "hasHalted" "Z") (by decide +kernel)) (fun _ h9 => h9) rfl (by decide +kernel) rfl rfl (Nat.le_of_ble_eq_true rfl) dX14_step_20 (fun H locs hP hD hS => ?_)
    have hP : va_P (dC, dI) vwCl [(ma, .inr (18, [.int 0, .int (nI S), .int (nI G), .ref wa, .ref va, .ref na, .int my, .null, .int de, .int aa, .int bb, .ref tz])), (wa, .inl (cI, n, .inl w)), (va, .inl (cI, n, .inl mv)), (na, .inl (cI, n, .inl nx)), (ra, .inr (19, [.ref ma, .ref ta, .int st, .int ce, .int lf, .int rt, .int sp, .int 1, .int ib])), (ta, .inl (cI, 1001, .inl f))] H := hP
    have hD : va_D A [(ma, .inr (18, [.int 0, .int (nI S), .int (nI G), .ref wa, .ref va, .ref na, .int my, .null, .int de, .int aa, .int bb, .ref tz])), (wa, .inl (cI, n, .inl w)), (va, .inl (cI, n, .inl mv)), (na, .inl (cI, n, .inl nx)), (ra, .inr (19, [.ref ma, .ref ta, .int st, .int ce, .int lf, .int rt, .int sp, .int 1, .int ib])), (ta, .inl (cI, 1001, .inl f))] := hD
    refine lv_aload_n hx hb dX14_step_23 rfl (lv_at hl 0 rfl) ?_
    have hPc := hP.sub (ws' := [(ma, .inr (18, [.int 0, .int (nI S), .int (nI G), .ref wa, .ref va, .ref na, .int my, .null, .int de, .int aa, .int bb, .ref tz])), (wa, .inl (cI, n, .inl w)), (va, .inl (cI, n, .inl mv)), (na, .inl (cI, n, .inl nx)), (ra, .inr (19, [.ref ma, .ref ta, .int st, .int ce, .int lf, .int rt, .int sp, .int 1, .int ib])), (ta, .inl (cI, 1001, .inl f))]) [0, 1, 2, 3, 4, 5] rfl
    have hDc := hD.sub (ws' := [(ma, .inr (18, [.int 0, .int (nI S), .int (nI G), .ref wa, .ref va, .ref na, .int my, .null, .int de, .int aa, .int bb, .ref tz])), (wa, .inl (cI, n, .inl w)), (va, .inl (cI, n, .inl mv)), (na, .inl (cI, n, .inl nx)), (ra, .inr (19, [.ref ma, .ref ta, .int st, .int ce, .int lf, .int rt, .int sp, .int 1, .int ib])), (ta, .inl (cI, 1001, .inl f))]) [0, 1, 2, 3, 4, 5] (by decide) rfl
    have hKc := hK.sub (tys' := [(cI, .int)]) [0] rfl
    have hFc := va_free (wc := [(ma, .inr (18, [.int 0, .int (nI S), .int (nI G), .ref wa, .ref va, .ref na, .int my, .null, .int de, .int aa, .int bb, .ref tz])), (wa, .inl (cI, n, .inl w)), (va, .inl (cI, n, .inl mv)), (na, .inl (cI, n, .inl nx)), (ra, .inr (19, [.ref ma, .ref ta, .int st, .int ce, .int lf, .int rt, .int sp, .int 1, .int ib])), (ta, .inl (cI, 1001, .inl f))]) hD hS hA [0, 1, 2, 3, 4, 5] rfl
    refine va_calli (va_runV (As := []) (rest := []) ⟨hx, hb, hml, hown, hts⟩ (c_X14_order l dC dI cI ma wa va na tz n S G my de aa bb w mv nx hM ra ta st ce lf rt sp 1 ib f (okR_fl hR (by decide) (okR_ib hR))  H.size) (cwV 0 hts gX14_step_X14_order rfl rfl rfl (by decide +kernel) ⟨Nat.le_of_ble_eq_true rfl, Nat.le_of_ble_eq_true rfl⟩) (pcV hPc hDc hKc hN (ci := 19) (q0 := 4) rfl rfl) rfl rfl hl.1 rfl (lv_room (Nat.le_of_ble_eq_true rfl)) dX14_step_24 ⟨Nat.le_of_ble_eq_true rfl, Nat.le_of_ble_eq_true rfl⟩) hS (fun q _ h => hFc q h) hFc (fun r_2 u t H1 locs ht hvm hw_3 hB hz1 hk1 hS => ?_)
    obtain ⟨hP1, hK1, hD1⟩ := hB
    rw [ht] at hP1
    try dsimp only at hw_3
    obtain ⟨hP, hD⟩ := va_join (wr := []) (w1 := [(ma, .inr (18, [.int 0, .int (nI S), .int (nI G), .ref wa, .ref va, .ref na, .int my, .null, .int de, .int aa, .int bb, .ref tz])), (wa, .inl (cI, n, .inl w)), (va, .inl (cI, n, .inl mv)), (na, .inl (cI, n, .inl nx)), (ra, .inr (19, [.ref ma, .ref ta, .int st, .int ce, .int lf, .int rt, .int sp, .int 1, .int ib])), (ta, .inl (cI, 1001, .inl f))]) hP hD [0, 1, 2, 3, 4, 5] [] rfl rfl (by decide) (by decide) hk1 hFc hP1 hD1
    generalize H1 = H at hP hS ⊢
    have hP : va_P (dC, dI) vwCl [(ma, .inr (18, [.int 0, .int (nI S), .int (nI G), .ref wa, .ref va, .ref na, .int my, .null, .int de, .int aa, .int bb, .ref tz])), (wa, .inl (cI, n, .inl w)), (va, .inl (cI, n, .inl mv)), (na, .inl (cI, n, .inl nx)), (ra, .inr (19, [.ref ma, .ref ta, .int st, .int ce, .int lf, .int rt, .int sp, .int 1, .int ib])), (ta, .inl (cI, 1001, .inl f))] H := hP
    have hD : va_D A [(ma, .inr (18, [.int 0, .int (nI S), .int (nI G), .ref wa, .ref va, .ref na, .int my, .null, .int de, .int aa, .int bb, .ref tz])), (wa, .inl (cI, n, .inl w)), (va, .inl (cI, n, .inl mv)), (na, .inl (cI, n, .inl nx)), (ra, .inr (19, [.ref ma, .ref ta, .int st, .int ce, .int lf, .int rt, .int sp, .int 1, .int ib])), (ta, .inl (cI, 1001, .inl f))] := hD
    refine lv_istore_n (lv' := [(1, .int r_2), (0, .ref ra)]) hx hb dX14_step_27 rfl hl (by decide) rfl (fun ls hl => ?_)
    refine lv_aload_n hx hb dX14_step_28 rfl (lv_at hl 1 rfl) ?_
    refine va_get (D := (dC, dI)) (ci := 19) (v := .int 1) (C := RX14) (T := TX14) (N := 9) hx hb hts iWX14 hown hK hP 4 rfl rfl 7 (by decide) (hts (.fieldLink RX14 35 "BeaverhallModel$Run" "hasHalted" "Z") (by decide +kernel)) (fun _ h9 => h9) rfl dX14_step_29 ?_
    refine lv_if_eq (tgt := 42) hx hb dX14_step_32 (by decide) (fun c32_4 => ?_) (fun c32_4 => ?_)
    · exact absurd c32_4 (by decide)
    · refine lv_aload_n hx hb dX14_step_35 rfl (lv_at hl 1 rfl) ?_
      refine va_get (D := (dC, dI)) (ci := 19) (v := .int ce) (C := RX14) (T := TX14) (N := 9) hx hb hts iWX14 hown hK hP 4 rfl rfl 3 (by decide) (hts (.fieldLink RX14 29 "BeaverhallModel$Run" "cell" "I") (by decide +kernel)) (fun _ h9 => h9) rfl dX14_step_36 ?_
      refine lv_goto (tgt := 56) hx hb dX14_step_39 (by decide) ?_
      refine lv_istore_n (lv' := [(2, .int ce), (1, .int r_2), (0, .ref ra)]) hx hb dX14_step_56 rfl hl (by decide) rfl (fun ls hl => ?_)
      refine lv_aload_n hx hb dX14_step_57 rfl (lv_at hl 2 rfl) ?_
      refine lv_aload_n hx hb dX14_step_58 rfl (lv_at hl 2 rfl) ?_
      refine va_get (D := (dC, dI)) (ci := 19) (v := .int ib) (C := RX14) (T := TX14) (N := 9) hx hb hts iWX14 hown hK hP 4 rfl rfl 8 (by decide) (hts (.fieldLink RX14 39 "BeaverhallModel$Run" "isBound" "Z") (by decide +kernel)) (fun _ h9 => h9) rfl dX14_step_59 ?_
      refine lv_if_ne (tgt := 79) hx hb dX14_step_62 (by decide) (fun c62_5 => ?_) (fun c62_5 => ?_)
      · refine lv_iconst (v := 1) hx hb dX14_step_79 (by decide) ?_
        refine lv_goto (tgt := 84) hx hb dX14_step_80 (by decide) ?_
        refine va_put (D := (dC, dI)) (ci := 19) (v := .int 1) (ty := .boolean) (C := RX14) (T := TX14) (N := 9) hx hb hts iWX14 tyX14 tyX14_ok nmX14 hown hK hP hD hS 4 rfl rfl 8 (by decide) (hts (.fieldLink RX14 39 "BeaverhallModel$Run" "isBound" "Z") (by decide +kernel)) (fun _ h9 => h9) rfl (by decide +kernel) rfl rfl (Nat.le_of_ble_eq_true rfl) dX14_step_84 (fun H locs hP hD hS => ?_)
        have hP : va_P (dC, dI) vwCl [(ma, .inr (18, [.int 0, .int (nI S), .int (nI G), .ref wa, .ref va, .ref na, .int my, .null, .int de, .int aa, .int bb, .ref tz])), (wa, .inl (cI, n, .inl w)), (va, .inl (cI, n, .inl mv)), (na, .inl (cI, n, .inl nx)), (ra, .inr (19, [.ref ma, .ref ta, .int st, .int ce, .int lf, .int rt, .int sp, .int 1, .int 1])), (ta, .inl (cI, 1001, .inl f))] H := hP
        have hD : va_D A [(ma, .inr (18, [.int 0, .int (nI S), .int (nI G), .ref wa, .ref va, .ref na, .int my, .null, .int de, .int aa, .int bb, .ref tz])), (wa, .inl (cI, n, .inl w)), (va, .inl (cI, n, .inl mv)), (na, .inl (cI, n, .inl nx)), (ra, .inr (19, [.ref ma, .ref ta, .int st, .int ce, .int lf, .int rt, .int sp, .int 1, .int 1])), (ta, .inl (cI, 1001, .inl f))] := hD
        refine lv_aload_n hx hb dX14_step_87 rfl (lv_at hl 2 rfl) ?_
        refine va_get (D := (dC, dI)) (ci := 19) (v := .int 1) (C := RX14) (T := TX14) (N := 9) hx hb hts iWX14 hown hK hP 4 rfl rfl 7 (by decide) (hts (.fieldLink RX14 35 "BeaverhallModel$Run" "hasHalted" "Z") (by decide +kernel)) (fun _ h9 => h9) rfl dX14_step_88 ?_
        refine lv_if_ne (tgt := 101) hx hb dX14_step_91 (by decide) (fun c91_6 => ?_) (fun c91_6 => ?_)
        · refine lv_iconst (v := 0) hx hb dX14_step_101 (by decide) ?_
          have hP9 := hP.sub (ws' := [(ma, .inr (18, [.int 0, .int (nI S), .int (nI G), .ref wa, .ref va, .ref na, .int my, .null, .int de, .int aa, .int bb, .ref tz])), (wa, .inl (cI, n, .inl w)), (va, .inl (cI, n, .inl mv)), (na, .inl (cI, n, .inl nx)), (ra, .inr (19, [.ref ma, .ref ta, .int st, .int ce, .int lf, .int rt, .int sp, .int 1, .int 1])), (ta, .inl (cI, 1001, .inl f))]) [0, 1, 2, 3, 4, 5] rfl
          have hD9 := hD.sub (ws' := [(ma, .inr (18, [.int 0, .int (nI S), .int (nI G), .ref wa, .ref va, .ref na, .int my, .null, .int de, .int aa, .int bb, .ref tz])), (wa, .inl (cI, n, .inl w)), (va, .inl (cI, n, .inl mv)), (na, .inl (cI, n, .inl nx)), (ra, .inr (19, [.ref ma, .ref ta, .int st, .int ce, .int lf, .int rt, .int sp, .int 1, .int 1])), (ta, .inl (cI, 1001, .inl f))]) [0, 1, 2, 3, 4, 5] (by decide) rfl
          have hK9 := hK.sub (tys' := [(cI, .int)]) [0] rfl
          exact W.zret (v := 0) hx hb hr (by rfl) (fun t ht hW => ⟨⟨0, (st, ce, lf, rt, sp, 1, 1, f), rfl, (by (try subst hw_3); simp [stepR, c5_1, c32_4, c62_5, c91_6]), ⟨by rw [ht]; exact hP9, va_K.moved hW.alike hK9, hD9⟩⟩, hS.F ht⟩) hS.2.2 dX14_step_102
        · exact absurd c91_6 (by decide)
      · refine lv_iload_n hx hb dX14_step_65 rfl (lv_at hl 0 rfl) ?_
        refine lv_sipush (v := 500) hx hb dX14_step_66 (by decide) ?_
        refine lv_icmp_gt (tgt := 79) hx hb dX14_step_69 (by decide) (fun c69_7 => ?_) (fun c69_7 => ?_)
        · refine lv_iconst (v := 1) hx hb dX14_step_79 (by decide) ?_
          refine lv_goto (tgt := 84) hx hb dX14_step_80 (by decide) ?_
          refine va_put (D := (dC, dI)) (ci := 19) (v := .int 1) (ty := .boolean) (C := RX14) (T := TX14) (N := 9) hx hb hts iWX14 tyX14 tyX14_ok nmX14 hown hK hP hD hS 4 rfl rfl 8 (by decide) (hts (.fieldLink RX14 39 "BeaverhallModel$Run" "isBound" "Z") (by decide +kernel)) (fun _ h9 => h9) rfl (by decide +kernel) rfl rfl (Nat.le_of_ble_eq_true rfl) dX14_step_84 (fun H locs hP hD hS => ?_)
          have hP : va_P (dC, dI) vwCl [(ma, .inr (18, [.int 0, .int (nI S), .int (nI G), .ref wa, .ref va, .ref na, .int my, .null, .int de, .int aa, .int bb, .ref tz])), (wa, .inl (cI, n, .inl w)), (va, .inl (cI, n, .inl mv)), (na, .inl (cI, n, .inl nx)), (ra, .inr (19, [.ref ma, .ref ta, .int st, .int ce, .int lf, .int rt, .int sp, .int 1, .int 1])), (ta, .inl (cI, 1001, .inl f))] H := hP
          have hD : va_D A [(ma, .inr (18, [.int 0, .int (nI S), .int (nI G), .ref wa, .ref va, .ref na, .int my, .null, .int de, .int aa, .int bb, .ref tz])), (wa, .inl (cI, n, .inl w)), (va, .inl (cI, n, .inl mv)), (na, .inl (cI, n, .inl nx)), (ra, .inr (19, [.ref ma, .ref ta, .int st, .int ce, .int lf, .int rt, .int sp, .int 1, .int 1])), (ta, .inl (cI, 1001, .inl f))] := hD
          refine lv_aload_n hx hb dX14_step_87 rfl (lv_at hl 2 rfl) ?_
          refine va_get (D := (dC, dI)) (ci := 19) (v := .int 1) (C := RX14) (T := TX14) (N := 9) hx hb hts iWX14 hown hK hP 4 rfl rfl 7 (by decide) (hts (.fieldLink RX14 35 "BeaverhallModel$Run" "hasHalted" "Z") (by decide +kernel)) (fun _ h9 => h9) rfl dX14_step_88 ?_
          refine lv_if_ne (tgt := 101) hx hb dX14_step_91 (by decide) (fun c91_8 => ?_) (fun c91_8 => ?_)
          · refine lv_iconst (v := 0) hx hb dX14_step_101 (by decide) ?_
            have hP9 := hP.sub (ws' := [(ma, .inr (18, [.int 0, .int (nI S), .int (nI G), .ref wa, .ref va, .ref na, .int my, .null, .int de, .int aa, .int bb, .ref tz])), (wa, .inl (cI, n, .inl w)), (va, .inl (cI, n, .inl mv)), (na, .inl (cI, n, .inl nx)), (ra, .inr (19, [.ref ma, .ref ta, .int st, .int ce, .int lf, .int rt, .int sp, .int 1, .int 1])), (ta, .inl (cI, 1001, .inl f))]) [0, 1, 2, 3, 4, 5] rfl
            have hD9 := hD.sub (ws' := [(ma, .inr (18, [.int 0, .int (nI S), .int (nI G), .ref wa, .ref va, .ref na, .int my, .null, .int de, .int aa, .int bb, .ref tz])), (wa, .inl (cI, n, .inl w)), (va, .inl (cI, n, .inl mv)), (na, .inl (cI, n, .inl nx)), (ra, .inr (19, [.ref ma, .ref ta, .int st, .int ce, .int lf, .int rt, .int sp, .int 1, .int 1])), (ta, .inl (cI, 1001, .inl f))]) [0, 1, 2, 3, 4, 5] (by decide) rfl
            have hK9 := hK.sub (tys' := [(cI, .int)]) [0] rfl
            exact W.zret (v := 0) hx hb hr (by rfl) (fun t ht hW => ⟨⟨0, (st, ce, lf, rt, sp, 1, 1, f), rfl, (by (try subst hw_3); simp [stepR, c5_1, c32_4, c62_5, c69_7, c91_8]), ⟨by rw [ht]; exact hP9, va_K.moved hW.alike hK9, hD9⟩⟩, hS.F ht⟩) hS.2.2 dX14_step_102
          · exact absurd c91_8 (by decide)
        · refine lv_iload_n hx hb dX14_step_72 rfl (lv_at hl 0 rfl) ?_
          refine lv_sipush (v := (-500)) hx hb dX14_step_73 (by decide) ?_
          refine lv_icmp_ge (tgt := 83) hx hb dX14_step_76 (by decide) (fun c76_9 => ?_) (fun c76_9 => ?_)
          · refine lv_iconst (v := 0) hx hb dX14_step_83 (by decide) ?_
            refine va_put (D := (dC, dI)) (ci := 19) (v := .int 0) (ty := .boolean) (C := RX14) (T := TX14) (N := 9) hx hb hts iWX14 tyX14 tyX14_ok nmX14 hown hK hP hD hS 4 rfl rfl 8 (by decide) (hts (.fieldLink RX14 39 "BeaverhallModel$Run" "isBound" "Z") (by decide +kernel)) (fun _ h9 => h9) rfl (by decide +kernel) rfl rfl (Nat.le_of_ble_eq_true rfl) dX14_step_84 (fun H locs hP hD hS => ?_)
            have hP : va_P (dC, dI) vwCl [(ma, .inr (18, [.int 0, .int (nI S), .int (nI G), .ref wa, .ref va, .ref na, .int my, .null, .int de, .int aa, .int bb, .ref tz])), (wa, .inl (cI, n, .inl w)), (va, .inl (cI, n, .inl mv)), (na, .inl (cI, n, .inl nx)), (ra, .inr (19, [.ref ma, .ref ta, .int st, .int ce, .int lf, .int rt, .int sp, .int 1, .int 0])), (ta, .inl (cI, 1001, .inl f))] H := hP
            have hD : va_D A [(ma, .inr (18, [.int 0, .int (nI S), .int (nI G), .ref wa, .ref va, .ref na, .int my, .null, .int de, .int aa, .int bb, .ref tz])), (wa, .inl (cI, n, .inl w)), (va, .inl (cI, n, .inl mv)), (na, .inl (cI, n, .inl nx)), (ra, .inr (19, [.ref ma, .ref ta, .int st, .int ce, .int lf, .int rt, .int sp, .int 1, .int 0])), (ta, .inl (cI, 1001, .inl f))] := hD
            refine lv_aload_n hx hb dX14_step_87 rfl (lv_at hl 2 rfl) ?_
            refine va_get (D := (dC, dI)) (ci := 19) (v := .int 1) (C := RX14) (T := TX14) (N := 9) hx hb hts iWX14 hown hK hP 4 rfl rfl 7 (by decide) (hts (.fieldLink RX14 35 "BeaverhallModel$Run" "hasHalted" "Z") (by decide +kernel)) (fun _ h9 => h9) rfl dX14_step_88 ?_
            refine lv_if_ne (tgt := 101) hx hb dX14_step_91 (by decide) (fun c91_10 => ?_) (fun c91_10 => ?_)
            · refine lv_iconst (v := 0) hx hb dX14_step_101 (by decide) ?_
              have hP9 := hP.sub (ws' := [(ma, .inr (18, [.int 0, .int (nI S), .int (nI G), .ref wa, .ref va, .ref na, .int my, .null, .int de, .int aa, .int bb, .ref tz])), (wa, .inl (cI, n, .inl w)), (va, .inl (cI, n, .inl mv)), (na, .inl (cI, n, .inl nx)), (ra, .inr (19, [.ref ma, .ref ta, .int st, .int ce, .int lf, .int rt, .int sp, .int 1, .int 0])), (ta, .inl (cI, 1001, .inl f))]) [0, 1, 2, 3, 4, 5] rfl
              have hD9 := hD.sub (ws' := [(ma, .inr (18, [.int 0, .int (nI S), .int (nI G), .ref wa, .ref va, .ref na, .int my, .null, .int de, .int aa, .int bb, .ref tz])), (wa, .inl (cI, n, .inl w)), (va, .inl (cI, n, .inl mv)), (na, .inl (cI, n, .inl nx)), (ra, .inr (19, [.ref ma, .ref ta, .int st, .int ce, .int lf, .int rt, .int sp, .int 1, .int 0])), (ta, .inl (cI, 1001, .inl f))]) [0, 1, 2, 3, 4, 5] (by decide) rfl
              have hK9 := hK.sub (tys' := [(cI, .int)]) [0] rfl
              exact W.zret (v := 0) hx hb hr (by rfl) (fun t ht hW => ⟨⟨0, (st, ce, lf, rt, sp, 1, 0, f), rfl, (by (try subst hw_3); simp [stepR, c5_1, c32_4, c62_5, c69_7, c76_9, c91_10]), ⟨by rw [ht]; exact hP9, va_K.moved hW.alike hK9, hD9⟩⟩, hS.F ht⟩) hS.2.2 dX14_step_102
            · exact absurd c91_10 (by decide)
          · refine lv_iconst (v := 1) hx hb dX14_step_79 (by decide) ?_
            refine lv_goto (tgt := 84) hx hb dX14_step_80 (by decide) ?_
            refine va_put (D := (dC, dI)) (ci := 19) (v := .int 1) (ty := .boolean) (C := RX14) (T := TX14) (N := 9) hx hb hts iWX14 tyX14 tyX14_ok nmX14 hown hK hP hD hS 4 rfl rfl 8 (by decide) (hts (.fieldLink RX14 39 "BeaverhallModel$Run" "isBound" "Z") (by decide +kernel)) (fun _ h9 => h9) rfl (by decide +kernel) rfl rfl (Nat.le_of_ble_eq_true rfl) dX14_step_84 (fun H locs hP hD hS => ?_)
            have hP : va_P (dC, dI) vwCl [(ma, .inr (18, [.int 0, .int (nI S), .int (nI G), .ref wa, .ref va, .ref na, .int my, .null, .int de, .int aa, .int bb, .ref tz])), (wa, .inl (cI, n, .inl w)), (va, .inl (cI, n, .inl mv)), (na, .inl (cI, n, .inl nx)), (ra, .inr (19, [.ref ma, .ref ta, .int st, .int ce, .int lf, .int rt, .int sp, .int 1, .int 1])), (ta, .inl (cI, 1001, .inl f))] H := hP
            have hD : va_D A [(ma, .inr (18, [.int 0, .int (nI S), .int (nI G), .ref wa, .ref va, .ref na, .int my, .null, .int de, .int aa, .int bb, .ref tz])), (wa, .inl (cI, n, .inl w)), (va, .inl (cI, n, .inl mv)), (na, .inl (cI, n, .inl nx)), (ra, .inr (19, [.ref ma, .ref ta, .int st, .int ce, .int lf, .int rt, .int sp, .int 1, .int 1])), (ta, .inl (cI, 1001, .inl f))] := hD
            refine lv_aload_n hx hb dX14_step_87 rfl (lv_at hl 2 rfl) ?_
            refine va_get (D := (dC, dI)) (ci := 19) (v := .int 1) (C := RX14) (T := TX14) (N := 9) hx hb hts iWX14 hown hK hP 4 rfl rfl 7 (by decide) (hts (.fieldLink RX14 35 "BeaverhallModel$Run" "hasHalted" "Z") (by decide +kernel)) (fun _ h9 => h9) rfl dX14_step_88 ?_
            refine lv_if_ne (tgt := 101) hx hb dX14_step_91 (by decide) (fun c91_11 => ?_) (fun c91_11 => ?_)
            · refine lv_iconst (v := 0) hx hb dX14_step_101 (by decide) ?_
              have hP9 := hP.sub (ws' := [(ma, .inr (18, [.int 0, .int (nI S), .int (nI G), .ref wa, .ref va, .ref na, .int my, .null, .int de, .int aa, .int bb, .ref tz])), (wa, .inl (cI, n, .inl w)), (va, .inl (cI, n, .inl mv)), (na, .inl (cI, n, .inl nx)), (ra, .inr (19, [.ref ma, .ref ta, .int st, .int ce, .int lf, .int rt, .int sp, .int 1, .int 1])), (ta, .inl (cI, 1001, .inl f))]) [0, 1, 2, 3, 4, 5] rfl
              have hD9 := hD.sub (ws' := [(ma, .inr (18, [.int 0, .int (nI S), .int (nI G), .ref wa, .ref va, .ref na, .int my, .null, .int de, .int aa, .int bb, .ref tz])), (wa, .inl (cI, n, .inl w)), (va, .inl (cI, n, .inl mv)), (na, .inl (cI, n, .inl nx)), (ra, .inr (19, [.ref ma, .ref ta, .int st, .int ce, .int lf, .int rt, .int sp, .int 1, .int 1])), (ta, .inl (cI, 1001, .inl f))]) [0, 1, 2, 3, 4, 5] (by decide) rfl
              have hK9 := hK.sub (tys' := [(cI, .int)]) [0] rfl
              exact W.zret (v := 0) hx hb hr (by rfl) (fun t ht hW => ⟨⟨0, (st, ce, lf, rt, sp, 1, 1, f), rfl, (by (try subst hw_3); simp [stepR, c5_1, c32_4, c62_5, c69_7, c76_9, c91_11]), ⟨by rw [ht]; exact hP9, va_K.moved hW.alike hK9, hD9⟩⟩, hS.F ht⟩) hS.2.2 dX14_step_102
            · exact absurd c91_11 (by decide)
  · refine lv_aload_n hx hb dX14_step_8 rfl (lv_at hl 0 rfl) ?_
    have hPc := hP.sub (ws' := [(ma, .inr (18, [.int 0, .int (nI S), .int (nI G), .ref wa, .ref va, .ref na, .int my, .null, .int de, .int aa, .int bb, .ref tz])), (wa, .inl (cI, n, .inl w)), (va, .inl (cI, n, .inl mv)), (na, .inl (cI, n, .inl nx)), (ra, .inr (19, [.ref ma, .ref ta, .int st, .int ce, .int lf, .int rt, .int sp, .int hh, .int ib])), (ta, .inl (cI, 1001, .inl f))]) [0, 1, 2, 3, 4, 5] rfl
    have hDc := hD.sub (ws' := [(ma, .inr (18, [.int 0, .int (nI S), .int (nI G), .ref wa, .ref va, .ref na, .int my, .null, .int de, .int aa, .int bb, .ref tz])), (wa, .inl (cI, n, .inl w)), (va, .inl (cI, n, .inl mv)), (na, .inl (cI, n, .inl nx)), (ra, .inr (19, [.ref ma, .ref ta, .int st, .int ce, .int lf, .int rt, .int sp, .int hh, .int ib])), (ta, .inl (cI, 1001, .inl f))]) [0, 1, 2, 3, 4, 5] (by decide) rfl
    have hKc := hK.sub (tys' := [(cI, .int)]) [0] rfl
    have hFc := va_free (wc := [(ma, .inr (18, [.int 0, .int (nI S), .int (nI G), .ref wa, .ref va, .ref na, .int my, .null, .int de, .int aa, .int bb, .ref tz])), (wa, .inl (cI, n, .inl w)), (va, .inl (cI, n, .inl mv)), (na, .inl (cI, n, .inl nx)), (ra, .inr (19, [.ref ma, .ref ta, .int st, .int ce, .int lf, .int rt, .int sp, .int hh, .int ib])), (ta, .inl (cI, 1001, .inl f))]) hD hS hA [0, 1, 2, 3, 4, 5] rfl
    refine va_calli (va_runV (As := []) (rest := [.ref ra]) ⟨hx, hb, hml, hown, hts⟩ (c_X14_hasNoOrder l dC dI cI ma wa va na tz n S G my de aa bb w mv nx hM ra ta st ce lf rt sp hh ib f hR  s.heap.size) (cwV 0 hts gX14_step_X14_hasNoOrder rfl rfl rfl (by decide +kernel) ⟨Nat.le_of_ble_eq_true rfl, Nat.le_of_ble_eq_true rfl⟩) (pcV hPc hDc hKc hN (ci := 19) (q0 := 4) rfl rfl) rfl rfl hl.1 rfl (lv_room (Nat.le_of_ble_eq_true rfl)) dX14_step_9 ⟨Nat.le_of_ble_eq_true rfl, Nat.le_of_ble_eq_true rfl⟩) hS (fun q _ h => hFc q h) hFc (fun r_12 u t H1 locs ht hvm hw_13 hB hz1 hk1 hS => ?_)
    obtain ⟨hP1, hK1, hD1⟩ := hB
    rw [ht] at hP1
    try dsimp only at hw_13
    obtain ⟨hP, hD⟩ := va_join (wr := []) (w1 := [(ma, .inr (18, [.int 0, .int (nI S), .int (nI G), .ref wa, .ref va, .ref na, .int my, .null, .int de, .int aa, .int bb, .ref tz])), (wa, .inl (cI, n, .inl w)), (va, .inl (cI, n, .inl mv)), (na, .inl (cI, n, .inl nx)), (ra, .inr (19, [.ref ma, .ref ta, .int st, .int ce, .int lf, .int rt, .int sp, .int hh, .int ib])), (ta, .inl (cI, 1001, .inl f))]) hP hD [0, 1, 2, 3, 4, 5] [] rfl rfl (by decide) (by decide) hk1 hFc hP1 hD1
    generalize H1 = H at hP hS ⊢
    have hP : va_P (dC, dI) vwCl [(ma, .inr (18, [.int 0, .int (nI S), .int (nI G), .ref wa, .ref va, .ref na, .int my, .null, .int de, .int aa, .int bb, .ref tz])), (wa, .inl (cI, n, .inl w)), (va, .inl (cI, n, .inl mv)), (na, .inl (cI, n, .inl nx)), (ra, .inr (19, [.ref ma, .ref ta, .int st, .int ce, .int lf, .int rt, .int sp, .int hh, .int ib])), (ta, .inl (cI, 1001, .inl f))] H := hP
    have hD : va_D A [(ma, .inr (18, [.int 0, .int (nI S), .int (nI G), .ref wa, .ref va, .ref na, .int my, .null, .int de, .int aa, .int bb, .ref tz])), (wa, .inl (cI, n, .inl w)), (va, .inl (cI, n, .inl mv)), (na, .inl (cI, n, .inl nx)), (ra, .inr (19, [.ref ma, .ref ta, .int st, .int ce, .int lf, .int rt, .int sp, .int hh, .int ib])), (ta, .inl (cI, 1001, .inl f))] := hD
    refine lv_if_eq (tgt := 19) hx hb dX14_step_12 (by decide) (fun c12_14 => ?_) (fun c12_14 => ?_)
    · refine lv_iconst (v := 0) hx hb dX14_step_19 (by decide) ?_
      refine va_put (D := (dC, dI)) (ci := 19) (v := .int 0) (ty := .boolean) (C := RX14) (T := TX14) (N := 9) hx hb hts iWX14 tyX14 tyX14_ok nmX14 hown hK hP hD hS 4 rfl rfl 7 (by decide) (hts (.fieldLink RX14 35 "BeaverhallModel$Run" "hasHalted" "Z") (by decide +kernel)) (fun _ h9 => h9) rfl (by decide +kernel) rfl rfl (Nat.le_of_ble_eq_true rfl) dX14_step_20 (fun H locs hP hD hS => ?_)
      have hP : va_P (dC, dI) vwCl [(ma, .inr (18, [.int 0, .int (nI S), .int (nI G), .ref wa, .ref va, .ref na, .int my, .null, .int de, .int aa, .int bb, .ref tz])), (wa, .inl (cI, n, .inl w)), (va, .inl (cI, n, .inl mv)), (na, .inl (cI, n, .inl nx)), (ra, .inr (19, [.ref ma, .ref ta, .int st, .int ce, .int lf, .int rt, .int sp, .int 0, .int ib])), (ta, .inl (cI, 1001, .inl f))] H := hP
      have hD : va_D A [(ma, .inr (18, [.int 0, .int (nI S), .int (nI G), .ref wa, .ref va, .ref na, .int my, .null, .int de, .int aa, .int bb, .ref tz])), (wa, .inl (cI, n, .inl w)), (va, .inl (cI, n, .inl mv)), (na, .inl (cI, n, .inl nx)), (ra, .inr (19, [.ref ma, .ref ta, .int st, .int ce, .int lf, .int rt, .int sp, .int 0, .int ib])), (ta, .inl (cI, 1001, .inl f))] := hD
      refine lv_aload_n hx hb dX14_step_23 rfl (lv_at hl 0 rfl) ?_
      have hPc := hP.sub (ws' := [(ma, .inr (18, [.int 0, .int (nI S), .int (nI G), .ref wa, .ref va, .ref na, .int my, .null, .int de, .int aa, .int bb, .ref tz])), (wa, .inl (cI, n, .inl w)), (va, .inl (cI, n, .inl mv)), (na, .inl (cI, n, .inl nx)), (ra, .inr (19, [.ref ma, .ref ta, .int st, .int ce, .int lf, .int rt, .int sp, .int 0, .int ib])), (ta, .inl (cI, 1001, .inl f))]) [0, 1, 2, 3, 4, 5] rfl
      have hDc := hD.sub (ws' := [(ma, .inr (18, [.int 0, .int (nI S), .int (nI G), .ref wa, .ref va, .ref na, .int my, .null, .int de, .int aa, .int bb, .ref tz])), (wa, .inl (cI, n, .inl w)), (va, .inl (cI, n, .inl mv)), (na, .inl (cI, n, .inl nx)), (ra, .inr (19, [.ref ma, .ref ta, .int st, .int ce, .int lf, .int rt, .int sp, .int 0, .int ib])), (ta, .inl (cI, 1001, .inl f))]) [0, 1, 2, 3, 4, 5] (by decide) rfl
      have hKc := hK.sub (tys' := [(cI, .int)]) [0] rfl
      have hFc := va_free (wc := [(ma, .inr (18, [.int 0, .int (nI S), .int (nI G), .ref wa, .ref va, .ref na, .int my, .null, .int de, .int aa, .int bb, .ref tz])), (wa, .inl (cI, n, .inl w)), (va, .inl (cI, n, .inl mv)), (na, .inl (cI, n, .inl nx)), (ra, .inr (19, [.ref ma, .ref ta, .int st, .int ce, .int lf, .int rt, .int sp, .int 0, .int ib])), (ta, .inl (cI, 1001, .inl f))]) hD hS hA [0, 1, 2, 3, 4, 5] rfl
      refine va_calli (va_runV (As := []) (rest := []) ⟨hx, hb, hml, hown, hts⟩ (c_X14_order l dC dI cI ma wa va na tz n S G my de aa bb w mv nx hM ra ta st ce lf rt sp 0 ib f (okR_fl hR (by decide) (okR_ib hR))  H.size) (cwV 0 hts gX14_step_X14_order rfl rfl rfl (by decide +kernel) ⟨Nat.le_of_ble_eq_true rfl, Nat.le_of_ble_eq_true rfl⟩) (pcV hPc hDc hKc hN (ci := 19) (q0 := 4) rfl rfl) rfl rfl hl.1 rfl (lv_room (Nat.le_of_ble_eq_true rfl)) dX14_step_24 ⟨Nat.le_of_ble_eq_true rfl, Nat.le_of_ble_eq_true rfl⟩) hS (fun q _ h => hFc q h) hFc (fun r_15 u t H1 locs ht hvm hw_16 hB hz1 hk1 hS => ?_)
      obtain ⟨hP1, hK1, hD1⟩ := hB
      rw [ht] at hP1
      try dsimp only at hw_16
      obtain ⟨hP, hD⟩ := va_join (wr := []) (w1 := [(ma, .inr (18, [.int 0, .int (nI S), .int (nI G), .ref wa, .ref va, .ref na, .int my, .null, .int de, .int aa, .int bb, .ref tz])), (wa, .inl (cI, n, .inl w)), (va, .inl (cI, n, .inl mv)), (na, .inl (cI, n, .inl nx)), (ra, .inr (19, [.ref ma, .ref ta, .int st, .int ce, .int lf, .int rt, .int sp, .int 0, .int ib])), (ta, .inl (cI, 1001, .inl f))]) hP hD [0, 1, 2, 3, 4, 5] [] rfl rfl (by decide) (by decide) hk1 hFc hP1 hD1
      generalize H1 = H at hP hS ⊢
      have hP : va_P (dC, dI) vwCl [(ma, .inr (18, [.int 0, .int (nI S), .int (nI G), .ref wa, .ref va, .ref na, .int my, .null, .int de, .int aa, .int bb, .ref tz])), (wa, .inl (cI, n, .inl w)), (va, .inl (cI, n, .inl mv)), (na, .inl (cI, n, .inl nx)), (ra, .inr (19, [.ref ma, .ref ta, .int st, .int ce, .int lf, .int rt, .int sp, .int 0, .int ib])), (ta, .inl (cI, 1001, .inl f))] H := hP
      have hD : va_D A [(ma, .inr (18, [.int 0, .int (nI S), .int (nI G), .ref wa, .ref va, .ref na, .int my, .null, .int de, .int aa, .int bb, .ref tz])), (wa, .inl (cI, n, .inl w)), (va, .inl (cI, n, .inl mv)), (na, .inl (cI, n, .inl nx)), (ra, .inr (19, [.ref ma, .ref ta, .int st, .int ce, .int lf, .int rt, .int sp, .int 0, .int ib])), (ta, .inl (cI, 1001, .inl f))] := hD
      refine lv_istore_n (lv' := [(1, .int r_15), (0, .ref ra)]) hx hb dX14_step_27 rfl hl (by decide) rfl (fun ls hl => ?_)
      refine lv_aload_n hx hb dX14_step_28 rfl (lv_at hl 1 rfl) ?_
      refine va_get (D := (dC, dI)) (ci := 19) (v := .int 0) (C := RX14) (T := TX14) (N := 9) hx hb hts iWX14 hown hK hP 4 rfl rfl 7 (by decide) (hts (.fieldLink RX14 35 "BeaverhallModel$Run" "hasHalted" "Z") (by decide +kernel)) (fun _ h9 => h9) rfl dX14_step_29 ?_
      refine lv_if_eq (tgt := 42) hx hb dX14_step_32 (by decide) (fun c32_17 => ?_) (fun c32_17 => ?_)
      · refine lv_aload_n hx hb dX14_step_42 rfl (lv_at hl 1 rfl) ?_
        refine va_get (D := (dC, dI)) (ci := 19) (v := .int ce) (C := RX14) (T := TX14) (N := 9) hx hb hts iWX14 hown hK hP 4 rfl rfl 3 (by decide) (hts (.fieldLink RX14 29 "BeaverhallModel$Run" "cell" "I") (by decide +kernel)) (fun _ h9 => h9) rfl dX14_step_43 ?_
        refine lv_aload_n hx hb dX14_step_46 rfl (lv_at hl 1 rfl) ?_
        refine va_get (D := (dC, dI)) (ci := 19) (v := .ref ma) (C := RX14) (T := TX14) (N := 9) hx hb hts iWX14 hown hK hP 4 rfl rfl 0 (by decide) (hts (.fieldLink RX14 15 "BeaverhallModel$Run" "machine" "LBeaverhallModel$Machine;") (by decide +kernel)) (fun _ h9 => h9) rfl dX14_step_47 ?_
        refine va_getN (D := (dC, dI)) (ci := 18) (v := .ref va) (C := RX13) (T := TX13) (N := 12) hx hb hts iWX13 hown hK hP 0 rfl rfl 4 (by decide) (va_Nw.use rfl (hN (.fieldLinkNest RX14 59 "BeaverhallModel$Machine" "moves" "[I" "BeaverhallModel") (by decide +kernel))) (fun _ h9 => h9) rfl dX14_step_50 ?_
        refine lv_iload_n hx hb dX14_step_53 rfl (lv_at hl 0 rfl) ?_
        refine va_iald hx hb hK hP 2 0 rfl rfl (by rw [hw_16]; exact okR_oin hM hR) dX14_step_54 ?_
        refine lv_iadd hx hb dX14_step_55 ?_
        refine lv_topi (fun x_18 ex_18 => ?_)
        refine lv_istore_n (lv' := [(2, .int x_18), (1, .int r_15), (0, .ref ra)]) hx hb dX14_step_56 rfl hl (by decide) rfl (fun ls hl => ?_)
        refine lv_aload_n hx hb dX14_step_57 rfl (lv_at hl 2 rfl) ?_
        refine lv_aload_n hx hb dX14_step_58 rfl (lv_at hl 2 rfl) ?_
        refine va_get (D := (dC, dI)) (ci := 19) (v := .int ib) (C := RX14) (T := TX14) (N := 9) hx hb hts iWX14 hown hK hP 4 rfl rfl 8 (by decide) (hts (.fieldLink RX14 39 "BeaverhallModel$Run" "isBound" "Z") (by decide +kernel)) (fun _ h9 => h9) rfl dX14_step_59 ?_
        refine lv_if_ne (tgt := 79) hx hb dX14_step_62 (by decide) (fun c62_19 => ?_) (fun c62_19 => ?_)
        · refine lv_iconst (v := 1) hx hb dX14_step_79 (by decide) ?_
          refine lv_goto (tgt := 84) hx hb dX14_step_80 (by decide) ?_
          refine va_put (D := (dC, dI)) (ci := 19) (v := .int 1) (ty := .boolean) (C := RX14) (T := TX14) (N := 9) hx hb hts iWX14 tyX14 tyX14_ok nmX14 hown hK hP hD hS 4 rfl rfl 8 (by decide) (hts (.fieldLink RX14 39 "BeaverhallModel$Run" "isBound" "Z") (by decide +kernel)) (fun _ h9 => h9) rfl (by decide +kernel) rfl rfl (Nat.le_of_ble_eq_true rfl) dX14_step_84 (fun H locs hP hD hS => ?_)
          have hP : va_P (dC, dI) vwCl [(ma, .inr (18, [.int 0, .int (nI S), .int (nI G), .ref wa, .ref va, .ref na, .int my, .null, .int de, .int aa, .int bb, .ref tz])), (wa, .inl (cI, n, .inl w)), (va, .inl (cI, n, .inl mv)), (na, .inl (cI, n, .inl nx)), (ra, .inr (19, [.ref ma, .ref ta, .int st, .int ce, .int lf, .int rt, .int sp, .int 0, .int 1])), (ta, .inl (cI, 1001, .inl f))] H := hP
          have hD : va_D A [(ma, .inr (18, [.int 0, .int (nI S), .int (nI G), .ref wa, .ref va, .ref na, .int my, .null, .int de, .int aa, .int bb, .ref tz])), (wa, .inl (cI, n, .inl w)), (va, .inl (cI, n, .inl mv)), (na, .inl (cI, n, .inl nx)), (ra, .inr (19, [.ref ma, .ref ta, .int st, .int ce, .int lf, .int rt, .int sp, .int 0, .int 1])), (ta, .inl (cI, 1001, .inl f))] := hD
          refine lv_aload_n hx hb dX14_step_87 rfl (lv_at hl 2 rfl) ?_
          refine va_get (D := (dC, dI)) (ci := 19) (v := .int 0) (C := RX14) (T := TX14) (N := 9) hx hb hts iWX14 hown hK hP 4 rfl rfl 7 (by decide) (hts (.fieldLink RX14 35 "BeaverhallModel$Run" "hasHalted" "Z") (by decide +kernel)) (fun _ h9 => h9) rfl dX14_step_88 ?_
          refine lv_if_ne (tgt := 101) hx hb dX14_step_91 (by decide) (fun c91_20 => ?_) (fun c91_20 => ?_)
          · exact (c91_20 (by decide)).elim
          · refine lv_aload_n hx hb dX14_step_94 rfl (lv_at hl 2 rfl) ?_
            refine va_get (D := (dC, dI)) (ci := 19) (v := .int 1) (C := RX14) (T := TX14) (N := 9) hx hb hts iWX14 hown hK hP 4 rfl rfl 8 (by decide) (hts (.fieldLink RX14 39 "BeaverhallModel$Run" "isBound" "Z") (by decide +kernel)) (fun _ h9 => h9) rfl dX14_step_95 ?_
            refine lv_if_eq (tgt := 103) hx hb dX14_step_98 (by decide) (fun c98_21 => ?_) (fun c98_21 => ?_)
            · exact absurd c98_21 (by decide)
            · refine lv_iconst (v := 0) hx hb dX14_step_101 (by decide) ?_
              have hP9 := hP.sub (ws' := [(ma, .inr (18, [.int 0, .int (nI S), .int (nI G), .ref wa, .ref va, .ref na, .int my, .null, .int de, .int aa, .int bb, .ref tz])), (wa, .inl (cI, n, .inl w)), (va, .inl (cI, n, .inl mv)), (na, .inl (cI, n, .inl nx)), (ra, .inr (19, [.ref ma, .ref ta, .int st, .int ce, .int lf, .int rt, .int sp, .int 0, .int 1])), (ta, .inl (cI, 1001, .inl f))]) [0, 1, 2, 3, 4, 5] rfl
              have hD9 := hD.sub (ws' := [(ma, .inr (18, [.int 0, .int (nI S), .int (nI G), .ref wa, .ref va, .ref na, .int my, .null, .int de, .int aa, .int bb, .ref tz])), (wa, .inl (cI, n, .inl w)), (va, .inl (cI, n, .inl mv)), (na, .inl (cI, n, .inl nx)), (ra, .inr (19, [.ref ma, .ref ta, .int st, .int ce, .int lf, .int rt, .int sp, .int 0, .int 1])), (ta, .inl (cI, 1001, .inl f))]) [0, 1, 2, 3, 4, 5] (by decide) rfl
              have hK9 := hK.sub (tys' := [(cI, .int)]) [0] rfl
              exact W.zret (v := 0) hx hb hr (by rfl) (fun t ht hW => ⟨⟨0, (st, ce, lf, rt, sp, 0, 1, f), rfl, (by (try subst ex_18); (try subst hw_16); (try subst hw_13); simp [stepR, c5_1, c12_14, c32_17, c62_19, c91_20, c98_21]), ⟨by rw [ht]; exact hP9, va_K.moved hW.alike hK9, hD9⟩⟩, hS.F ht⟩) hS.2.2 dX14_step_102
        · refine lv_iload_n hx hb dX14_step_65 rfl (lv_at hl 0 rfl) ?_
          refine lv_sipush (v := 500) hx hb dX14_step_66 (by decide) ?_
          refine lv_icmp_gt (tgt := 79) hx hb dX14_step_69 (by decide) (fun c69_22 => ?_) (fun c69_22 => ?_)
          · refine lv_iconst (v := 1) hx hb dX14_step_79 (by decide) ?_
            refine lv_goto (tgt := 84) hx hb dX14_step_80 (by decide) ?_
            refine va_put (D := (dC, dI)) (ci := 19) (v := .int 1) (ty := .boolean) (C := RX14) (T := TX14) (N := 9) hx hb hts iWX14 tyX14 tyX14_ok nmX14 hown hK hP hD hS 4 rfl rfl 8 (by decide) (hts (.fieldLink RX14 39 "BeaverhallModel$Run" "isBound" "Z") (by decide +kernel)) (fun _ h9 => h9) rfl (by decide +kernel) rfl rfl (Nat.le_of_ble_eq_true rfl) dX14_step_84 (fun H locs hP hD hS => ?_)
            have hP : va_P (dC, dI) vwCl [(ma, .inr (18, [.int 0, .int (nI S), .int (nI G), .ref wa, .ref va, .ref na, .int my, .null, .int de, .int aa, .int bb, .ref tz])), (wa, .inl (cI, n, .inl w)), (va, .inl (cI, n, .inl mv)), (na, .inl (cI, n, .inl nx)), (ra, .inr (19, [.ref ma, .ref ta, .int st, .int ce, .int lf, .int rt, .int sp, .int 0, .int 1])), (ta, .inl (cI, 1001, .inl f))] H := hP
            have hD : va_D A [(ma, .inr (18, [.int 0, .int (nI S), .int (nI G), .ref wa, .ref va, .ref na, .int my, .null, .int de, .int aa, .int bb, .ref tz])), (wa, .inl (cI, n, .inl w)), (va, .inl (cI, n, .inl mv)), (na, .inl (cI, n, .inl nx)), (ra, .inr (19, [.ref ma, .ref ta, .int st, .int ce, .int lf, .int rt, .int sp, .int 0, .int 1])), (ta, .inl (cI, 1001, .inl f))] := hD
            refine lv_aload_n hx hb dX14_step_87 rfl (lv_at hl 2 rfl) ?_
            refine va_get (D := (dC, dI)) (ci := 19) (v := .int 0) (C := RX14) (T := TX14) (N := 9) hx hb hts iWX14 hown hK hP 4 rfl rfl 7 (by decide) (hts (.fieldLink RX14 35 "BeaverhallModel$Run" "hasHalted" "Z") (by decide +kernel)) (fun _ h9 => h9) rfl dX14_step_88 ?_
            refine lv_if_ne (tgt := 101) hx hb dX14_step_91 (by decide) (fun c91_23 => ?_) (fun c91_23 => ?_)
            · exact (c91_23 (by decide)).elim
            · refine lv_aload_n hx hb dX14_step_94 rfl (lv_at hl 2 rfl) ?_
              refine va_get (D := (dC, dI)) (ci := 19) (v := .int 1) (C := RX14) (T := TX14) (N := 9) hx hb hts iWX14 hown hK hP 4 rfl rfl 8 (by decide) (hts (.fieldLink RX14 39 "BeaverhallModel$Run" "isBound" "Z") (by decide +kernel)) (fun _ h9 => h9) rfl dX14_step_95 ?_
              refine lv_if_eq (tgt := 103) hx hb dX14_step_98 (by decide) (fun c98_24 => ?_) (fun c98_24 => ?_)
              · exact absurd c98_24 (by decide)
              · refine lv_iconst (v := 0) hx hb dX14_step_101 (by decide) ?_
                have hP9 := hP.sub (ws' := [(ma, .inr (18, [.int 0, .int (nI S), .int (nI G), .ref wa, .ref va, .ref na, .int my, .null, .int de, .int aa, .int bb, .ref tz])), (wa, .inl (cI, n, .inl w)), (va, .inl (cI, n, .inl mv)), (na, .inl (cI, n, .inl nx)), (ra, .inr (19, [.ref ma, .ref ta, .int st, .int ce, .int lf, .int rt, .int sp, .int 0, .int 1])), (ta, .inl (cI, 1001, .inl f))]) [0, 1, 2, 3, 4, 5] rfl
                have hD9 := hD.sub (ws' := [(ma, .inr (18, [.int 0, .int (nI S), .int (nI G), .ref wa, .ref va, .ref na, .int my, .null, .int de, .int aa, .int bb, .ref tz])), (wa, .inl (cI, n, .inl w)), (va, .inl (cI, n, .inl mv)), (na, .inl (cI, n, .inl nx)), (ra, .inr (19, [.ref ma, .ref ta, .int st, .int ce, .int lf, .int rt, .int sp, .int 0, .int 1])), (ta, .inl (cI, 1001, .inl f))]) [0, 1, 2, 3, 4, 5] (by decide) rfl
                have hK9 := hK.sub (tys' := [(cI, .int)]) [0] rfl
                exact W.zret (v := 0) hx hb hr (by rfl) (fun t ht hW => ⟨⟨0, (st, ce, lf, rt, sp, 0, 1, f), rfl, (by (try subst ex_18); (try subst hw_16); (try subst hw_13); simp [stepR, c5_1, c12_14, c32_17, c62_19, c69_22, c91_23, c98_24]), ⟨by rw [ht]; exact hP9, va_K.moved hW.alike hK9, hD9⟩⟩, hS.F ht⟩) hS.2.2 dX14_step_102
          · refine lv_iload_n hx hb dX14_step_72 rfl (lv_at hl 0 rfl) ?_
            refine lv_sipush (v := (-500)) hx hb dX14_step_73 (by decide) ?_
            refine lv_icmp_ge (tgt := 83) hx hb dX14_step_76 (by decide) (fun c76_25 => ?_) (fun c76_25 => ?_)
            · refine lv_iconst (v := 0) hx hb dX14_step_83 (by decide) ?_
              refine va_put (D := (dC, dI)) (ci := 19) (v := .int 0) (ty := .boolean) (C := RX14) (T := TX14) (N := 9) hx hb hts iWX14 tyX14 tyX14_ok nmX14 hown hK hP hD hS 4 rfl rfl 8 (by decide) (hts (.fieldLink RX14 39 "BeaverhallModel$Run" "isBound" "Z") (by decide +kernel)) (fun _ h9 => h9) rfl (by decide +kernel) rfl rfl (Nat.le_of_ble_eq_true rfl) dX14_step_84 (fun H locs hP hD hS => ?_)
              have hP : va_P (dC, dI) vwCl [(ma, .inr (18, [.int 0, .int (nI S), .int (nI G), .ref wa, .ref va, .ref na, .int my, .null, .int de, .int aa, .int bb, .ref tz])), (wa, .inl (cI, n, .inl w)), (va, .inl (cI, n, .inl mv)), (na, .inl (cI, n, .inl nx)), (ra, .inr (19, [.ref ma, .ref ta, .int st, .int ce, .int lf, .int rt, .int sp, .int 0, .int 0])), (ta, .inl (cI, 1001, .inl f))] H := hP
              have hD : va_D A [(ma, .inr (18, [.int 0, .int (nI S), .int (nI G), .ref wa, .ref va, .ref na, .int my, .null, .int de, .int aa, .int bb, .ref tz])), (wa, .inl (cI, n, .inl w)), (va, .inl (cI, n, .inl mv)), (na, .inl (cI, n, .inl nx)), (ra, .inr (19, [.ref ma, .ref ta, .int st, .int ce, .int lf, .int rt, .int sp, .int 0, .int 0])), (ta, .inl (cI, 1001, .inl f))] := hD
              refine lv_aload_n hx hb dX14_step_87 rfl (lv_at hl 2 rfl) ?_
              refine va_get (D := (dC, dI)) (ci := 19) (v := .int 0) (C := RX14) (T := TX14) (N := 9) hx hb hts iWX14 hown hK hP 4 rfl rfl 7 (by decide) (hts (.fieldLink RX14 35 "BeaverhallModel$Run" "hasHalted" "Z") (by decide +kernel)) (fun _ h9 => h9) rfl dX14_step_88 ?_
              refine lv_if_ne (tgt := 101) hx hb dX14_step_91 (by decide) (fun c91_26 => ?_) (fun c91_26 => ?_)
              · exact (c91_26 (by decide)).elim
              · refine lv_aload_n hx hb dX14_step_94 rfl (lv_at hl 2 rfl) ?_
                refine va_get (D := (dC, dI)) (ci := 19) (v := .int 0) (C := RX14) (T := TX14) (N := 9) hx hb hts iWX14 hown hK hP 4 rfl rfl 8 (by decide) (hts (.fieldLink RX14 39 "BeaverhallModel$Run" "isBound" "Z") (by decide +kernel)) (fun _ h9 => h9) rfl dX14_step_95 ?_
                refine lv_if_eq (tgt := 103) hx hb dX14_step_98 (by decide) (fun c98_27 => ?_) (fun c98_27 => ?_)
                · refine lv_aload_n hx hb dX14_step_103 rfl (lv_at hl 2 rfl) ?_
                  refine va_get (D := (dC, dI)) (ci := 19) (v := .ref ta) (C := RX14) (T := TX14) (N := 9) hx hb hts iWX14 hown hK hP 4 rfl rfl 1 (by decide) (hts (.fieldLink RX14 9 "BeaverhallModel$Run" "tape" "[I") (by decide +kernel)) (fun _ h9 => h9) rfl dX14_step_104 ?_
                  refine lv_sipush (v := 500) hx hb dX14_step_107 (by decide) ?_
                  refine lv_aload_n hx hb dX14_step_110 rfl (lv_at hl 2 rfl) ?_
                  refine va_get (D := (dC, dI)) (ci := 19) (v := .int ce) (C := RX14) (T := TX14) (N := 9) hx hb hts iWX14 hown hK hP 4 rfl rfl 3 (by decide) (hts (.fieldLink RX14 29 "BeaverhallModel$Run" "cell" "I") (by decide +kernel)) (fun _ h9 => h9) rfl dX14_step_111 ?_
                  refine lv_iadd hx hb dX14_step_114 ?_
                  refine lv_aload_n hx hb dX14_step_115 rfl (lv_at hl 2 rfl) ?_
                  refine va_get (D := (dC, dI)) (ci := 19) (v := .ref ma) (C := RX14) (T := TX14) (N := 9) hx hb hts iWX14 hown hK hP 4 rfl rfl 0 (by decide) (hts (.fieldLink RX14 15 "BeaverhallModel$Run" "machine" "LBeaverhallModel$Machine;") (by decide +kernel)) (fun _ h9 => h9) rfl dX14_step_116 ?_
                  refine va_getN (D := (dC, dI)) (ci := 18) (v := .ref wa) (C := RX13) (T := TX13) (N := 12) hx hb hts iWX13 hown hK hP 0 rfl rfl 3 (by decide) (va_Nw.use rfl (hN (.fieldLinkNest RX14 48 "BeaverhallModel$Machine" "writes" "[I" "BeaverhallModel") (by decide +kernel))) (fun _ h9 => h9) rfl dX14_step_119 ?_
                  refine lv_iload_n hx hb dX14_step_122 rfl (lv_at hl 1 rfl) ?_
                  refine va_iald hx hb hK hP 1 0 rfl rfl (by rw [hw_16]; exact okR_oin hM hR) dX14_step_123 ?_
                  refine va_iast hx hb hK hP hD hS 5 0 rfl rfl (okR_ix hR) dX14_step_124 (fun H locs hP hD hS => ?_)
                  obtain ⟨f_28, ef_28⟩ : ∃ z, z = (upd f ((500 + ce)).toNatClampNeg (w (r_15).toNatClampNeg)) := ⟨_, rfl⟩
                  have hP : va_P (dC, dI) vwCl [(ma, .inr (18, [.int 0, .int (nI S), .int (nI G), .ref wa, .ref va, .ref na, .int my, .null, .int de, .int aa, .int bb, .ref tz])), (wa, .inl (cI, n, .inl w)), (va, .inl (cI, n, .inl mv)), (na, .inl (cI, n, .inl nx)), (ra, .inr (19, [.ref ma, .ref ta, .int st, .int ce, .int lf, .int rt, .int sp, .int 0, .int 0])), (ta, .inl (cI, 1001, .inl f_28))] H := by rw [ef_28]; exact hP
                  have hD : va_D A [(ma, .inr (18, [.int 0, .int (nI S), .int (nI G), .ref wa, .ref va, .ref na, .int my, .null, .int de, .int aa, .int bb, .ref tz])), (wa, .inl (cI, n, .inl w)), (va, .inl (cI, n, .inl mv)), (na, .inl (cI, n, .inl nx)), (ra, .inr (19, [.ref ma, .ref ta, .int st, .int ce, .int lf, .int rt, .int sp, .int 0, .int 0])), (ta, .inl (cI, 1001, .inl f_28))] := by rw [ef_28]; exact hD
                  refine lv_aload_n hx hb dX14_step_125 rfl (lv_at hl 2 rfl) ?_
                  refine lv_aload_n hx hb dX14_step_126 rfl (lv_at hl 2 rfl) ?_
                  refine va_get (D := (dC, dI)) (ci := 19) (v := .ref ma) (C := RX14) (T := TX14) (N := 9) hx hb hts iWX14 hown hK hP 4 rfl rfl 0 (by decide) (hts (.fieldLink RX14 15 "BeaverhallModel$Run" "machine" "LBeaverhallModel$Machine;") (by decide +kernel)) (fun _ h9 => h9) rfl dX14_step_127 ?_
                  refine va_getN (D := (dC, dI)) (ci := 18) (v := .ref na) (C := RX13) (T := TX13) (N := 12) hx hb hts iWX13 hown hK hP 0 rfl rfl 5 (by decide) (va_Nw.use rfl (hN (.fieldLinkNest RX14 62 "BeaverhallModel$Machine" "nexts" "[I" "BeaverhallModel") (by decide +kernel))) (fun _ h9 => h9) rfl dX14_step_130 ?_
                  refine lv_iload_n hx hb dX14_step_133 rfl (lv_at hl 1 rfl) ?_
                  refine va_iald hx hb hK hP 3 0 rfl rfl (by rw [hw_16]; exact okR_oin hM hR) dX14_step_134 ?_
                  refine lv_topi (fun x_29 ex_29 => ?_)
                  refine va_put (D := (dC, dI)) (ci := 19) (v := .int x_29) (ty := .int) (C := RX14) (T := TX14) (N := 9) hx hb hts iWX14 tyX14 tyX14_ok nmX14 hown hK hP hD hS 4 rfl rfl 2 (by decide) (hts (.fieldLink RX14 26 "BeaverhallModel$Run" "state" "I") (by decide +kernel)) (fun _ h9 => h9) rfl (by decide +kernel) rfl rfl (Nat.le_of_ble_eq_true rfl) dX14_step_135 (fun H locs hP hD hS => ?_)
                  have hP : va_P (dC, dI) vwCl [(ma, .inr (18, [.int 0, .int (nI S), .int (nI G), .ref wa, .ref va, .ref na, .int my, .null, .int de, .int aa, .int bb, .ref tz])), (wa, .inl (cI, n, .inl w)), (va, .inl (cI, n, .inl mv)), (na, .inl (cI, n, .inl nx)), (ra, .inr (19, [.ref ma, .ref ta, .int x_29, .int ce, .int lf, .int rt, .int sp, .int 0, .int 0])), (ta, .inl (cI, 1001, .inl f_28))] H := hP
                  have hD : va_D A [(ma, .inr (18, [.int 0, .int (nI S), .int (nI G), .ref wa, .ref va, .ref na, .int my, .null, .int de, .int aa, .int bb, .ref tz])), (wa, .inl (cI, n, .inl w)), (va, .inl (cI, n, .inl mv)), (na, .inl (cI, n, .inl nx)), (ra, .inr (19, [.ref ma, .ref ta, .int x_29, .int ce, .int lf, .int rt, .int sp, .int 0, .int 0])), (ta, .inl (cI, 1001, .inl f_28))] := hD
                  refine lv_aload_n hx hb dX14_step_138 rfl (lv_at hl 2 rfl) ?_
                  refine lv_dup hx hb dX14_step_139 rfl ?_
                  refine va_get (D := (dC, dI)) (ci := 19) (v := .int sp) (C := RX14) (T := TX14) (N := 9) hx hb hts iWX14 hown hK hP 4 rfl rfl 6 (by decide) (hts (.fieldLink RX14 32 "BeaverhallModel$Run" "steps" "I") (by decide +kernel)) (fun _ h9 => h9) rfl dX14_step_140 ?_
                  refine lv_iconst (v := 1) hx hb dX14_step_143 (by decide) ?_
                  refine lv_iadd hx hb dX14_step_144 ?_
                  refine lv_topi (fun x_30 ex_30 => ?_)
                  refine va_put (D := (dC, dI)) (ci := 19) (v := .int x_30) (ty := .int) (C := RX14) (T := TX14) (N := 9) hx hb hts iWX14 tyX14 tyX14_ok nmX14 hown hK hP hD hS 4 rfl rfl 6 (by decide) (hts (.fieldLink RX14 32 "BeaverhallModel$Run" "steps" "I") (by decide +kernel)) (fun _ h9 => h9) rfl (by decide +kernel) rfl rfl (Nat.le_of_ble_eq_true rfl) dX14_step_145 (fun H locs hP hD hS => ?_)
                  have hP : va_P (dC, dI) vwCl [(ma, .inr (18, [.int 0, .int (nI S), .int (nI G), .ref wa, .ref va, .ref na, .int my, .null, .int de, .int aa, .int bb, .ref tz])), (wa, .inl (cI, n, .inl w)), (va, .inl (cI, n, .inl mv)), (na, .inl (cI, n, .inl nx)), (ra, .inr (19, [.ref ma, .ref ta, .int x_29, .int ce, .int lf, .int rt, .int x_30, .int 0, .int 0])), (ta, .inl (cI, 1001, .inl f_28))] H := hP
                  have hD : va_D A [(ma, .inr (18, [.int 0, .int (nI S), .int (nI G), .ref wa, .ref va, .ref na, .int my, .null, .int de, .int aa, .int bb, .ref tz])), (wa, .inl (cI, n, .inl w)), (va, .inl (cI, n, .inl mv)), (na, .inl (cI, n, .inl nx)), (ra, .inr (19, [.ref ma, .ref ta, .int x_29, .int ce, .int lf, .int rt, .int x_30, .int 0, .int 0])), (ta, .inl (cI, 1001, .inl f_28))] := hD
                  refine lv_aload_n hx hb dX14_step_148 rfl (lv_at hl 2 rfl) ?_
                  refine va_get (D := (dC, dI)) (ci := 19) (v := .ref ma) (C := RX14) (T := TX14) (N := 9) hx hb hts iWX14 hown hK hP 4 rfl rfl 0 (by decide) (hts (.fieldLink RX14 15 "BeaverhallModel$Run" "machine" "LBeaverhallModel$Machine;") (by decide +kernel)) (fun _ h9 => h9) rfl dX14_step_149 ?_
                  refine va_getN (D := (dC, dI)) (ci := 18) (v := .int 0) (C := RX13) (T := TX13) (N := 12) hx hb hts iWX13 hown hK hP 0 rfl rfl 0 (by decide) (va_Nw.use rfl (hN (.fieldLinkNest RX14 65 "BeaverhallModel$Machine" "hasEnd" "Z" "BeaverhallModel") (by decide +kernel))) (fun _ h9 => h9) rfl dX14_step_152 ?_
                  refine lv_if_eq (tgt := 170) hx hb dX14_step_155 (by decide) (fun c155_31 => ?_) (fun c155_31 => ?_)
                  · refine lv_aload_n hx hb dX14_step_170 rfl (lv_at hl 2 rfl) ?_
                    refine lv_iload_n hx hb dX14_step_171 rfl (lv_at hl 0 rfl) ?_
                    refine va_put (D := (dC, dI)) (ci := 19) (v := .int x_18) (ty := .int) (C := RX14) (T := TX14) (N := 9) hx hb hts iWX14 tyX14 tyX14_ok nmX14 hown hK hP hD hS 4 rfl rfl 3 (by decide) (hts (.fieldLink RX14 29 "BeaverhallModel$Run" "cell" "I") (by decide +kernel)) (fun _ h9 => h9) rfl (by decide +kernel) rfl rfl (Nat.le_of_ble_eq_true rfl) dX14_step_172 (fun H locs hP hD hS => ?_)
                    have hP : va_P (dC, dI) vwCl [(ma, .inr (18, [.int 0, .int (nI S), .int (nI G), .ref wa, .ref va, .ref na, .int my, .null, .int de, .int aa, .int bb, .ref tz])), (wa, .inl (cI, n, .inl w)), (va, .inl (cI, n, .inl mv)), (na, .inl (cI, n, .inl nx)), (ra, .inr (19, [.ref ma, .ref ta, .int x_29, .int x_18, .int lf, .int rt, .int x_30, .int 0, .int 0])), (ta, .inl (cI, 1001, .inl f_28))] H := hP
                    have hD : va_D A [(ma, .inr (18, [.int 0, .int (nI S), .int (nI G), .ref wa, .ref va, .ref na, .int my, .null, .int de, .int aa, .int bb, .ref tz])), (wa, .inl (cI, n, .inl w)), (va, .inl (cI, n, .inl mv)), (na, .inl (cI, n, .inl nx)), (ra, .inr (19, [.ref ma, .ref ta, .int x_29, .int x_18, .int lf, .int rt, .int x_30, .int 0, .int 0])), (ta, .inl (cI, 1001, .inl f_28))] := hD
                    refine lv_aload_n hx hb dX14_step_175 rfl (lv_at hl 2 rfl) ?_
                    refine lv_aload_n hx hb dX14_step_176 rfl (lv_at hl 2 rfl) ?_
                    refine va_get (D := (dC, dI)) (ci := 19) (v := .int lf) (C := RX14) (T := TX14) (N := 9) hx hb hts iWX14 hown hK hP 4 rfl rfl 4 (by decide) (hts (.fieldLink RX14 19 "BeaverhallModel$Run" "left" "I") (by decide +kernel)) (fun _ h9 => h9) rfl dX14_step_177 ?_
                    refine lv_aload_n hx hb dX14_step_180 rfl (lv_at hl 2 rfl) ?_
                    refine va_get (D := (dC, dI)) (ci := 19) (v := .int x_18) (C := RX14) (T := TX14) (N := 9) hx hb hts iWX14 hown hK hP 4 rfl rfl 3 (by decide) (hts (.fieldLink RX14 29 "BeaverhallModel$Run" "cell" "I") (by decide +kernel)) (fun _ h9 => h9) rfl dX14_step_181 ?_
                    refine va_mmin hx hb (hml.trans hl.1.symm) hown (hts (.methodLink RX14 68 Lib.Math.min.name) (by decide +kernel)) (hts (.static Lib.Math.min.name) (by decide +kernel)) (hts (.initialized "java/lang/Math") (by decide +kernel)) (hts (.code Lib.Math.min.name Lib.Math.min.code 2 (some .int)) (by decide +kernel)) (Nat.le_of_ble_eq_true rfl) (Nat.le_of_ble_eq_true rfl) (Nat.le_of_ble_eq_true rfl) (Nat.le_of_ble_eq_true rfl) dX14_step_184 ?_
                    refine lv_topi (fun x_32 ex_32 => ?_)
                    have ex_32 : x_32 = iminJ lf x_18 := ex_32
                    refine va_put (D := (dC, dI)) (ci := 19) (v := .int x_32) (ty := .int) (C := RX14) (T := TX14) (N := 9) hx hb hts iWX14 tyX14 tyX14_ok nmX14 hown hK hP hD hS 4 rfl rfl 4 (by decide) (hts (.fieldLink RX14 19 "BeaverhallModel$Run" "left" "I") (by decide +kernel)) (fun _ h9 => h9) rfl (by decide +kernel) rfl rfl (Nat.le_of_ble_eq_true rfl) dX14_step_187 (fun H locs hP hD hS => ?_)
                    have hP : va_P (dC, dI) vwCl [(ma, .inr (18, [.int 0, .int (nI S), .int (nI G), .ref wa, .ref va, .ref na, .int my, .null, .int de, .int aa, .int bb, .ref tz])), (wa, .inl (cI, n, .inl w)), (va, .inl (cI, n, .inl mv)), (na, .inl (cI, n, .inl nx)), (ra, .inr (19, [.ref ma, .ref ta, .int x_29, .int x_18, .int x_32, .int rt, .int x_30, .int 0, .int 0])), (ta, .inl (cI, 1001, .inl f_28))] H := hP
                    have hD : va_D A [(ma, .inr (18, [.int 0, .int (nI S), .int (nI G), .ref wa, .ref va, .ref na, .int my, .null, .int de, .int aa, .int bb, .ref tz])), (wa, .inl (cI, n, .inl w)), (va, .inl (cI, n, .inl mv)), (na, .inl (cI, n, .inl nx)), (ra, .inr (19, [.ref ma, .ref ta, .int x_29, .int x_18, .int x_32, .int rt, .int x_30, .int 0, .int 0])), (ta, .inl (cI, 1001, .inl f_28))] := hD
                    refine lv_aload_n hx hb dX14_step_190 rfl (lv_at hl 2 rfl) ?_
                    refine lv_aload_n hx hb dX14_step_191 rfl (lv_at hl 2 rfl) ?_
                    refine va_get (D := (dC, dI)) (ci := 19) (v := .int rt) (C := RX14) (T := TX14) (N := 9) hx hb hts iWX14 hown hK hP 4 rfl rfl 5 (by decide) (hts (.fieldLink RX14 23 "BeaverhallModel$Run" "right" "I") (by decide +kernel)) (fun _ h9 => h9) rfl dX14_step_192 ?_
                    refine lv_aload_n hx hb dX14_step_195 rfl (lv_at hl 2 rfl) ?_
                    refine va_get (D := (dC, dI)) (ci := 19) (v := .int x_18) (C := RX14) (T := TX14) (N := 9) hx hb hts iWX14 hown hK hP 4 rfl rfl 3 (by decide) (hts (.fieldLink RX14 29 "BeaverhallModel$Run" "cell" "I") (by decide +kernel)) (fun _ h9 => h9) rfl dX14_step_196 ?_
                    refine va_mmax hx hb (hml.trans hl.1.symm) hown (hts (.methodLink RX14 73 Lib.Math.max.name) (by decide +kernel)) (hts (.static Lib.Math.max.name) (by decide +kernel)) (hts (.initialized "java/lang/Math") (by decide +kernel)) (hts (.code Lib.Math.max.name Lib.Math.max.code 2 (some .int)) (by decide +kernel)) (Nat.le_of_ble_eq_true rfl) (Nat.le_of_ble_eq_true rfl) (Nat.le_of_ble_eq_true rfl) (Nat.le_of_ble_eq_true rfl) dX14_step_199 ?_
                    refine lv_topi (fun x_33 ex_33 => ?_)
                    have ex_33 : x_33 = imaxJ rt x_18 := ex_33
                    refine va_put (D := (dC, dI)) (ci := 19) (v := .int x_33) (ty := .int) (C := RX14) (T := TX14) (N := 9) hx hb hts iWX14 tyX14 tyX14_ok nmX14 hown hK hP hD hS 4 rfl rfl 5 (by decide) (hts (.fieldLink RX14 23 "BeaverhallModel$Run" "right" "I") (by decide +kernel)) (fun _ h9 => h9) rfl (by decide +kernel) rfl rfl (Nat.le_of_ble_eq_true rfl) dX14_step_202 (fun H locs hP hD hS => ?_)
                    have hP : va_P (dC, dI) vwCl [(ma, .inr (18, [.int 0, .int (nI S), .int (nI G), .ref wa, .ref va, .ref na, .int my, .null, .int de, .int aa, .int bb, .ref tz])), (wa, .inl (cI, n, .inl w)), (va, .inl (cI, n, .inl mv)), (na, .inl (cI, n, .inl nx)), (ra, .inr (19, [.ref ma, .ref ta, .int x_29, .int x_18, .int x_32, .int x_33, .int x_30, .int 0, .int 0])), (ta, .inl (cI, 1001, .inl f_28))] H := hP
                    have hD : va_D A [(ma, .inr (18, [.int 0, .int (nI S), .int (nI G), .ref wa, .ref va, .ref na, .int my, .null, .int de, .int aa, .int bb, .ref tz])), (wa, .inl (cI, n, .inl w)), (va, .inl (cI, n, .inl mv)), (na, .inl (cI, n, .inl nx)), (ra, .inr (19, [.ref ma, .ref ta, .int x_29, .int x_18, .int x_32, .int x_33, .int x_30, .int 0, .int 0])), (ta, .inl (cI, 1001, .inl f_28))] := hD
                    refine lv_iconst (v := 1) hx hb dX14_step_205 (by decide) ?_
                    have hP9 := hP.sub (ws' := [(ma, .inr (18, [.int 0, .int (nI S), .int (nI G), .ref wa, .ref va, .ref na, .int my, .null, .int de, .int aa, .int bb, .ref tz])), (wa, .inl (cI, n, .inl w)), (va, .inl (cI, n, .inl mv)), (na, .inl (cI, n, .inl nx)), (ra, .inr (19, [.ref ma, .ref ta, .int x_29, .int x_18, .int x_32, .int x_33, .int x_30, .int 0, .int 0])), (ta, .inl (cI, 1001, .inl f_28))]) [0, 1, 2, 3, 4, 5] rfl
                    have hD9 := hD.sub (ws' := [(ma, .inr (18, [.int 0, .int (nI S), .int (nI G), .ref wa, .ref va, .ref na, .int my, .null, .int de, .int aa, .int bb, .ref tz])), (wa, .inl (cI, n, .inl w)), (va, .inl (cI, n, .inl mv)), (na, .inl (cI, n, .inl nx)), (ra, .inr (19, [.ref ma, .ref ta, .int x_29, .int x_18, .int x_32, .int x_33, .int x_30, .int 0, .int 0])), (ta, .inl (cI, 1001, .inl f_28))]) [0, 1, 2, 3, 4, 5] (by decide) rfl
                    have hK9 := hK.sub (tys' := [(cI, .int)]) [0] rfl
                    exact W.zret (v := 1) hx hb hr (by rfl) (fun t ht hW => ⟨⟨1, (x_29, x_18, x_32, x_33, x_30, 0, 0, f_28), rfl, (by (try subst ex_33); (try subst ex_32); (try subst ex_30); (try subst ex_29); (try subst ef_28); (try subst ex_18); (try subst hw_16); (try subst hw_13); simp [stepR, c5_1, c12_14, c32_17, c62_19, c69_22, c76_25, c91_26, c98_27, c155_31]), ⟨by rw [ht]; exact hP9, va_K.moved hW.alike hK9, hD9⟩⟩, hS.F ht⟩) hS.2.2 dX14_step_206
                  · exact (c155_31 (by decide)).elim
                · exact (c98_27 (by decide)).elim
            · refine lv_iconst (v := 1) hx hb dX14_step_79 (by decide) ?_
              refine lv_goto (tgt := 84) hx hb dX14_step_80 (by decide) ?_
              refine va_put (D := (dC, dI)) (ci := 19) (v := .int 1) (ty := .boolean) (C := RX14) (T := TX14) (N := 9) hx hb hts iWX14 tyX14 tyX14_ok nmX14 hown hK hP hD hS 4 rfl rfl 8 (by decide) (hts (.fieldLink RX14 39 "BeaverhallModel$Run" "isBound" "Z") (by decide +kernel)) (fun _ h9 => h9) rfl (by decide +kernel) rfl rfl (Nat.le_of_ble_eq_true rfl) dX14_step_84 (fun H locs hP hD hS => ?_)
              have hP : va_P (dC, dI) vwCl [(ma, .inr (18, [.int 0, .int (nI S), .int (nI G), .ref wa, .ref va, .ref na, .int my, .null, .int de, .int aa, .int bb, .ref tz])), (wa, .inl (cI, n, .inl w)), (va, .inl (cI, n, .inl mv)), (na, .inl (cI, n, .inl nx)), (ra, .inr (19, [.ref ma, .ref ta, .int st, .int ce, .int lf, .int rt, .int sp, .int 0, .int 1])), (ta, .inl (cI, 1001, .inl f))] H := hP
              have hD : va_D A [(ma, .inr (18, [.int 0, .int (nI S), .int (nI G), .ref wa, .ref va, .ref na, .int my, .null, .int de, .int aa, .int bb, .ref tz])), (wa, .inl (cI, n, .inl w)), (va, .inl (cI, n, .inl mv)), (na, .inl (cI, n, .inl nx)), (ra, .inr (19, [.ref ma, .ref ta, .int st, .int ce, .int lf, .int rt, .int sp, .int 0, .int 1])), (ta, .inl (cI, 1001, .inl f))] := hD
              refine lv_aload_n hx hb dX14_step_87 rfl (lv_at hl 2 rfl) ?_
              refine va_get (D := (dC, dI)) (ci := 19) (v := .int 0) (C := RX14) (T := TX14) (N := 9) hx hb hts iWX14 hown hK hP 4 rfl rfl 7 (by decide) (hts (.fieldLink RX14 35 "BeaverhallModel$Run" "hasHalted" "Z") (by decide +kernel)) (fun _ h9 => h9) rfl dX14_step_88 ?_
              refine lv_if_ne (tgt := 101) hx hb dX14_step_91 (by decide) (fun c91_34 => ?_) (fun c91_34 => ?_)
              · exact (c91_34 (by decide)).elim
              · refine lv_aload_n hx hb dX14_step_94 rfl (lv_at hl 2 rfl) ?_
                refine va_get (D := (dC, dI)) (ci := 19) (v := .int 1) (C := RX14) (T := TX14) (N := 9) hx hb hts iWX14 hown hK hP 4 rfl rfl 8 (by decide) (hts (.fieldLink RX14 39 "BeaverhallModel$Run" "isBound" "Z") (by decide +kernel)) (fun _ h9 => h9) rfl dX14_step_95 ?_
                refine lv_if_eq (tgt := 103) hx hb dX14_step_98 (by decide) (fun c98_35 => ?_) (fun c98_35 => ?_)
                · exact absurd c98_35 (by decide)
                · refine lv_iconst (v := 0) hx hb dX14_step_101 (by decide) ?_
                  have hP9 := hP.sub (ws' := [(ma, .inr (18, [.int 0, .int (nI S), .int (nI G), .ref wa, .ref va, .ref na, .int my, .null, .int de, .int aa, .int bb, .ref tz])), (wa, .inl (cI, n, .inl w)), (va, .inl (cI, n, .inl mv)), (na, .inl (cI, n, .inl nx)), (ra, .inr (19, [.ref ma, .ref ta, .int st, .int ce, .int lf, .int rt, .int sp, .int 0, .int 1])), (ta, .inl (cI, 1001, .inl f))]) [0, 1, 2, 3, 4, 5] rfl
                  have hD9 := hD.sub (ws' := [(ma, .inr (18, [.int 0, .int (nI S), .int (nI G), .ref wa, .ref va, .ref na, .int my, .null, .int de, .int aa, .int bb, .ref tz])), (wa, .inl (cI, n, .inl w)), (va, .inl (cI, n, .inl mv)), (na, .inl (cI, n, .inl nx)), (ra, .inr (19, [.ref ma, .ref ta, .int st, .int ce, .int lf, .int rt, .int sp, .int 0, .int 1])), (ta, .inl (cI, 1001, .inl f))]) [0, 1, 2, 3, 4, 5] (by decide) rfl
                  have hK9 := hK.sub (tys' := [(cI, .int)]) [0] rfl
                  exact W.zret (v := 0) hx hb hr (by rfl) (fun t ht hW => ⟨⟨0, (st, ce, lf, rt, sp, 0, 1, f), rfl, (by (try subst ex_18); (try subst hw_16); (try subst hw_13); simp [stepR, c5_1, c12_14, c32_17, c62_19, c69_22, c76_25, c91_34, c98_35]), ⟨by rw [ht]; exact hP9, va_K.moved hW.alike hK9, hD9⟩⟩, hS.F ht⟩) hS.2.2 dX14_step_102
      · exact (c32_17 (by decide)).elim
    · refine lv_iconst (v := 1) hx hb dX14_step_15 (by decide) ?_
      refine lv_goto (tgt := 20) hx hb dX14_step_16 (by decide) ?_
      refine va_put (D := (dC, dI)) (ci := 19) (v := .int 1) (ty := .boolean) (C := RX14) (T := TX14) (N := 9) hx hb hts iWX14 tyX14 tyX14_ok nmX14 hown hK hP hD hS 4 rfl rfl 7 (by decide) (hts (.fieldLink RX14 35 "BeaverhallModel$Run" "hasHalted" "Z") (by decide +kernel)) (fun _ h9 => h9) rfl (by decide +kernel) rfl rfl (Nat.le_of_ble_eq_true rfl) dX14_step_20 (fun H locs hP hD hS => ?_)
      have hP : va_P (dC, dI) vwCl [(ma, .inr (18, [.int 0, .int (nI S), .int (nI G), .ref wa, .ref va, .ref na, .int my, .null, .int de, .int aa, .int bb, .ref tz])), (wa, .inl (cI, n, .inl w)), (va, .inl (cI, n, .inl mv)), (na, .inl (cI, n, .inl nx)), (ra, .inr (19, [.ref ma, .ref ta, .int st, .int ce, .int lf, .int rt, .int sp, .int 1, .int ib])), (ta, .inl (cI, 1001, .inl f))] H := hP
      have hD : va_D A [(ma, .inr (18, [.int 0, .int (nI S), .int (nI G), .ref wa, .ref va, .ref na, .int my, .null, .int de, .int aa, .int bb, .ref tz])), (wa, .inl (cI, n, .inl w)), (va, .inl (cI, n, .inl mv)), (na, .inl (cI, n, .inl nx)), (ra, .inr (19, [.ref ma, .ref ta, .int st, .int ce, .int lf, .int rt, .int sp, .int 1, .int ib])), (ta, .inl (cI, 1001, .inl f))] := hD
      refine lv_aload_n hx hb dX14_step_23 rfl (lv_at hl 0 rfl) ?_
      have hPc := hP.sub (ws' := [(ma, .inr (18, [.int 0, .int (nI S), .int (nI G), .ref wa, .ref va, .ref na, .int my, .null, .int de, .int aa, .int bb, .ref tz])), (wa, .inl (cI, n, .inl w)), (va, .inl (cI, n, .inl mv)), (na, .inl (cI, n, .inl nx)), (ra, .inr (19, [.ref ma, .ref ta, .int st, .int ce, .int lf, .int rt, .int sp, .int 1, .int ib])), (ta, .inl (cI, 1001, .inl f))]) [0, 1, 2, 3, 4, 5] rfl
      have hDc := hD.sub (ws' := [(ma, .inr (18, [.int 0, .int (nI S), .int (nI G), .ref wa, .ref va, .ref na, .int my, .null, .int de, .int aa, .int bb, .ref tz])), (wa, .inl (cI, n, .inl w)), (va, .inl (cI, n, .inl mv)), (na, .inl (cI, n, .inl nx)), (ra, .inr (19, [.ref ma, .ref ta, .int st, .int ce, .int lf, .int rt, .int sp, .int 1, .int ib])), (ta, .inl (cI, 1001, .inl f))]) [0, 1, 2, 3, 4, 5] (by decide) rfl
      have hKc := hK.sub (tys' := [(cI, .int)]) [0] rfl
      have hFc := va_free (wc := [(ma, .inr (18, [.int 0, .int (nI S), .int (nI G), .ref wa, .ref va, .ref na, .int my, .null, .int de, .int aa, .int bb, .ref tz])), (wa, .inl (cI, n, .inl w)), (va, .inl (cI, n, .inl mv)), (na, .inl (cI, n, .inl nx)), (ra, .inr (19, [.ref ma, .ref ta, .int st, .int ce, .int lf, .int rt, .int sp, .int 1, .int ib])), (ta, .inl (cI, 1001, .inl f))]) hD hS hA [0, 1, 2, 3, 4, 5] rfl
      refine va_calli (va_runV (As := []) (rest := []) ⟨hx, hb, hml, hown, hts⟩ (c_X14_order l dC dI cI ma wa va na tz n S G my de aa bb w mv nx hM ra ta st ce lf rt sp 1 ib f (okR_fl hR (by decide) (okR_ib hR))  H.size) (cwV 0 hts gX14_step_X14_order rfl rfl rfl (by decide +kernel) ⟨Nat.le_of_ble_eq_true rfl, Nat.le_of_ble_eq_true rfl⟩) (pcV hPc hDc hKc hN (ci := 19) (q0 := 4) rfl rfl) rfl rfl hl.1 rfl (lv_room (Nat.le_of_ble_eq_true rfl)) dX14_step_24 ⟨Nat.le_of_ble_eq_true rfl, Nat.le_of_ble_eq_true rfl⟩) hS (fun q _ h => hFc q h) hFc (fun r_36 u t H1 locs ht hvm hw_37 hB hz1 hk1 hS => ?_)
      obtain ⟨hP1, hK1, hD1⟩ := hB
      rw [ht] at hP1
      try dsimp only at hw_37
      obtain ⟨hP, hD⟩ := va_join (wr := []) (w1 := [(ma, .inr (18, [.int 0, .int (nI S), .int (nI G), .ref wa, .ref va, .ref na, .int my, .null, .int de, .int aa, .int bb, .ref tz])), (wa, .inl (cI, n, .inl w)), (va, .inl (cI, n, .inl mv)), (na, .inl (cI, n, .inl nx)), (ra, .inr (19, [.ref ma, .ref ta, .int st, .int ce, .int lf, .int rt, .int sp, .int 1, .int ib])), (ta, .inl (cI, 1001, .inl f))]) hP hD [0, 1, 2, 3, 4, 5] [] rfl rfl (by decide) (by decide) hk1 hFc hP1 hD1
      generalize H1 = H at hP hS ⊢
      have hP : va_P (dC, dI) vwCl [(ma, .inr (18, [.int 0, .int (nI S), .int (nI G), .ref wa, .ref va, .ref na, .int my, .null, .int de, .int aa, .int bb, .ref tz])), (wa, .inl (cI, n, .inl w)), (va, .inl (cI, n, .inl mv)), (na, .inl (cI, n, .inl nx)), (ra, .inr (19, [.ref ma, .ref ta, .int st, .int ce, .int lf, .int rt, .int sp, .int 1, .int ib])), (ta, .inl (cI, 1001, .inl f))] H := hP
      have hD : va_D A [(ma, .inr (18, [.int 0, .int (nI S), .int (nI G), .ref wa, .ref va, .ref na, .int my, .null, .int de, .int aa, .int bb, .ref tz])), (wa, .inl (cI, n, .inl w)), (va, .inl (cI, n, .inl mv)), (na, .inl (cI, n, .inl nx)), (ra, .inr (19, [.ref ma, .ref ta, .int st, .int ce, .int lf, .int rt, .int sp, .int 1, .int ib])), (ta, .inl (cI, 1001, .inl f))] := hD
      refine lv_istore_n (lv' := [(1, .int r_36), (0, .ref ra)]) hx hb dX14_step_27 rfl hl (by decide) rfl (fun ls hl => ?_)
      refine lv_aload_n hx hb dX14_step_28 rfl (lv_at hl 1 rfl) ?_
      refine va_get (D := (dC, dI)) (ci := 19) (v := .int 1) (C := RX14) (T := TX14) (N := 9) hx hb hts iWX14 hown hK hP 4 rfl rfl 7 (by decide) (hts (.fieldLink RX14 35 "BeaverhallModel$Run" "hasHalted" "Z") (by decide +kernel)) (fun _ h9 => h9) rfl dX14_step_29 ?_
      refine lv_if_eq (tgt := 42) hx hb dX14_step_32 (by decide) (fun c32_38 => ?_) (fun c32_38 => ?_)
      · exact absurd c32_38 (by decide)
      · refine lv_aload_n hx hb dX14_step_35 rfl (lv_at hl 1 rfl) ?_
        refine va_get (D := (dC, dI)) (ci := 19) (v := .int ce) (C := RX14) (T := TX14) (N := 9) hx hb hts iWX14 hown hK hP 4 rfl rfl 3 (by decide) (hts (.fieldLink RX14 29 "BeaverhallModel$Run" "cell" "I") (by decide +kernel)) (fun _ h9 => h9) rfl dX14_step_36 ?_
        refine lv_goto (tgt := 56) hx hb dX14_step_39 (by decide) ?_
        refine lv_istore_n (lv' := [(2, .int ce), (1, .int r_36), (0, .ref ra)]) hx hb dX14_step_56 rfl hl (by decide) rfl (fun ls hl => ?_)
        refine lv_aload_n hx hb dX14_step_57 rfl (lv_at hl 2 rfl) ?_
        refine lv_aload_n hx hb dX14_step_58 rfl (lv_at hl 2 rfl) ?_
        refine va_get (D := (dC, dI)) (ci := 19) (v := .int ib) (C := RX14) (T := TX14) (N := 9) hx hb hts iWX14 hown hK hP 4 rfl rfl 8 (by decide) (hts (.fieldLink RX14 39 "BeaverhallModel$Run" "isBound" "Z") (by decide +kernel)) (fun _ h9 => h9) rfl dX14_step_59 ?_
        refine lv_if_ne (tgt := 79) hx hb dX14_step_62 (by decide) (fun c62_39 => ?_) (fun c62_39 => ?_)
        · refine lv_iconst (v := 1) hx hb dX14_step_79 (by decide) ?_
          refine lv_goto (tgt := 84) hx hb dX14_step_80 (by decide) ?_
          refine va_put (D := (dC, dI)) (ci := 19) (v := .int 1) (ty := .boolean) (C := RX14) (T := TX14) (N := 9) hx hb hts iWX14 tyX14 tyX14_ok nmX14 hown hK hP hD hS 4 rfl rfl 8 (by decide) (hts (.fieldLink RX14 39 "BeaverhallModel$Run" "isBound" "Z") (by decide +kernel)) (fun _ h9 => h9) rfl (by decide +kernel) rfl rfl (Nat.le_of_ble_eq_true rfl) dX14_step_84 (fun H locs hP hD hS => ?_)
          have hP : va_P (dC, dI) vwCl [(ma, .inr (18, [.int 0, .int (nI S), .int (nI G), .ref wa, .ref va, .ref na, .int my, .null, .int de, .int aa, .int bb, .ref tz])), (wa, .inl (cI, n, .inl w)), (va, .inl (cI, n, .inl mv)), (na, .inl (cI, n, .inl nx)), (ra, .inr (19, [.ref ma, .ref ta, .int st, .int ce, .int lf, .int rt, .int sp, .int 1, .int 1])), (ta, .inl (cI, 1001, .inl f))] H := hP
          have hD : va_D A [(ma, .inr (18, [.int 0, .int (nI S), .int (nI G), .ref wa, .ref va, .ref na, .int my, .null, .int de, .int aa, .int bb, .ref tz])), (wa, .inl (cI, n, .inl w)), (va, .inl (cI, n, .inl mv)), (na, .inl (cI, n, .inl nx)), (ra, .inr (19, [.ref ma, .ref ta, .int st, .int ce, .int lf, .int rt, .int sp, .int 1, .int 1])), (ta, .inl (cI, 1001, .inl f))] := hD
          refine lv_aload_n hx hb dX14_step_87 rfl (lv_at hl 2 rfl) ?_
          refine va_get (D := (dC, dI)) (ci := 19) (v := .int 1) (C := RX14) (T := TX14) (N := 9) hx hb hts iWX14 hown hK hP 4 rfl rfl 7 (by decide) (hts (.fieldLink RX14 35 "BeaverhallModel$Run" "hasHalted" "Z") (by decide +kernel)) (fun _ h9 => h9) rfl dX14_step_88 ?_
          refine lv_if_ne (tgt := 101) hx hb dX14_step_91 (by decide) (fun c91_40 => ?_) (fun c91_40 => ?_)
          · refine lv_iconst (v := 0) hx hb dX14_step_101 (by decide) ?_
            have hP9 := hP.sub (ws' := [(ma, .inr (18, [.int 0, .int (nI S), .int (nI G), .ref wa, .ref va, .ref na, .int my, .null, .int de, .int aa, .int bb, .ref tz])), (wa, .inl (cI, n, .inl w)), (va, .inl (cI, n, .inl mv)), (na, .inl (cI, n, .inl nx)), (ra, .inr (19, [.ref ma, .ref ta, .int st, .int ce, .int lf, .int rt, .int sp, .int 1, .int 1])), (ta, .inl (cI, 1001, .inl f))]) [0, 1, 2, 3, 4, 5] rfl
            have hD9 := hD.sub (ws' := [(ma, .inr (18, [.int 0, .int (nI S), .int (nI G), .ref wa, .ref va, .ref na, .int my, .null, .int de, .int aa, .int bb, .ref tz])), (wa, .inl (cI, n, .inl w)), (va, .inl (cI, n, .inl mv)), (na, .inl (cI, n, .inl nx)), (ra, .inr (19, [.ref ma, .ref ta, .int st, .int ce, .int lf, .int rt, .int sp, .int 1, .int 1])), (ta, .inl (cI, 1001, .inl f))]) [0, 1, 2, 3, 4, 5] (by decide) rfl
            have hK9 := hK.sub (tys' := [(cI, .int)]) [0] rfl
            exact W.zret (v := 0) hx hb hr (by rfl) (fun t ht hW => ⟨⟨0, (st, ce, lf, rt, sp, 1, 1, f), rfl, (by (try subst hw_37); (try subst hw_13); simp [stepR, c5_1, c12_14, c32_38, c62_39, c91_40]), ⟨by rw [ht]; exact hP9, va_K.moved hW.alike hK9, hD9⟩⟩, hS.F ht⟩) hS.2.2 dX14_step_102
          · exact absurd c91_40 (by decide)
        · refine lv_iload_n hx hb dX14_step_65 rfl (lv_at hl 0 rfl) ?_
          refine lv_sipush (v := 500) hx hb dX14_step_66 (by decide) ?_
          refine lv_icmp_gt (tgt := 79) hx hb dX14_step_69 (by decide) (fun c69_41 => ?_) (fun c69_41 => ?_)
          · refine lv_iconst (v := 1) hx hb dX14_step_79 (by decide) ?_
            refine lv_goto (tgt := 84) hx hb dX14_step_80 (by decide) ?_
            refine va_put (D := (dC, dI)) (ci := 19) (v := .int 1) (ty := .boolean) (C := RX14) (T := TX14) (N := 9) hx hb hts iWX14 tyX14 tyX14_ok nmX14 hown hK hP hD hS 4 rfl rfl 8 (by decide) (hts (.fieldLink RX14 39 "BeaverhallModel$Run" "isBound" "Z") (by decide +kernel)) (fun _ h9 => h9) rfl (by decide +kernel) rfl rfl (Nat.le_of_ble_eq_true rfl) dX14_step_84 (fun H locs hP hD hS => ?_)
            have hP : va_P (dC, dI) vwCl [(ma, .inr (18, [.int 0, .int (nI S), .int (nI G), .ref wa, .ref va, .ref na, .int my, .null, .int de, .int aa, .int bb, .ref tz])), (wa, .inl (cI, n, .inl w)), (va, .inl (cI, n, .inl mv)), (na, .inl (cI, n, .inl nx)), (ra, .inr (19, [.ref ma, .ref ta, .int st, .int ce, .int lf, .int rt, .int sp, .int 1, .int 1])), (ta, .inl (cI, 1001, .inl f))] H := hP
            have hD : va_D A [(ma, .inr (18, [.int 0, .int (nI S), .int (nI G), .ref wa, .ref va, .ref na, .int my, .null, .int de, .int aa, .int bb, .ref tz])), (wa, .inl (cI, n, .inl w)), (va, .inl (cI, n, .inl mv)), (na, .inl (cI, n, .inl nx)), (ra, .inr (19, [.ref ma, .ref ta, .int st, .int ce, .int lf, .int rt, .int sp, .int 1, .int 1])), (ta, .inl (cI, 1001, .inl f))] := hD
            refine lv_aload_n hx hb dX14_step_87 rfl (lv_at hl 2 rfl) ?_
            refine va_get (D := (dC, dI)) (ci := 19) (v := .int 1) (C := RX14) (T := TX14) (N := 9) hx hb hts iWX14 hown hK hP 4 rfl rfl 7 (by decide) (hts (.fieldLink RX14 35 "BeaverhallModel$Run" "hasHalted" "Z") (by decide +kernel)) (fun _ h9 => h9) rfl dX14_step_88 ?_
            refine lv_if_ne (tgt := 101) hx hb dX14_step_91 (by decide) (fun c91_42 => ?_) (fun c91_42 => ?_)
            · refine lv_iconst (v := 0) hx hb dX14_step_101 (by decide) ?_
              have hP9 := hP.sub (ws' := [(ma, .inr (18, [.int 0, .int (nI S), .int (nI G), .ref wa, .ref va, .ref na, .int my, .null, .int de, .int aa, .int bb, .ref tz])), (wa, .inl (cI, n, .inl w)), (va, .inl (cI, n, .inl mv)), (na, .inl (cI, n, .inl nx)), (ra, .inr (19, [.ref ma, .ref ta, .int st, .int ce, .int lf, .int rt, .int sp, .int 1, .int 1])), (ta, .inl (cI, 1001, .inl f))]) [0, 1, 2, 3, 4, 5] rfl
              have hD9 := hD.sub (ws' := [(ma, .inr (18, [.int 0, .int (nI S), .int (nI G), .ref wa, .ref va, .ref na, .int my, .null, .int de, .int aa, .int bb, .ref tz])), (wa, .inl (cI, n, .inl w)), (va, .inl (cI, n, .inl mv)), (na, .inl (cI, n, .inl nx)), (ra, .inr (19, [.ref ma, .ref ta, .int st, .int ce, .int lf, .int rt, .int sp, .int 1, .int 1])), (ta, .inl (cI, 1001, .inl f))]) [0, 1, 2, 3, 4, 5] (by decide) rfl
              have hK9 := hK.sub (tys' := [(cI, .int)]) [0] rfl
              exact W.zret (v := 0) hx hb hr (by rfl) (fun t ht hW => ⟨⟨0, (st, ce, lf, rt, sp, 1, 1, f), rfl, (by (try subst hw_37); (try subst hw_13); simp [stepR, c5_1, c12_14, c32_38, c62_39, c69_41, c91_42]), ⟨by rw [ht]; exact hP9, va_K.moved hW.alike hK9, hD9⟩⟩, hS.F ht⟩) hS.2.2 dX14_step_102
            · exact absurd c91_42 (by decide)
          · refine lv_iload_n hx hb dX14_step_72 rfl (lv_at hl 0 rfl) ?_
            refine lv_sipush (v := (-500)) hx hb dX14_step_73 (by decide) ?_
            refine lv_icmp_ge (tgt := 83) hx hb dX14_step_76 (by decide) (fun c76_43 => ?_) (fun c76_43 => ?_)
            · refine lv_iconst (v := 0) hx hb dX14_step_83 (by decide) ?_
              refine va_put (D := (dC, dI)) (ci := 19) (v := .int 0) (ty := .boolean) (C := RX14) (T := TX14) (N := 9) hx hb hts iWX14 tyX14 tyX14_ok nmX14 hown hK hP hD hS 4 rfl rfl 8 (by decide) (hts (.fieldLink RX14 39 "BeaverhallModel$Run" "isBound" "Z") (by decide +kernel)) (fun _ h9 => h9) rfl (by decide +kernel) rfl rfl (Nat.le_of_ble_eq_true rfl) dX14_step_84 (fun H locs hP hD hS => ?_)
              have hP : va_P (dC, dI) vwCl [(ma, .inr (18, [.int 0, .int (nI S), .int (nI G), .ref wa, .ref va, .ref na, .int my, .null, .int de, .int aa, .int bb, .ref tz])), (wa, .inl (cI, n, .inl w)), (va, .inl (cI, n, .inl mv)), (na, .inl (cI, n, .inl nx)), (ra, .inr (19, [.ref ma, .ref ta, .int st, .int ce, .int lf, .int rt, .int sp, .int 1, .int 0])), (ta, .inl (cI, 1001, .inl f))] H := hP
              have hD : va_D A [(ma, .inr (18, [.int 0, .int (nI S), .int (nI G), .ref wa, .ref va, .ref na, .int my, .null, .int de, .int aa, .int bb, .ref tz])), (wa, .inl (cI, n, .inl w)), (va, .inl (cI, n, .inl mv)), (na, .inl (cI, n, .inl nx)), (ra, .inr (19, [.ref ma, .ref ta, .int st, .int ce, .int lf, .int rt, .int sp, .int 1, .int 0])), (ta, .inl (cI, 1001, .inl f))] := hD
              refine lv_aload_n hx hb dX14_step_87 rfl (lv_at hl 2 rfl) ?_
              refine va_get (D := (dC, dI)) (ci := 19) (v := .int 1) (C := RX14) (T := TX14) (N := 9) hx hb hts iWX14 hown hK hP 4 rfl rfl 7 (by decide) (hts (.fieldLink RX14 35 "BeaverhallModel$Run" "hasHalted" "Z") (by decide +kernel)) (fun _ h9 => h9) rfl dX14_step_88 ?_
              refine lv_if_ne (tgt := 101) hx hb dX14_step_91 (by decide) (fun c91_44 => ?_) (fun c91_44 => ?_)
              · refine lv_iconst (v := 0) hx hb dX14_step_101 (by decide) ?_
                have hP9 := hP.sub (ws' := [(ma, .inr (18, [.int 0, .int (nI S), .int (nI G), .ref wa, .ref va, .ref na, .int my, .null, .int de, .int aa, .int bb, .ref tz])), (wa, .inl (cI, n, .inl w)), (va, .inl (cI, n, .inl mv)), (na, .inl (cI, n, .inl nx)), (ra, .inr (19, [.ref ma, .ref ta, .int st, .int ce, .int lf, .int rt, .int sp, .int 1, .int 0])), (ta, .inl (cI, 1001, .inl f))]) [0, 1, 2, 3, 4, 5] rfl
                have hD9 := hD.sub (ws' := [(ma, .inr (18, [.int 0, .int (nI S), .int (nI G), .ref wa, .ref va, .ref na, .int my, .null, .int de, .int aa, .int bb, .ref tz])), (wa, .inl (cI, n, .inl w)), (va, .inl (cI, n, .inl mv)), (na, .inl (cI, n, .inl nx)), (ra, .inr (19, [.ref ma, .ref ta, .int st, .int ce, .int lf, .int rt, .int sp, .int 1, .int 0])), (ta, .inl (cI, 1001, .inl f))]) [0, 1, 2, 3, 4, 5] (by decide) rfl
                have hK9 := hK.sub (tys' := [(cI, .int)]) [0] rfl
                exact W.zret (v := 0) hx hb hr (by rfl) (fun t ht hW => ⟨⟨0, (st, ce, lf, rt, sp, 1, 0, f), rfl, (by (try subst hw_37); (try subst hw_13); simp [stepR, c5_1, c12_14, c32_38, c62_39, c69_41, c76_43, c91_44]), ⟨by rw [ht]; exact hP9, va_K.moved hW.alike hK9, hD9⟩⟩, hS.F ht⟩) hS.2.2 dX14_step_102
              · exact absurd c91_44 (by decide)
            · refine lv_iconst (v := 1) hx hb dX14_step_79 (by decide) ?_
              refine lv_goto (tgt := 84) hx hb dX14_step_80 (by decide) ?_
              refine va_put (D := (dC, dI)) (ci := 19) (v := .int 1) (ty := .boolean) (C := RX14) (T := TX14) (N := 9) hx hb hts iWX14 tyX14 tyX14_ok nmX14 hown hK hP hD hS 4 rfl rfl 8 (by decide) (hts (.fieldLink RX14 39 "BeaverhallModel$Run" "isBound" "Z") (by decide +kernel)) (fun _ h9 => h9) rfl (by decide +kernel) rfl rfl (Nat.le_of_ble_eq_true rfl) dX14_step_84 (fun H locs hP hD hS => ?_)
              have hP : va_P (dC, dI) vwCl [(ma, .inr (18, [.int 0, .int (nI S), .int (nI G), .ref wa, .ref va, .ref na, .int my, .null, .int de, .int aa, .int bb, .ref tz])), (wa, .inl (cI, n, .inl w)), (va, .inl (cI, n, .inl mv)), (na, .inl (cI, n, .inl nx)), (ra, .inr (19, [.ref ma, .ref ta, .int st, .int ce, .int lf, .int rt, .int sp, .int 1, .int 1])), (ta, .inl (cI, 1001, .inl f))] H := hP
              have hD : va_D A [(ma, .inr (18, [.int 0, .int (nI S), .int (nI G), .ref wa, .ref va, .ref na, .int my, .null, .int de, .int aa, .int bb, .ref tz])), (wa, .inl (cI, n, .inl w)), (va, .inl (cI, n, .inl mv)), (na, .inl (cI, n, .inl nx)), (ra, .inr (19, [.ref ma, .ref ta, .int st, .int ce, .int lf, .int rt, .int sp, .int 1, .int 1])), (ta, .inl (cI, 1001, .inl f))] := hD
              refine lv_aload_n hx hb dX14_step_87 rfl (lv_at hl 2 rfl) ?_
              refine va_get (D := (dC, dI)) (ci := 19) (v := .int 1) (C := RX14) (T := TX14) (N := 9) hx hb hts iWX14 hown hK hP 4 rfl rfl 7 (by decide) (hts (.fieldLink RX14 35 "BeaverhallModel$Run" "hasHalted" "Z") (by decide +kernel)) (fun _ h9 => h9) rfl dX14_step_88 ?_
              refine lv_if_ne (tgt := 101) hx hb dX14_step_91 (by decide) (fun c91_45 => ?_) (fun c91_45 => ?_)
              · refine lv_iconst (v := 0) hx hb dX14_step_101 (by decide) ?_
                have hP9 := hP.sub (ws' := [(ma, .inr (18, [.int 0, .int (nI S), .int (nI G), .ref wa, .ref va, .ref na, .int my, .null, .int de, .int aa, .int bb, .ref tz])), (wa, .inl (cI, n, .inl w)), (va, .inl (cI, n, .inl mv)), (na, .inl (cI, n, .inl nx)), (ra, .inr (19, [.ref ma, .ref ta, .int st, .int ce, .int lf, .int rt, .int sp, .int 1, .int 1])), (ta, .inl (cI, 1001, .inl f))]) [0, 1, 2, 3, 4, 5] rfl
                have hD9 := hD.sub (ws' := [(ma, .inr (18, [.int 0, .int (nI S), .int (nI G), .ref wa, .ref va, .ref na, .int my, .null, .int de, .int aa, .int bb, .ref tz])), (wa, .inl (cI, n, .inl w)), (va, .inl (cI, n, .inl mv)), (na, .inl (cI, n, .inl nx)), (ra, .inr (19, [.ref ma, .ref ta, .int st, .int ce, .int lf, .int rt, .int sp, .int 1, .int 1])), (ta, .inl (cI, 1001, .inl f))]) [0, 1, 2, 3, 4, 5] (by decide) rfl
                have hK9 := hK.sub (tys' := [(cI, .int)]) [0] rfl
                exact W.zret (v := 0) hx hb hr (by rfl) (fun t ht hW => ⟨⟨0, (st, ce, lf, rt, sp, 1, 1, f), rfl, (by (try subst hw_37); (try subst hw_13); simp [stepR, c5_1, c12_14, c32_38, c62_39, c69_41, c76_43, c91_45]), ⟨by rw [ht]; exact hP9, va_K.moved hW.alike hK9, hD9⟩⟩, hS.F ht⟩) hS.2.2 dX14_step_102
              · exact absurd c91_45 (by decide)
