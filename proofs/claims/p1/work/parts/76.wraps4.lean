theorem dL_machine_0 : decode cL_machine 0 = .ok (.aload 4, 2) := by decide +kernel
theorem dL_machine_2 : decode cL_machine 2 = .ok (.iconst 0, 1) := by decide +kernel
theorem dL_machine_3 : decode cL_machine 3 = .ok (.aload_n 0, 1) := by decide +kernel
theorem dL_machine_4 : decode cL_machine 4 = .ok (.iload_n 1, 1) := by decide +kernel
theorem dL_machine_5 : decode cL_machine 5 = .ok (.iload_n 2, 1) := by decide +kernel
theorem dL_machine_6 : decode cL_machine 6 = .ok (.iload_n 3, 1) := by decide +kernel
set_option maxRecDepth 20000 in
theorem ggL_machine_X11_machine : GoodIn wsL_machine wsX11_machine := goodIn_ca (goodIn_ca (goodIn_r _ [7, 8, 9, 10, 11, 12, 6, 13, 14, 15, 16, 17, 18, 19, 20, 21, 22, 23, 24, 25, 26, 27, 28, 29, 30, 31, 32, 33, 34, 35, 36, 37, 38, 39, 40, 41, 42, 43, 44, 45, 46, 47, 48, 49, 50, 51, 52, 53, 54, 55, 56, 57, 58, 59, 60, 61, 62, 63, 64, 65, 66, 67, 68, 69, 70, 71, 72, 73, 74, 75, 76, 77, 78, 79, 80, 81, 82, 83, 84, 85, 86] rfl (by decide +kernel)) (goodIn_sub (fun _ h => List.mem_cons_of_mem _ (List.mem_append_left _ (List.mem_append_right _ h))) (by decide +kernel))) (goodIn_sub (fun _ h => List.mem_cons_of_mem _ (List.mem_append_right _ h)) (by decide +kernel))
set_option maxRecDepth 20000 in
theorem gL_machine_X11_machine : GoodIn wsL_machine (wsV RL 7 RX11 yX11_machine wsX11_machine) := goodIn_app (goodIn_of _ (by decide +kernel)) ggL_machine_X11_machine
theorem dL_machine_7 : decode cL_machine 7 = .ok (.invokevirtual 7, 3) := by decide +kernel
theorem dL_machine_15 : decode cL_machine 15 = .ok (.astore 5, 2) := by decide +kernel
theorem dL_machine_17 : decode cL_machine 17 = .ok (.iconst 1, 1) := by decide +kernel
theorem dL_machine_18 : decode cL_machine 18 = .ok (.ireturn, 1) := by decide +kernel
theorem dL_machine_10 : decode cL_machine 10 = .ok (.i2l, 1) := by decide +kernel
theorem dL_machine_11 : decode cL_machine 11 = .ok (.lastore, 1) := by decide +kernel
theorem dL_machine_12 : decode cL_machine 12 = .ok (.goto 11, 3) := by decide +kernel
theorem dL_machine_23 : decode cL_machine 23 = .ok (.iconst 0, 1) := by decide +kernel
theorem dL_machine_24 : decode cL_machine 24 = .ok (.ireturn, 1) := by decide +kernel
theorem dL_count_0 : decode cL_count 0 = .ok (.aload 5, 2) := by decide +kernel
theorem dL_count_2 : decode cL_count 2 = .ok (.iconst 0, 1) := by decide +kernel
theorem dL_count_3 : decode cL_count 3 = .ok (.aload_n 0, 1) := by decide +kernel
theorem dL_count_4 : decode cL_count 4 = .ok (.iload_n 1, 1) := by decide +kernel
theorem dL_count_5 : decode cL_count 5 = .ok (.iload_n 2, 1) := by decide +kernel
theorem dL_count_6 : decode cL_count 6 = .ok (.iload_n 3, 1) := by decide +kernel
theorem dL_count_7 : decode cL_count 7 = .ok (.iload 4, 2) := by decide +kernel
set_option maxRecDepth 20000 in
theorem ggL_count_X11_count : GoodIn wsL_count wsX11_count := goodIn_ca (goodIn_ca (goodIn_ca (goodIn_r _ [7, 8, 9, 10, 11, 12, 13, 6, 14, 15, 16, 17, 18, 19, 20, 21, 22, 23, 24, 25, 26, 27, 28, 29, 30, 31, 32, 33, 34, 35, 36, 37, 38, 39, 40, 41, 42, 43, 44, 45, 46, 47, 48] rfl (by decide +kernel)) (goodIn_sub (fun _ h => List.mem_cons_of_mem _ (List.mem_append_left _ (List.mem_append_right _ h))) (by decide +kernel))) (goodIn_sub (fun _ h => List.mem_cons_of_mem _ (List.mem_append_right _ h)) (by decide +kernel))) (goodIn_sub (fun _ h => List.mem_cons_of_mem _ (List.mem_append_left _ (List.mem_append_left _ (List.mem_append_right _ h)))) (by decide +kernel))
set_option maxRecDepth 20000 in
theorem gL_count_X11_count : GoodIn wsL_count (wsV RL 106 RX11 yX11_count wsX11_count) := goodIn_app (goodIn_of _ (by decide +kernel)) ggL_count_X11_count
theorem dL_count_9 : decode cL_count 9 = .ok (.invokevirtual 106, 3) := by decide +kernel
theorem dL_count_17 : decode cL_count 17 = .ok (.astore 6, 2) := by decide +kernel
theorem dL_count_19 : decode cL_count 19 = .ok (.iconst 1, 1) := by decide +kernel
theorem dL_count_20 : decode cL_count 20 = .ok (.ireturn, 1) := by decide +kernel
theorem dL_count_12 : decode cL_count 12 = .ok (.i2l, 1) := by decide +kernel
theorem dL_count_13 : decode cL_count 13 = .ok (.lastore, 1) := by decide +kernel
theorem dL_count_14 : decode cL_count 14 = .ok (.goto 11, 3) := by decide +kernel
theorem dL_count_25 : decode cL_count 25 = .ok (.iconst 0, 1) := by decide +kernel
theorem dL_count_26 : decode cL_count 26 = .ok (.ireturn, 1) := by decide +kernel
theorem dL_runCounters_0 : decode cL_runCounters 0 = .ok (.aload 4, 2) := by decide +kernel
theorem dL_runCounters_2 : decode cL_runCounters 2 = .ok (.iconst 0, 1) := by decide +kernel
theorem dL_runCounters_3 : decode cL_runCounters 3 = .ok (.aload_n 0, 1) := by decide +kernel
theorem dL_runCounters_4 : decode cL_runCounters 4 = .ok (.iload_n 1, 1) := by decide +kernel
theorem dL_runCounters_5 : decode cL_runCounters 5 = .ok (.iload_n 2, 1) := by decide +kernel
theorem dL_runCounters_6 : decode cL_runCounters 6 = .ok (.iload_n 3, 1) := by decide +kernel
set_option maxRecDepth 20000 in
theorem ggL_runCounters_X11_runCounters : GoodIn wsL_runCounters wsX11_runCounters := goodIn_ca (goodIn_ca (goodIn_r _ [6, 7, 8, 9, 5, 10, 11, 12, 13, 14, 15, 16, 17, 18, 19, 20, 21, 22, 23, 24, 25, 26, 27, 28, 29, 30, 31, 32, 33, 34, 35, 36, 37, 38, 39, 40, 41, 42, 43, 44, 45, 46, 47, 48, 49, 50, 51] rfl (by decide +kernel)) (goodIn_sub (fun _ h => List.mem_cons_of_mem _ (List.mem_append_right _ h)) (by decide +kernel))) (goodIn_sub (fun _ h => List.mem_cons_of_mem _ (List.mem_append_left _ (List.mem_append_right _ h))) (by decide +kernel))
set_option maxRecDepth 20000 in
theorem gL_runCounters_X11_runCounters : GoodIn wsL_runCounters (wsV RL 110 RX11 yX11_runCounters wsX11_runCounters) := goodIn_app (goodIn_of _ (by decide +kernel)) ggL_runCounters_X11_runCounters
theorem dL_runCounters_7 : decode cL_runCounters 7 = .ok (.invokevirtual 110, 3) := by decide +kernel
theorem dL_runCounters_15 : decode cL_runCounters 15 = .ok (.astore 5, 2) := by decide +kernel
theorem dL_runCounters_17 : decode cL_runCounters 17 = .ok (.iconst 1, 1) := by decide +kernel
theorem dL_runCounters_18 : decode cL_runCounters 18 = .ok (.ireturn, 1) := by decide +kernel
theorem dL_runCounters_10 : decode cL_runCounters 10 = .ok (.i2l, 1) := by decide +kernel
theorem dL_runCounters_11 : decode cL_runCounters 11 = .ok (.lastore, 1) := by decide +kernel
theorem dL_runCounters_12 : decode cL_runCounters 12 = .ok (.goto 7, 3) := by decide +kernel
theorem dL_runCounters_19 : decode cL_runCounters 19 = .ok (.iconst 0, 1) := by decide +kernel
theorem dL_runCounters_20 : decode cL_runCounters 20 = .ok (.ireturn, 1) := by decide +kernel
theorem dL_register_0 : decode cL_register 0 = .ok (.aload_n 2, 1) := by decide +kernel
theorem dL_register_1 : decode cL_register 1 = .ok (.iconst 0, 1) := by decide +kernel
theorem dL_register_2 : decode cL_register 2 = .ok (.aload_n 0, 1) := by decide +kernel
theorem dL_register_3 : decode cL_register 3 = .ok (.iload_n 1, 1) := by decide +kernel
set_option maxRecDepth 20000 in
theorem ggL_register_X11_register : GoodIn wsL_register wsX11_register := goodIn_ca (goodIn_ca (goodIn_r _ [6, 7, 8, 9, 10, 11, 12, 5, 13, 14, 15, 16, 17, 18, 19, 20, 21, 22, 23, 24, 25, 26, 27, 28, 29] rfl (by decide +kernel)) (goodIn_sub (fun _ h => List.mem_cons_of_mem _ (List.mem_append_right _ h)) (by decide +kernel))) (goodIn_sub (fun _ h => List.mem_cons_of_mem _ (List.mem_append_left _ (List.mem_append_right _ h))) (by decide +kernel))
set_option maxRecDepth 20000 in
theorem gL_register_X11_register : GoodIn wsL_register (wsV RL 113 RX11 yX11_register wsX11_register) := goodIn_app (goodIn_of _ (by decide +kernel)) ggL_register_X11_register
theorem dL_register_4 : decode cL_register 4 = .ok (.invokevirtual 113, 3) := by decide +kernel
theorem dL_register_12 : decode cL_register 12 = .ok (.astore_n 3, 1) := by decide +kernel
theorem dL_register_13 : decode cL_register 13 = .ok (.iconst 1, 1) := by decide +kernel
theorem dL_register_14 : decode cL_register 14 = .ok (.ireturn, 1) := by decide +kernel
theorem dL_register_7 : decode cL_register 7 = .ok (.i2l, 1) := by decide +kernel
theorem dL_register_8 : decode cL_register 8 = .ok (.lastore, 1) := by decide +kernel
theorem dL_register_9 : decode cL_register 9 = .ok (.goto 6, 3) := by decide +kernel
theorem dL_register_15 : decode cL_register 15 = .ok (.iconst 0, 1) := by decide +kernel
theorem dL_register_16 : decode cL_register 16 = .ok (.ireturn, 1) := by decide +kernel
theorem dL_tagRow_0 : decode cL_tagRow 0 = .ok (.aload_n 3, 1) := by decide +kernel
theorem dL_tagRow_1 : decode cL_tagRow 1 = .ok (.iconst 0, 1) := by decide +kernel
theorem dL_tagRow_2 : decode cL_tagRow 2 = .ok (.aload_n 0, 1) := by decide +kernel
theorem dL_tagRow_3 : decode cL_tagRow 3 = .ok (.iload_n 1, 1) := by decide +kernel
theorem dL_tagRow_4 : decode cL_tagRow 4 = .ok (.iload_n 2, 1) := by decide +kernel
set_option maxRecDepth 20000 in
theorem ggL_tagRow_X11_tagRow : GoodIn wsL_tagRow wsX11_tagRow := goodIn_ca (goodIn_ca (goodIn_ca (goodIn_r _ [7, 8, 9, 10, 11, 12, 6, 13, 14, 15, 16, 17, 18, 19, 20, 21, 22, 23, 24, 25, 26, 27, 28, 29, 30, 31, 32, 33, 34, 35, 36, 37, 38, 39, 40, 41, 42, 43, 44, 45, 46] rfl (by decide +kernel)) (goodIn_sub (fun _ h => List.mem_cons_of_mem _ (List.mem_append_left _ (List.mem_append_right _ h))) (by decide +kernel))) (goodIn_sub (fun _ h => List.mem_cons_of_mem _ (List.mem_append_right _ h)) (by decide +kernel))) (goodIn_sub (fun _ h => List.mem_cons_of_mem _ (List.mem_append_left _ (List.mem_append_left _ (List.mem_append_right _ h)))) (by decide +kernel))
set_option maxRecDepth 20000 in
theorem gL_tagRow_X11_tagRow : GoodIn wsL_tagRow (wsV RL 116 RX11 yX11_tagRow wsX11_tagRow) := goodIn_app (goodIn_of _ (by decide +kernel)) ggL_tagRow_X11_tagRow
theorem dL_tagRow_5 : decode cL_tagRow 5 = .ok (.invokevirtual 116, 3) := by decide +kernel
theorem dL_tagRow_13 : decode cL_tagRow 13 = .ok (.astore 4, 2) := by decide +kernel
theorem dL_tagRow_15 : decode cL_tagRow 15 = .ok (.iconst 1, 1) := by decide +kernel
theorem dL_tagRow_16 : decode cL_tagRow 16 = .ok (.ireturn, 1) := by decide +kernel
theorem dL_tagRow_8 : decode cL_tagRow 8 = .ok (.i2l, 1) := by decide +kernel
theorem dL_tagRow_9 : decode cL_tagRow 9 = .ok (.lastore, 1) := by decide +kernel
theorem dL_tagRow_10 : decode cL_tagRow 10 = .ok (.goto 11, 3) := by decide +kernel
theorem dL_tagRow_21 : decode cL_tagRow 21 = .ok (.iconst 0, 1) := by decide +kernel
theorem dL_tagRow_22 : decode cL_tagRow 22 = .ok (.ireturn, 1) := by decide +kernel
theorem dL_tagStart_0 : decode cL_tagStart 0 = .ok (.aload_n 2, 1) := by decide +kernel
theorem dL_tagStart_1 : decode cL_tagStart 1 = .ok (.iconst 0, 1) := by decide +kernel
theorem dL_tagStart_2 : decode cL_tagStart 2 = .ok (.aload_n 0, 1) := by decide +kernel
theorem dL_tagStart_3 : decode cL_tagStart 3 = .ok (.iload_n 1, 1) := by decide +kernel
set_option maxRecDepth 20000 in
theorem ggL_tagStart_X11_tagStart : GoodIn wsL_tagStart wsX11_tagStart := goodIn_ca (goodIn_ca (goodIn_ca (goodIn_r _ [7, 8, 9, 10, 11, 12, 13, 6, 14, 15, 16, 17, 18, 19, 20, 21, 22, 23, 24, 25, 26, 27, 28, 29, 30, 31, 32, 33, 34, 35, 36, 37, 38, 39, 40, 41] rfl (by decide +kernel)) (goodIn_sub (fun _ h => List.mem_cons_of_mem _ (List.mem_append_left _ (List.mem_append_right _ h))) (by decide +kernel))) (goodIn_sub (fun _ h => List.mem_cons_of_mem _ (List.mem_append_right _ h)) (by decide +kernel))) (goodIn_sub (fun _ h => List.mem_cons_of_mem _ (List.mem_append_left _ (List.mem_append_left _ (List.mem_append_right _ h)))) (by decide +kernel))
set_option maxRecDepth 20000 in
theorem gL_tagStart_X11_tagStart : GoodIn wsL_tagStart (wsV RL 120 RX11 yX11_tagStart wsX11_tagStart) := goodIn_app (goodIn_of _ (by decide +kernel)) ggL_tagStart_X11_tagStart
theorem dL_tagStart_4 : decode cL_tagStart 4 = .ok (.invokevirtual 120, 3) := by decide +kernel
theorem dL_tagStart_12 : decode cL_tagStart 12 = .ok (.astore_n 3, 1) := by decide +kernel
theorem dL_tagStart_13 : decode cL_tagStart 13 = .ok (.iconst 1, 1) := by decide +kernel
theorem dL_tagStart_14 : decode cL_tagStart 14 = .ok (.ireturn, 1) := by decide +kernel
theorem dL_tagStart_7 : decode cL_tagStart 7 = .ok (.i2l, 1) := by decide +kernel
theorem dL_tagStart_8 : decode cL_tagStart 8 = .ok (.lastore, 1) := by decide +kernel
theorem dL_tagStart_9 : decode cL_tagStart 9 = .ok (.goto 9, 3) := by decide +kernel
theorem dL_tagStart_18 : decode cL_tagStart 18 = .ok (.iconst 0, 1) := by decide +kernel
theorem dL_tagStart_19 : decode cL_tagStart 19 = .ok (.ireturn, 1) := by decide +kernel
theorem dL_tag_0 : decode cL_tag 0 = .ok (.aload_n 3, 1) := by decide +kernel
theorem dL_tag_1 : decode cL_tag 1 = .ok (.iconst 0, 1) := by decide +kernel
theorem dL_tag_2 : decode cL_tag 2 = .ok (.aload_n 0, 1) := by decide +kernel
theorem dL_tag_3 : decode cL_tag 3 = .ok (.iload_n 1, 1) := by decide +kernel
theorem dL_tag_4 : decode cL_tag 4 = .ok (.iload_n 2, 1) := by decide +kernel
set_option maxRecDepth 20000 in
theorem ggL_tag_X11_tag : GoodIn wsL_tag wsX11_tag := goodIn_ca (goodIn_ca (goodIn_r _ [6, 7, 8, 9, 5, 10, 11, 12, 13, 14, 15, 16, 17, 18, 19, 20, 21, 22, 23, 24, 25, 26, 27, 28, 29, 30, 31, 32, 33, 34, 35, 36, 37, 38, 39, 40, 41, 42, 43, 44, 45, 46, 47, 48, 49, 50, 51] rfl (by decide +kernel)) (goodIn_sub (fun _ h => List.mem_cons_of_mem _ (List.mem_append_right _ h)) (by decide +kernel))) (goodIn_sub (fun _ h => List.mem_cons_of_mem _ (List.mem_append_left _ (List.mem_append_right _ h))) (by decide +kernel))
set_option maxRecDepth 20000 in
theorem gL_tag_X11_tag : GoodIn wsL_tag (wsV RL 123 RX11 yX11_tag wsX11_tag) := goodIn_app (goodIn_of _ (by decide +kernel)) ggL_tag_X11_tag
theorem dL_tag_5 : decode cL_tag 5 = .ok (.invokevirtual 123, 3) := by decide +kernel
theorem dL_tag_13 : decode cL_tag 13 = .ok (.astore 4, 2) := by decide +kernel
theorem dL_tag_15 : decode cL_tag 15 = .ok (.iconst 1, 1) := by decide +kernel
theorem dL_tag_16 : decode cL_tag 16 = .ok (.ireturn, 1) := by decide +kernel
theorem dL_tag_8 : decode cL_tag 8 = .ok (.i2l, 1) := by decide +kernel
theorem dL_tag_9 : decode cL_tag 9 = .ok (.lastore, 1) := by decide +kernel
theorem dL_tag_10 : decode cL_tag 10 = .ok (.goto 7, 3) := by decide +kernel
theorem dL_tag_17 : decode cL_tag 17 = .ok (.iconst 0, 1) := by decide +kernel
theorem dL_tag_18 : decode cL_tag 18 = .ok (.ireturn, 1) := by decide +kernel
set_option maxHeartbeats 4000000 in
set_option maxRecDepth 100000 in
/-- L_machine -/
theorem c_L_machine (l : Launch) (hfl : l.stackTraces = false) (dC : Nat → ClassId) (dI : Nat → Nat → Nat) (cI cM : ClassId) (ya ms ju li ct tg fw : Nat) (a1 a2 a3 : Int32) (cL : ClassId) (ou : Nat) (of9 : Nat → Int64) (sz : Nat) : vx_Met l yL_machine wsL_machine ({ frames := 8, cells := 7, slots := 1059, locals := 143 }) (va_Pc [.ref ya, .int a1, .int a2, .int a3, .ref ou] (cPCz (zX) dC dI [(ya, .inr (16, [.ref ms, .int 0, .ref ju, .ref li, .ref ct, .ref tg, .ref fw])), (ms, .inl (cM, 16, .inr (.inr (.inr (.inr (fun _ => none)))))), (ou, .inl (cL, 1, .inr (.inl of9)))] [(cI, .int), (cM, .object "Beaverhall$Machine"), (cL, .long)] sz)) (va_Qi (fun (r : Int32) (u : Nat → Int64) => (r = 0 ∧ pMachine a1 a2 a3 ∧ u 0 = (0 : Int32).toInt64) ∨ (r = 1 ∧ ¬ pMachine a1 a2 a3)) (fun (u : Nat → Int64) t => cQB dC dI [(ou, .inl (cL, 1, .inr (.inl u)))] [(cL, .long)] (va_A [(ya, .inr (16, [.ref ms, .int 0, .ref ju, .ref li, .ref ct, .ref tg, .ref fw])), (ms, .inl (cM, 16, .inr (.inr (.inr (.inr (fun _ => none)))))), (ou, .inl (cL, 1, .inr (.inl of9)))] sz) t) (va_A [(ya, .inr (16, [.ref ms, .int 0, .ref ju, .ref li, .ref ct, .ref tg, .ref fw])), (ms, .inl (cM, 16, .inr (.inr (.inr (.inr (fun _ => none)))))), (ou, .inl (cL, 1, .inr (.inl of9)))] sz)) (vx_X (fun (_ : Unit) => True) (fun (E9 : String) (_ : Unit) (_ : State) => False) (va_A [(ya, .inr (16, [.ref ms, .int 0, .ref ju, .ref li, .ref ct, .ref tg, .ref fw])), (ms, .inl (cM, 16, .inr (.inr (.inr (.inr (fun _ => none)))))), (ou, .inl (cL, 1, .inr (.inl of9)))] sz)) 7 1059 (va_A [(ya, .inr (16, [.ref ms, .int 0, .ref ju, .ref li, .ref ct, .ref tg, .ref fw])), (ms, .inl (cM, 16, .inr (.inr (.inr (.inr (fun _ => none)))))), (ou, .inl (cL, 1, .inr (.inl of9)))] sz) := by
  refine vx_ofWH (cc := cL_machine) (maxL := 6) (ret := (some .int)) (hh := [(0, 12, 15, 13), (0, 12, 19, 15)]) (by decide) rfl ?_
  intro p e s m args below meth c s₁ B hml hv
  obtain ⟨rfl, ⟨hsz, hP, hK, hD0, hN⟩, hZ⟩ := hv
  have hx := B.exec
  have hb := B.bytes
  have hr := B.returns
  have hts := atoms_spec (ws := wsL_machine) B.pre
  have hown : s.vm.findClass RL = some m.cls := findClass_of_methodNamed B.named
  have hlocks := B.notSynchronized
  subst hsz
  have hD := hD0.self (sz := s.heap.size)
  generalize hAe : va_A [(ya, .inr (16, [.ref ms, .int 0, .ref ju, .ref li, .ref ct, .ref tg, .ref fw])), (ms, .inl (cM, 16, .inr (.inr (.inr (.inr (fun _ => none)))))), (ou, .inl (cL, 1, .inr (.inl of9)))] s.heap.size = A at hD hZ ⊢
  have hA : ∀ q : Nat, s.heap.size ≤ q → A q := fun q h => by rw [← hAe]; exact Or.inr h
  have hS : va_S A s.heap s.heap [] := va_S.rf
  have hP : va_P (dC, dI) vwCl [(ya, .inr (16, [.ref ms, .int 0, .ref ju, .ref li, .ref ct, .ref tg, .ref fw])), (ms, .inl (cM, 16, .inr (.inr (.inr (.inr (fun _ => none)))))), (ou, .inl (cL, 1, .inr (.inl of9)))] s.heap := hP
  have hD : va_D A [(ya, .inr (16, [.ref ms, .int 0, .ref ju, .ref li, .ref ct, .ref tg, .ref fw])), (ms, .inl (cM, 16, .inr (.inr (.inr (.inr (fun _ => none)))))), (ou, .inl (cL, 1, .inr (.inl of9)))] := hD
  have hl := lv_entry ([.ref ya, .int a1, .int a2, .int a3, .ref ou]) (n := 6) (Nat.le_of_ble_eq_true rfl)
  rw [lg_entry_eq]
  generalize (lg_sl ([.ref ya, .int a1, .int a2, .int a3, .ref ou]) ++ List.replicate (6 - (lg_sl ([.ref ya, .int a1, .int a2, .int a3, .ref ou])).length) Slot.unset).toArray = ls at hl ⊢
  have hl : lv_has ls 6 [(0, .ref ya), (1, .int a1), (2, .int a2), (3, .int a3), (4, .ref ou)] := hl
  have htab : c.exceptionTable.toList = tableOf [(0, 12, 15, 13), (0, 12, 19, 15)] := vx_table (x := yL_machine) B (hts (.codeWith yL_machine cL_machine 6 (some .int) [(0, 12, 15, 13), (0, 12, 19, 15)]) (show _ ∈ wsL_machine from List.mem_cons_self))
  refine lv_aload hx hb dL_machine_0 (lv_at hl 4 rfl) ?_
  refine lv_iconst (v := 0) hx hb dL_machine_2 (by decide) ?_
  refine lv_aload_n hx hb dL_machine_3 rfl (lv_at hl 0 rfl) ?_
  refine lv_iload_n hx hb dL_machine_4 rfl (lv_at hl 1 rfl) ?_
  refine lv_iload_n hx hb dL_machine_5 rfl (lv_at hl 2 rfl) ?_
  refine lv_iload_n hx hb dL_machine_6 rfl (lv_at hl 3 rfl) ?_
  have hPc := hP.sub (ws' := [(ya, .inr (16, [.ref ms, .int 0, .ref ju, .ref li, .ref ct, .ref tg, .ref fw])), (ms, .inl (cM, 16, .inr (.inr (.inr (.inr (fun _ => none))))))]) [0, 1] rfl
  have hDc := hD.sub (ws' := [(ya, .inr (16, [.ref ms, .int 0, .ref ju, .ref li, .ref ct, .ref tg, .ref fw])), (ms, .inl (cM, 16, .inr (.inr (.inr (.inr (fun _ => none))))))]) [0, 1] (by decide) rfl
  have hKc := hK.sub (tys' := [(cI, .int), (cM, .object "Beaverhall$Machine")]) [0, 1] rfl
  have hFc := va_free (wc := [(ya, .inr (16, [.ref ms, .int 0, .ref ju, .ref li, .ref ct, .ref tg, .ref fw])), (ms, .inl (cM, 16, .inr (.inr (.inr (.inr (fun _ => none))))))]) hD hS hA [0, 1] rfl
  refine vx_calli (vx_runV (As := [.int a1, .int a2, .int a3]) (rest := [.int 0, .ref ou]) ⟨hx, hb, hml, hown, hts⟩ (c_X11_machine l hfl dC dI cI cM ya ms ju li ct tg fw a1 a2 a3 s.heap.size) (cwV 3 hts gL_machine_X11_machine rfl rfl rfl (by decide +kernel) ⟨Nat.le_of_ble_eq_true rfl, Nat.le_of_ble_eq_true rfl⟩) (pcVz (zX_ok) hPc hDc hKc hN hZ hS hFc (ci := 16) (q0 := 0) rfl rfl) rfl rfl hl.1 rfl (lv_room (Nat.le_of_ble_eq_true rfl)) dL_machine_7 ⟨Nat.le_of_ble_eq_true rfl, Nat.le_of_ble_eq_true rfl⟩) hS (fun q _ h => hFc q h) hFc (fun q _ h => hFc q h) (fun E9 ce9 q9 u9 t9 H9 locs9 ht9 hvm9 hp9 hE9 hz9 hk9 hS9 hc9 hv9 hcl9 => ?_) (fun r_1 u t H1 locs ht hvm hw_2 hB hz1 hk1 hS => ?_)
  · obtain ⟨rfl, hno⟩ := hE9
    refine vx_catch (name := "java/lang/IllegalArgumentException") hown [] ⟨0, 12, 15, 13⟩ [⟨0, 12, 19, 15⟩] htab (fun z hz => by cases hz) (by decide) (by decide) (hts (.classLink RL 13 "java/lang/IllegalArgumentException") (by decide +kernel)) (zX_use hZ (.castable "java/lang/IllegalArgumentException" "java/lang/IllegalArgumentException") (by decide)) hc9 hv9 hcl9 ?_
    refine W.eq (g2 := F0 m 15 ls [.ref q9]) rfl ?_
    obtain ⟨hP, hD⟩ := va_join (wr := [(ou, .inl (cL, 1, .inr (.inl of9)))]) (w1 := []) hP hD [0, 1] [2] rfl rfl (by decide) (by decide) hk9 hFc P_nil D_nil
    have hS := hS9
    generalize H9 = H at hP hS ⊢
    have hP : va_P (dC, dI) vwCl [(ou, .inl (cL, 1, .inr (.inl of9)))] H := hP
    have hD : va_D A [(ou, .inl (cL, 1, .inr (.inl of9)))] := hD
    refine W.widen (k := 7) (n := 1059) (Nat.le_of_ble_eq_true rfl) (Nat.le_of_ble_eq_true rfl) ?_
    refine lv_astore (lv' := [(5, .ref q9), (0, .ref ya), (1, .int a1), (2, .int a2), (3, .int a3), (4, .ref ou)]) hx hb dL_machine_15 hl (by decide) rfl (fun ls hl => ?_)
    refine lv_iconst (v := 1) hx hb dL_machine_17 (by decide) ?_
    refine vx_ret ?_
    have hP9 := hP.sub (ws' := [(ou, .inl (cL, 1, .inr (.inl of9)))]) [0] rfl
    have hD9 := hD.sub (ws' := [(ou, .inl (cL, 1, .inr (.inl of9)))]) [0] (by decide) rfl
    have hK9 := hK.sub (tys' := [(cL, .long)]) [2] rfl
    exact W.iret (v := 1) hx hb hr (fun t ht hW => ⟨⟨1, of9, rfl, Or.inr ⟨rfl, hno⟩, ⟨by rw [ht]; exact hP9, va_K.moved hW.alike hK9, hD9⟩⟩, hS.F ht⟩) hS.2.2 dL_machine_18
  · skip
    obtain ⟨hP1, hK1, hD1⟩ := hB
    rw [ht] at hP1
    try dsimp only at hw_2
    obtain ⟨hP, hD⟩ := va_join (wr := [(ou, .inl (cL, 1, .inr (.inl of9)))]) (w1 := []) hP hD [0, 1] [2] rfl rfl (by decide) (by decide) hk1 hFc hP1 hD1
    generalize H1 = H at hP hS ⊢
    have hP : va_P (dC, dI) vwCl [(ou, .inl (cL, 1, .inr (.inl of9)))] H := hP
    have hD : va_D A [(ou, .inl (cL, 1, .inr (.inl of9)))] := hD
    refine W.widen (k := 7) (n := 1059) (Nat.le_of_ble_eq_true rfl) (Nat.le_of_ble_eq_true rfl) ?_
    refine lv_i2l hx hb dL_machine_10 rfl ?_
    refine va_last hx hb hK hP hD hS 0 2 rfl rfl (show vp_in (nI 0) 1 from vp_in_nI (by decide) (by decide)) dL_machine_11 (fun H locs hP hD hS => ?_)
    obtain ⟨f_3, ef_3⟩ : ∃ z, z = (vp_updL of9 ((0 : Int32)).toNatClampNeg r_1.toInt64) := ⟨_, rfl⟩
    have hP : va_P (dC, dI) vwCl [(ou, .inl (cL, 1, .inr (.inl f_3)))] H := by rw [ef_3]; exact hP
    have hD : va_D A [(ou, .inl (cL, 1, .inr (.inl f_3)))] := by rw [ef_3]; exact hD
    refine lv_goto (tgt := 23) hx hb dL_machine_12 (by decide) ?_
    refine lv_iconst (v := 0) hx hb dL_machine_23 (by decide) ?_
    refine vx_ret ?_
    have hP9 := hP.sub (ws' := [(ou, .inl (cL, 1, .inr (.inl f_3)))]) [0] rfl
    have hD9 := hD.sub (ws' := [(ou, .inl (cL, 1, .inr (.inl f_3)))]) [0] (by decide) rfl
    have hK9 := hK.sub (tys' := [(cL, .long)]) [2] rfl
    exact W.iret (v := 0) hx hb hr (fun t ht hW => ⟨⟨0, f_3, rfl, Or.inl ⟨rfl, hw_2.2, by rw [ef_3, hw_2.1]; exact up0⟩, ⟨by rw [ht]; exact hP9, va_K.moved hW.alike hK9, hD9⟩⟩, hS.F ht⟩) hS.2.2 dL_machine_24

set_option maxHeartbeats 4000000 in
set_option maxRecDepth 100000 in
/-- L_count -/
theorem c_L_count (l : Launch) (hfl : l.stackTraces = false) (dC : Nat → ClassId) (dI : Nat → Nat → Nat) (cI : ClassId) (ya ms ju li ct tg fw : Nat) (cr cu cg cp co : Nat) (f1 f2 f3 f4 : Nat → Int32) (a1 a2 a3 a4 : Int32) (cL : ClassId) (ou : Nat) (of9 : Nat → Int64) (sz : Nat) : vx_Met l yL_count wsL_count ({ frames := 8, cells := 3, slots := 18, locals := 144 }) (va_Pc [.ref ya, .int a1, .int a2, .int a3, .int a4, .ref ou] (cPCz (zX) dC dI [(ya, .inr (16, [.ref ms, .int 0, .ref ju, .ref li, .ref ct, .ref tg, .ref fw])), (ct, .inr (5, [.int 0, .ref cr, .ref cu, .ref cg, .ref cp, .ref co])), (cu, .inl (cI, 12, .inl f1)), (cg, .inl (cI, 12, .inl f2)), (cp, .inl (cI, 12, .inl f3)), (co, .inl (cI, 12, .inl f4)), (ou, .inl (cL, 1, .inr (.inl of9)))] [(cI, .int), (cL, .long)] sz)) (va_Qi (fun (r : Int32) (u : Nat → Int64) => (r = 0 ∧ pCount a1 a2 a3 a4 ∧ u 0 = (1 : Int32).toInt64) ∨ (r = 1 ∧ ¬ pCount a1 a2 a3 a4)) (fun (u : Nat → Int64) t => cQB dC dI [(ou, .inl (cL, 1, .inr (.inl u)))] [(cL, .long)] (va_A [(ya, .inr (16, [.ref ms, .int 0, .ref ju, .ref li, .ref ct, .ref tg, .ref fw])), (ct, .inr (5, [.int 0, .ref cr, .ref cu, .ref cg, .ref cp, .ref co])), (cu, .inl (cI, 12, .inl f1)), (cg, .inl (cI, 12, .inl f2)), (cp, .inl (cI, 12, .inl f3)), (co, .inl (cI, 12, .inl f4)), (ou, .inl (cL, 1, .inr (.inl of9)))] sz) t) (va_A [(ya, .inr (16, [.ref ms, .int 0, .ref ju, .ref li, .ref ct, .ref tg, .ref fw])), (ct, .inr (5, [.int 0, .ref cr, .ref cu, .ref cg, .ref cp, .ref co])), (cu, .inl (cI, 12, .inl f1)), (cg, .inl (cI, 12, .inl f2)), (cp, .inl (cI, 12, .inl f3)), (co, .inl (cI, 12, .inl f4)), (ou, .inl (cL, 1, .inr (.inl of9)))] sz)) (vx_X (fun (_ : Unit) => True) (fun (E9 : String) (_ : Unit) (_ : State) => False) (va_A [(ya, .inr (16, [.ref ms, .int 0, .ref ju, .ref li, .ref ct, .ref tg, .ref fw])), (ct, .inr (5, [.int 0, .ref cr, .ref cu, .ref cg, .ref cp, .ref co])), (cu, .inl (cI, 12, .inl f1)), (cg, .inl (cI, 12, .inl f2)), (cp, .inl (cI, 12, .inl f3)), (co, .inl (cI, 12, .inl f4)), (ou, .inl (cL, 1, .inr (.inl of9)))] sz)) 3 18 (va_A [(ya, .inr (16, [.ref ms, .int 0, .ref ju, .ref li, .ref ct, .ref tg, .ref fw])), (ct, .inr (5, [.int 0, .ref cr, .ref cu, .ref cg, .ref cp, .ref co])), (cu, .inl (cI, 12, .inl f1)), (cg, .inl (cI, 12, .inl f2)), (cp, .inl (cI, 12, .inl f3)), (co, .inl (cI, 12, .inl f4)), (ou, .inl (cL, 1, .inr (.inl of9)))] sz) := by
  refine vx_ofWH (cc := cL_count) (maxL := 7) (ret := (some .int)) (hh := [(0, 14, 17, 13), (0, 14, 21, 15)]) (by decide) rfl ?_
  intro p e s m args below meth c s₁ B hml hv
  obtain ⟨rfl, ⟨hsz, hP, hK, hD0, hN⟩, hZ⟩ := hv
  have hx := B.exec
  have hb := B.bytes
  have hr := B.returns
  have hts := atoms_spec (ws := wsL_count) B.pre
  have hown : s.vm.findClass RL = some m.cls := findClass_of_methodNamed B.named
  have hlocks := B.notSynchronized
  subst hsz
  have hD := hD0.self (sz := s.heap.size)
  generalize hAe : va_A [(ya, .inr (16, [.ref ms, .int 0, .ref ju, .ref li, .ref ct, .ref tg, .ref fw])), (ct, .inr (5, [.int 0, .ref cr, .ref cu, .ref cg, .ref cp, .ref co])), (cu, .inl (cI, 12, .inl f1)), (cg, .inl (cI, 12, .inl f2)), (cp, .inl (cI, 12, .inl f3)), (co, .inl (cI, 12, .inl f4)), (ou, .inl (cL, 1, .inr (.inl of9)))] s.heap.size = A at hD hZ ⊢
  have hA : ∀ q : Nat, s.heap.size ≤ q → A q := fun q h => by rw [← hAe]; exact Or.inr h
  have hS : va_S A s.heap s.heap [] := va_S.rf
  have hP : va_P (dC, dI) vwCl [(ya, .inr (16, [.ref ms, .int 0, .ref ju, .ref li, .ref ct, .ref tg, .ref fw])), (ct, .inr (5, [.int 0, .ref cr, .ref cu, .ref cg, .ref cp, .ref co])), (cu, .inl (cI, 12, .inl f1)), (cg, .inl (cI, 12, .inl f2)), (cp, .inl (cI, 12, .inl f3)), (co, .inl (cI, 12, .inl f4)), (ou, .inl (cL, 1, .inr (.inl of9)))] s.heap := hP
  have hD : va_D A [(ya, .inr (16, [.ref ms, .int 0, .ref ju, .ref li, .ref ct, .ref tg, .ref fw])), (ct, .inr (5, [.int 0, .ref cr, .ref cu, .ref cg, .ref cp, .ref co])), (cu, .inl (cI, 12, .inl f1)), (cg, .inl (cI, 12, .inl f2)), (cp, .inl (cI, 12, .inl f3)), (co, .inl (cI, 12, .inl f4)), (ou, .inl (cL, 1, .inr (.inl of9)))] := hD
  have hl := lv_entry ([.ref ya, .int a1, .int a2, .int a3, .int a4, .ref ou]) (n := 7) (Nat.le_of_ble_eq_true rfl)
  rw [lg_entry_eq]
  generalize (lg_sl ([.ref ya, .int a1, .int a2, .int a3, .int a4, .ref ou]) ++ List.replicate (7 - (lg_sl ([.ref ya, .int a1, .int a2, .int a3, .int a4, .ref ou])).length) Slot.unset).toArray = ls at hl ⊢
  have hl : lv_has ls 7 [(0, .ref ya), (1, .int a1), (2, .int a2), (3, .int a3), (4, .int a4), (5, .ref ou)] := hl
  have htab : c.exceptionTable.toList = tableOf [(0, 14, 17, 13), (0, 14, 21, 15)] := vx_table (x := yL_count) B (hts (.codeWith yL_count cL_count 7 (some .int) [(0, 14, 17, 13), (0, 14, 21, 15)]) (show _ ∈ wsL_count from List.mem_cons_self))
  refine lv_aload hx hb dL_count_0 (lv_at hl 5 rfl) ?_
  refine lv_iconst (v := 0) hx hb dL_count_2 (by decide) ?_
  refine lv_aload_n hx hb dL_count_3 rfl (lv_at hl 0 rfl) ?_
  refine lv_iload_n hx hb dL_count_4 rfl (lv_at hl 1 rfl) ?_
  refine lv_iload_n hx hb dL_count_5 rfl (lv_at hl 2 rfl) ?_
  refine lv_iload_n hx hb dL_count_6 rfl (lv_at hl 3 rfl) ?_
  refine lv_iload hx hb dL_count_7 (lv_at hl 4 rfl) ?_
  have hPc := hP.sub (ws' := [(ya, .inr (16, [.ref ms, .int 0, .ref ju, .ref li, .ref ct, .ref tg, .ref fw])), (ct, .inr (5, [.int 0, .ref cr, .ref cu, .ref cg, .ref cp, .ref co])), (cu, .inl (cI, 12, .inl f1)), (cg, .inl (cI, 12, .inl f2)), (cp, .inl (cI, 12, .inl f3)), (co, .inl (cI, 12, .inl f4))]) [0, 1, 2, 3, 4, 5] rfl
  have hDc := hD.sub (ws' := [(ya, .inr (16, [.ref ms, .int 0, .ref ju, .ref li, .ref ct, .ref tg, .ref fw])), (ct, .inr (5, [.int 0, .ref cr, .ref cu, .ref cg, .ref cp, .ref co])), (cu, .inl (cI, 12, .inl f1)), (cg, .inl (cI, 12, .inl f2)), (cp, .inl (cI, 12, .inl f3)), (co, .inl (cI, 12, .inl f4))]) [0, 1, 2, 3, 4, 5] (by decide) rfl
  have hKc := hK.sub (tys' := [(cI, .int)]) [0] rfl
  have hFc := va_free (wc := [(ya, .inr (16, [.ref ms, .int 0, .ref ju, .ref li, .ref ct, .ref tg, .ref fw])), (ct, .inr (5, [.int 0, .ref cr, .ref cu, .ref cg, .ref cp, .ref co])), (cu, .inl (cI, 12, .inl f1)), (cg, .inl (cI, 12, .inl f2)), (cp, .inl (cI, 12, .inl f3)), (co, .inl (cI, 12, .inl f4))]) hD hS hA [0, 1, 2, 3, 4, 5] rfl
  refine vx_calli (vx_runV (As := [.int a1, .int a2, .int a3, .int a4]) (rest := [.int 0, .ref ou]) ⟨hx, hb, hml, hown, hts⟩ (c_X11_count l hfl dC dI cI ya ms ju li ct tg fw cr cu cg cp co f1 f2 f3 f4 a1 a2 a3 a4 s.heap.size) (cwV 4 hts gL_count_X11_count rfl rfl rfl (by decide +kernel) ⟨Nat.le_of_ble_eq_true rfl, Nat.le_of_ble_eq_true rfl⟩) (pcVz (zX_ok) hPc hDc hKc hN hZ hS hFc (ci := 16) (q0 := 0) rfl rfl) rfl rfl hl.1 rfl (lv_room (Nat.le_of_ble_eq_true rfl)) dL_count_9 ⟨Nat.le_of_ble_eq_true rfl, Nat.le_of_ble_eq_true rfl⟩) hS (fun q _ h => hFc q h) hFc (fun q _ h => hFc q h) (fun E9 ce9 q9 u9 t9 H9 locs9 ht9 hvm9 hp9 hE9 hz9 hk9 hS9 hc9 hv9 hcl9 => ?_) (fun r_1 u t H1 locs ht hvm hw_2 hB hz1 hk1 hS => ?_)
  · obtain ⟨rfl, hno⟩ := hE9
    refine vx_catch (name := "java/lang/IllegalArgumentException") hown [] ⟨0, 14, 17, 13⟩ [⟨0, 14, 21, 15⟩] htab (fun z hz => by cases hz) (by decide) (by decide) (hts (.classLink RL 13 "java/lang/IllegalArgumentException") (by decide +kernel)) (zX_use hZ (.castable "java/lang/IllegalArgumentException" "java/lang/IllegalArgumentException") (by decide)) hc9 hv9 hcl9 ?_
    refine W.eq (g2 := F0 m 17 ls [.ref q9]) rfl ?_
    obtain ⟨hP, hD⟩ := va_join (wr := [(ou, .inl (cL, 1, .inr (.inl of9)))]) (w1 := []) hP hD [0, 1, 2, 3, 4, 5] [6] rfl rfl (by decide) (by decide) hk9 hFc P_nil D_nil
    have hS := hS9
    generalize H9 = H at hP hS ⊢
    have hP : va_P (dC, dI) vwCl [(ou, .inl (cL, 1, .inr (.inl of9)))] H := hP
    have hD : va_D A [(ou, .inl (cL, 1, .inr (.inl of9)))] := hD
    refine W.widen (k := 3) (n := 18) (Nat.le_of_ble_eq_true rfl) (Nat.le_of_ble_eq_true rfl) ?_
    refine lv_astore (lv' := [(6, .ref q9), (0, .ref ya), (1, .int a1), (2, .int a2), (3, .int a3), (4, .int a4), (5, .ref ou)]) hx hb dL_count_17 hl (by decide) rfl (fun ls hl => ?_)
    refine lv_iconst (v := 1) hx hb dL_count_19 (by decide) ?_
    refine vx_ret ?_
    have hP9 := hP.sub (ws' := [(ou, .inl (cL, 1, .inr (.inl of9)))]) [0] rfl
    have hD9 := hD.sub (ws' := [(ou, .inl (cL, 1, .inr (.inl of9)))]) [0] (by decide) rfl
    have hK9 := hK.sub (tys' := [(cL, .long)]) [1] rfl
    exact W.iret (v := 1) hx hb hr (fun t ht hW => ⟨⟨1, of9, rfl, Or.inr ⟨rfl, hno⟩, ⟨by rw [ht]; exact hP9, va_K.moved hW.alike hK9, hD9⟩⟩, hS.F ht⟩) hS.2.2 dL_count_20
  · skip
    obtain ⟨hP1, hK1, hD1⟩ := hB
    rw [ht] at hP1
    try dsimp only at hw_2
    obtain ⟨hP, hD⟩ := va_join (wr := [(ou, .inl (cL, 1, .inr (.inl of9)))]) (w1 := []) hP hD [0, 1, 2, 3, 4, 5] [6] rfl rfl (by decide) (by decide) hk1 hFc hP1 hD1
    generalize H1 = H at hP hS ⊢
    have hP : va_P (dC, dI) vwCl [(ou, .inl (cL, 1, .inr (.inl of9)))] H := hP
    have hD : va_D A [(ou, .inl (cL, 1, .inr (.inl of9)))] := hD
    refine W.widen (k := 3) (n := 18) (Nat.le_of_ble_eq_true rfl) (Nat.le_of_ble_eq_true rfl) ?_
    refine lv_i2l hx hb dL_count_12 rfl ?_
    refine va_last hx hb hK hP hD hS 0 1 rfl rfl (show vp_in (nI 0) 1 from vp_in_nI (by decide) (by decide)) dL_count_13 (fun H locs hP hD hS => ?_)
    obtain ⟨f_3, ef_3⟩ : ∃ z, z = (vp_updL of9 ((0 : Int32)).toNatClampNeg r_1.toInt64) := ⟨_, rfl⟩
    have hP : va_P (dC, dI) vwCl [(ou, .inl (cL, 1, .inr (.inl f_3)))] H := by rw [ef_3]; exact hP
    have hD : va_D A [(ou, .inl (cL, 1, .inr (.inl f_3)))] := by rw [ef_3]; exact hD
    refine lv_goto (tgt := 25) hx hb dL_count_14 (by decide) ?_
    refine lv_iconst (v := 0) hx hb dL_count_25 (by decide) ?_
    refine vx_ret ?_
    have hP9 := hP.sub (ws' := [(ou, .inl (cL, 1, .inr (.inl f_3)))]) [0] rfl
    have hD9 := hD.sub (ws' := [(ou, .inl (cL, 1, .inr (.inl f_3)))]) [0] (by decide) rfl
    have hK9 := hK.sub (tys' := [(cL, .long)]) [1] rfl
    exact W.iret (v := 0) hx hb hr (fun t ht hW => ⟨⟨0, f_3, rfl, Or.inl ⟨rfl, hw_2.2, by rw [ef_3, hw_2.1]; exact up0⟩, ⟨by rw [ht]; exact hP9, va_K.moved hW.alike hK9, hD9⟩⟩, hS.F ht⟩) hS.2.2 dL_count_26

set_option maxHeartbeats 4000000 in
set_option maxRecDepth 100000 in
/-- L_runCounters -/
theorem c_L_runCounters (l : Launch) (hfl : l.stackTraces = false) (dC : Nat → ClassId) (dI : Nat → Nat → Nat) (cI : ClassId) (ya ms ju li ct tg fw : Nat) (cr cu cg cp co : Nat) (f1 : Nat → Int32) (a1 a2 a3 : Int32) (cL : ClassId) (ou : Nat) (of9 : Nat → Int64) (sz : Nat) : vx_Met l yL_runCounters wsL_runCounters ({ frames := 8, cells := 2, slots := 12, locals := 143 }) (va_Pc [.ref ya, .int a1, .int a2, .int a3, .ref ou] (cPCz (zX) dC dI [(ya, .inr (16, [.ref ms, .int 0, .ref ju, .ref li, .ref ct, .ref tg, .ref fw])), (ct, .inr (5, [.int 0, .ref cr, .ref cu, .ref cg, .ref cp, .ref co])), (cr, .inl (cI, 4, .inl f1)), (ou, .inl (cL, 1, .inr (.inl of9)))] [(cI, .int), (cL, .long)] sz)) (va_Qi (fun (r : Int32) (u : Nat → Int64) => (r = 0 ∧ pRunC a1 a2 a3 ∧ u 0 = (0 : Int32).toInt64) ∨ (r = 1 ∧ ¬ pRunC a1 a2 a3)) (fun (u : Nat → Int64) t => cQB dC dI [(ou, .inl (cL, 1, .inr (.inl u)))] [(cL, .long)] (va_A [(ya, .inr (16, [.ref ms, .int 0, .ref ju, .ref li, .ref ct, .ref tg, .ref fw])), (ct, .inr (5, [.int 0, .ref cr, .ref cu, .ref cg, .ref cp, .ref co])), (cr, .inl (cI, 4, .inl f1)), (ou, .inl (cL, 1, .inr (.inl of9)))] sz) t) (va_A [(ya, .inr (16, [.ref ms, .int 0, .ref ju, .ref li, .ref ct, .ref tg, .ref fw])), (ct, .inr (5, [.int 0, .ref cr, .ref cu, .ref cg, .ref cp, .ref co])), (cr, .inl (cI, 4, .inl f1)), (ou, .inl (cL, 1, .inr (.inl of9)))] sz)) (vx_X (fun (_ : Unit) => True) (fun (E9 : String) (_ : Unit) (_ : State) => False) (va_A [(ya, .inr (16, [.ref ms, .int 0, .ref ju, .ref li, .ref ct, .ref tg, .ref fw])), (ct, .inr (5, [.int 0, .ref cr, .ref cu, .ref cg, .ref cp, .ref co])), (cr, .inl (cI, 4, .inl f1)), (ou, .inl (cL, 1, .inr (.inl of9)))] sz)) 2 12 (va_A [(ya, .inr (16, [.ref ms, .int 0, .ref ju, .ref li, .ref ct, .ref tg, .ref fw])), (ct, .inr (5, [.int 0, .ref cr, .ref cu, .ref cg, .ref cp, .ref co])), (cr, .inl (cI, 4, .inl f1)), (ou, .inl (cL, 1, .inr (.inl of9)))] sz) := by
  refine vx_ofWH (cc := cL_runCounters) (maxL := 6) (ret := (some .int)) (hh := [(0, 12, 15, 13)]) (by decide) rfl ?_
  intro p e s m args below meth c s₁ B hml hv
  obtain ⟨rfl, ⟨hsz, hP, hK, hD0, hN⟩, hZ⟩ := hv
  have hx := B.exec
  have hb := B.bytes
  have hr := B.returns
  have hts := atoms_spec (ws := wsL_runCounters) B.pre
  have hown : s.vm.findClass RL = some m.cls := findClass_of_methodNamed B.named
  have hlocks := B.notSynchronized
  subst hsz
  have hD := hD0.self (sz := s.heap.size)
  generalize hAe : va_A [(ya, .inr (16, [.ref ms, .int 0, .ref ju, .ref li, .ref ct, .ref tg, .ref fw])), (ct, .inr (5, [.int 0, .ref cr, .ref cu, .ref cg, .ref cp, .ref co])), (cr, .inl (cI, 4, .inl f1)), (ou, .inl (cL, 1, .inr (.inl of9)))] s.heap.size = A at hD hZ ⊢
  have hA : ∀ q : Nat, s.heap.size ≤ q → A q := fun q h => by rw [← hAe]; exact Or.inr h
  have hS : va_S A s.heap s.heap [] := va_S.rf
  have hP : va_P (dC, dI) vwCl [(ya, .inr (16, [.ref ms, .int 0, .ref ju, .ref li, .ref ct, .ref tg, .ref fw])), (ct, .inr (5, [.int 0, .ref cr, .ref cu, .ref cg, .ref cp, .ref co])), (cr, .inl (cI, 4, .inl f1)), (ou, .inl (cL, 1, .inr (.inl of9)))] s.heap := hP
  have hD : va_D A [(ya, .inr (16, [.ref ms, .int 0, .ref ju, .ref li, .ref ct, .ref tg, .ref fw])), (ct, .inr (5, [.int 0, .ref cr, .ref cu, .ref cg, .ref cp, .ref co])), (cr, .inl (cI, 4, .inl f1)), (ou, .inl (cL, 1, .inr (.inl of9)))] := hD
  have hl := lv_entry ([.ref ya, .int a1, .int a2, .int a3, .ref ou]) (n := 6) (Nat.le_of_ble_eq_true rfl)
  rw [lg_entry_eq]
  generalize (lg_sl ([.ref ya, .int a1, .int a2, .int a3, .ref ou]) ++ List.replicate (6 - (lg_sl ([.ref ya, .int a1, .int a2, .int a3, .ref ou])).length) Slot.unset).toArray = ls at hl ⊢
  have hl : lv_has ls 6 [(0, .ref ya), (1, .int a1), (2, .int a2), (3, .int a3), (4, .ref ou)] := hl
  have htab : c.exceptionTable.toList = tableOf [(0, 12, 15, 13)] := vx_table (x := yL_runCounters) B (hts (.codeWith yL_runCounters cL_runCounters 6 (some .int) [(0, 12, 15, 13)]) (show _ ∈ wsL_runCounters from List.mem_cons_self))
  refine lv_aload hx hb dL_runCounters_0 (lv_at hl 4 rfl) ?_
  refine lv_iconst (v := 0) hx hb dL_runCounters_2 (by decide) ?_
  refine lv_aload_n hx hb dL_runCounters_3 rfl (lv_at hl 0 rfl) ?_
  refine lv_iload_n hx hb dL_runCounters_4 rfl (lv_at hl 1 rfl) ?_
  refine lv_iload_n hx hb dL_runCounters_5 rfl (lv_at hl 2 rfl) ?_
  refine lv_iload_n hx hb dL_runCounters_6 rfl (lv_at hl 3 rfl) ?_
  have hPc := hP.sub (ws' := [(ya, .inr (16, [.ref ms, .int 0, .ref ju, .ref li, .ref ct, .ref tg, .ref fw])), (ct, .inr (5, [.int 0, .ref cr, .ref cu, .ref cg, .ref cp, .ref co])), (cr, .inl (cI, 4, .inl f1))]) [0, 1, 2] rfl
  have hDc := hD.sub (ws' := [(ya, .inr (16, [.ref ms, .int 0, .ref ju, .ref li, .ref ct, .ref tg, .ref fw])), (ct, .inr (5, [.int 0, .ref cr, .ref cu, .ref cg, .ref cp, .ref co])), (cr, .inl (cI, 4, .inl f1))]) [0, 1, 2] (by decide) rfl
  have hKc := hK.sub (tys' := [(cI, .int)]) [0] rfl
  have hFc := va_free (wc := [(ya, .inr (16, [.ref ms, .int 0, .ref ju, .ref li, .ref ct, .ref tg, .ref fw])), (ct, .inr (5, [.int 0, .ref cr, .ref cu, .ref cg, .ref cp, .ref co])), (cr, .inl (cI, 4, .inl f1))]) hD hS hA [0, 1, 2] rfl
  refine vx_calli (vx_runV (As := [.int a1, .int a2, .int a3]) (rest := [.int 0, .ref ou]) ⟨hx, hb, hml, hown, hts⟩ (c_X11_runCounters l hfl dC dI cI ya ms ju li ct tg fw cr cu cg cp co f1 a1 a2 a3 s.heap.size) (cwV 3 hts gL_runCounters_X11_runCounters rfl rfl rfl (by decide +kernel) ⟨Nat.le_of_ble_eq_true rfl, Nat.le_of_ble_eq_true rfl⟩) (pcVz (zX_ok) hPc hDc hKc hN hZ hS hFc (ci := 16) (q0 := 0) rfl rfl) rfl rfl hl.1 rfl (lv_room (Nat.le_of_ble_eq_true rfl)) dL_runCounters_7 ⟨Nat.le_of_ble_eq_true rfl, Nat.le_of_ble_eq_true rfl⟩) hS (fun q _ h => hFc q h) hFc (fun q _ h => hFc q h) (fun E9 ce9 q9 u9 t9 H9 locs9 ht9 hvm9 hp9 hE9 hz9 hk9 hS9 hc9 hv9 hcl9 => ?_) (fun r_1 u t H1 locs ht hvm hw_2 hB hz1 hk1 hS => ?_)
  · obtain ⟨rfl, hno⟩ := hE9
    refine vx_catch (name := "java/lang/IllegalArgumentException") hown [] ⟨0, 12, 15, 13⟩ [] htab (fun z hz => by cases hz) (by decide) (by decide) (hts (.classLink RL 13 "java/lang/IllegalArgumentException") (by decide +kernel)) (zX_use hZ (.castable "java/lang/IllegalArgumentException" "java/lang/IllegalArgumentException") (by decide)) hc9 hv9 hcl9 ?_
    refine W.eq (g2 := F0 m 15 ls [.ref q9]) rfl ?_
    obtain ⟨hP, hD⟩ := va_join (wr := [(ou, .inl (cL, 1, .inr (.inl of9)))]) (w1 := []) hP hD [0, 1, 2] [3] rfl rfl (by decide) (by decide) hk9 hFc P_nil D_nil
    have hS := hS9
    generalize H9 = H at hP hS ⊢
    have hP : va_P (dC, dI) vwCl [(ou, .inl (cL, 1, .inr (.inl of9)))] H := hP
    have hD : va_D A [(ou, .inl (cL, 1, .inr (.inl of9)))] := hD
    refine W.widen (k := 2) (n := 12) (Nat.le_of_ble_eq_true rfl) (Nat.le_of_ble_eq_true rfl) ?_
    refine lv_astore (lv' := [(5, .ref q9), (0, .ref ya), (1, .int a1), (2, .int a2), (3, .int a3), (4, .ref ou)]) hx hb dL_runCounters_15 hl (by decide) rfl (fun ls hl => ?_)
    refine lv_iconst (v := 1) hx hb dL_runCounters_17 (by decide) ?_
    refine vx_ret ?_
    have hP9 := hP.sub (ws' := [(ou, .inl (cL, 1, .inr (.inl of9)))]) [0] rfl
    have hD9 := hD.sub (ws' := [(ou, .inl (cL, 1, .inr (.inl of9)))]) [0] (by decide) rfl
    have hK9 := hK.sub (tys' := [(cL, .long)]) [1] rfl
    exact W.iret (v := 1) hx hb hr (fun t ht hW => ⟨⟨1, of9, rfl, Or.inr ⟨rfl, hno⟩, ⟨by rw [ht]; exact hP9, va_K.moved hW.alike hK9, hD9⟩⟩, hS.F ht⟩) hS.2.2 dL_runCounters_18
  · skip
    obtain ⟨hP1, hK1, hD1⟩ := hB
    rw [ht] at hP1
    try dsimp only at hw_2
    obtain ⟨hP, hD⟩ := va_join (wr := [(ou, .inl (cL, 1, .inr (.inl of9)))]) (w1 := []) hP hD [0, 1, 2] [3] rfl rfl (by decide) (by decide) hk1 hFc hP1 hD1
    generalize H1 = H at hP hS ⊢
    have hP : va_P (dC, dI) vwCl [(ou, .inl (cL, 1, .inr (.inl of9)))] H := hP
    have hD : va_D A [(ou, .inl (cL, 1, .inr (.inl of9)))] := hD
    refine W.widen (k := 2) (n := 12) (Nat.le_of_ble_eq_true rfl) (Nat.le_of_ble_eq_true rfl) ?_
    refine lv_i2l hx hb dL_runCounters_10 rfl ?_
    refine va_last hx hb hK hP hD hS 0 1 rfl rfl (show vp_in (nI 0) 1 from vp_in_nI (by decide) (by decide)) dL_runCounters_11 (fun H locs hP hD hS => ?_)
    obtain ⟨f_3, ef_3⟩ : ∃ z, z = (vp_updL of9 ((0 : Int32)).toNatClampNeg r_1.toInt64) := ⟨_, rfl⟩
    have hP : va_P (dC, dI) vwCl [(ou, .inl (cL, 1, .inr (.inl f_3)))] H := by rw [ef_3]; exact hP
    have hD : va_D A [(ou, .inl (cL, 1, .inr (.inl f_3)))] := by rw [ef_3]; exact hD
    refine lv_goto (tgt := 19) hx hb dL_runCounters_12 (by decide) ?_
    refine lv_iconst (v := 0) hx hb dL_runCounters_19 (by decide) ?_
    refine vx_ret ?_
    have hP9 := hP.sub (ws' := [(ou, .inl (cL, 1, .inr (.inl f_3)))]) [0] rfl
    have hD9 := hD.sub (ws' := [(ou, .inl (cL, 1, .inr (.inl f_3)))]) [0] (by decide) rfl
    have hK9 := hK.sub (tys' := [(cL, .long)]) [1] rfl
    exact W.iret (v := 0) hx hb hr (fun t ht hW => ⟨⟨0, f_3, rfl, Or.inl ⟨rfl, hw_2.2, by rw [ef_3, hw_2.1]; exact up0⟩, ⟨by rw [ht]; exact hP9, va_K.moved hW.alike hK9, hD9⟩⟩, hS.F ht⟩) hS.2.2 dL_runCounters_20

set_option maxHeartbeats 4000000 in
set_option maxRecDepth 100000 in
/-- L_register -/
theorem c_L_register (l : Launch) (hfl : l.stackTraces = false) (dC : Nat → ClassId) (dI : Nat → Nat → Nat) (cI : ClassId) (ya ms ju li ct tg fw : Nat) (cr cu cg cp co : Nat) (a1 : Int32) (cL : ClassId) (ou : Nat) (of9 : Nat → Int64) (sz : Nat) : vx_Met l yL_register wsL_register ({ frames := 7, cells := 1, slots := 6, locals := 121 }) (va_Pc [.ref ya, .int a1, .ref ou] (cPCz (zX) dC dI [(ya, .inr (16, [.ref ms, .int 0, .ref ju, .ref li, .ref ct, .ref tg, .ref fw])), (ct, .inr (5, [.int 0, .ref cr, .ref cu, .ref cg, .ref cp, .ref co])), (cr, .inl (cI, 4, .inl (fun _ => 0))), (ou, .inl (cL, 1, .inr (.inl of9)))] [(cI, .int), (cL, .long)] sz)) (va_Qi (fun (r : Int32) (u : Nat → Int64) => (r = 0 ∧ pReg a1 ∧ u 0 = (0 : Int32).toInt64) ∨ (r = 1 ∧ ¬ pReg a1)) (fun (u : Nat → Int64) t => cQB dC dI [(ou, .inl (cL, 1, .inr (.inl u)))] [(cL, .long)] (va_A [(ya, .inr (16, [.ref ms, .int 0, .ref ju, .ref li, .ref ct, .ref tg, .ref fw])), (ct, .inr (5, [.int 0, .ref cr, .ref cu, .ref cg, .ref cp, .ref co])), (cr, .inl (cI, 4, .inl (fun _ => 0))), (ou, .inl (cL, 1, .inr (.inl of9)))] sz) t) (va_A [(ya, .inr (16, [.ref ms, .int 0, .ref ju, .ref li, .ref ct, .ref tg, .ref fw])), (ct, .inr (5, [.int 0, .ref cr, .ref cu, .ref cg, .ref cp, .ref co])), (cr, .inl (cI, 4, .inl (fun _ => 0))), (ou, .inl (cL, 1, .inr (.inl of9)))] sz)) (vx_X (fun (_ : Unit) => True) (fun (E9 : String) (_ : Unit) (_ : State) => False) (va_A [(ya, .inr (16, [.ref ms, .int 0, .ref ju, .ref li, .ref ct, .ref tg, .ref fw])), (ct, .inr (5, [.int 0, .ref cr, .ref cu, .ref cg, .ref cp, .ref co])), (cr, .inl (cI, 4, .inl (fun _ => 0))), (ou, .inl (cL, 1, .inr (.inl of9)))] sz)) 1 6 (va_A [(ya, .inr (16, [.ref ms, .int 0, .ref ju, .ref li, .ref ct, .ref tg, .ref fw])), (ct, .inr (5, [.int 0, .ref cr, .ref cu, .ref cg, .ref cp, .ref co])), (cr, .inl (cI, 4, .inl (fun _ => 0))), (ou, .inl (cL, 1, .inr (.inl of9)))] sz) := by
  refine vx_ofWH (cc := cL_register) (maxL := 4) (ret := (some .int)) (hh := [(0, 9, 12, 21)]) (by decide) rfl ?_
  intro p e s m args below meth c s₁ B hml hv
  obtain ⟨rfl, ⟨hsz, hP, hK, hD0, hN⟩, hZ⟩ := hv
  have hx := B.exec
  have hb := B.bytes
  have hr := B.returns
  have hts := atoms_spec (ws := wsL_register) B.pre
  have hown : s.vm.findClass RL = some m.cls := findClass_of_methodNamed B.named
  have hlocks := B.notSynchronized
  subst hsz
  have hD := hD0.self (sz := s.heap.size)
  generalize hAe : va_A [(ya, .inr (16, [.ref ms, .int 0, .ref ju, .ref li, .ref ct, .ref tg, .ref fw])), (ct, .inr (5, [.int 0, .ref cr, .ref cu, .ref cg, .ref cp, .ref co])), (cr, .inl (cI, 4, .inl (fun _ => 0))), (ou, .inl (cL, 1, .inr (.inl of9)))] s.heap.size = A at hD hZ ⊢
  have hA : ∀ q : Nat, s.heap.size ≤ q → A q := fun q h => by rw [← hAe]; exact Or.inr h
  have hS : va_S A s.heap s.heap [] := va_S.rf
  have hP : va_P (dC, dI) vwCl [(ya, .inr (16, [.ref ms, .int 0, .ref ju, .ref li, .ref ct, .ref tg, .ref fw])), (ct, .inr (5, [.int 0, .ref cr, .ref cu, .ref cg, .ref cp, .ref co])), (cr, .inl (cI, 4, .inl (fun _ => 0))), (ou, .inl (cL, 1, .inr (.inl of9)))] s.heap := hP
  have hD : va_D A [(ya, .inr (16, [.ref ms, .int 0, .ref ju, .ref li, .ref ct, .ref tg, .ref fw])), (ct, .inr (5, [.int 0, .ref cr, .ref cu, .ref cg, .ref cp, .ref co])), (cr, .inl (cI, 4, .inl (fun _ => 0))), (ou, .inl (cL, 1, .inr (.inl of9)))] := hD
  have hl := lv_entry ([.ref ya, .int a1, .ref ou]) (n := 4) (Nat.le_of_ble_eq_true rfl)
  rw [lg_entry_eq]
  generalize (lg_sl ([.ref ya, .int a1, .ref ou]) ++ List.replicate (4 - (lg_sl ([.ref ya, .int a1, .ref ou])).length) Slot.unset).toArray = ls at hl ⊢
  have hl : lv_has ls 4 [(0, .ref ya), (1, .int a1), (2, .ref ou)] := hl
  have htab : c.exceptionTable.toList = tableOf [(0, 9, 12, 21)] := vx_table (x := yL_register) B (hts (.codeWith yL_register cL_register 4 (some .int) [(0, 9, 12, 21)]) (show _ ∈ wsL_register from List.mem_cons_self))
  refine lv_aload_n hx hb dL_register_0 rfl (lv_at hl 2 rfl) ?_
  refine lv_iconst (v := 0) hx hb dL_register_1 (by decide) ?_
  refine lv_aload_n hx hb dL_register_2 rfl (lv_at hl 0 rfl) ?_
  refine lv_iload_n hx hb dL_register_3 rfl (lv_at hl 1 rfl) ?_
  have hPc := hP.sub (ws' := [(ya, .inr (16, [.ref ms, .int 0, .ref ju, .ref li, .ref ct, .ref tg, .ref fw])), (ct, .inr (5, [.int 0, .ref cr, .ref cu, .ref cg, .ref cp, .ref co])), (cr, .inl (cI, 4, .inl (fun _ => 0)))]) [0, 1, 2] rfl
  have hDc := hD.sub (ws' := [(ya, .inr (16, [.ref ms, .int 0, .ref ju, .ref li, .ref ct, .ref tg, .ref fw])), (ct, .inr (5, [.int 0, .ref cr, .ref cu, .ref cg, .ref cp, .ref co])), (cr, .inl (cI, 4, .inl (fun _ => 0)))]) [0, 1, 2] (by decide) rfl
  have hKc := hK.sub (tys' := [(cI, .int)]) [0] rfl
  have hFc := va_free (wc := [(ya, .inr (16, [.ref ms, .int 0, .ref ju, .ref li, .ref ct, .ref tg, .ref fw])), (ct, .inr (5, [.int 0, .ref cr, .ref cu, .ref cg, .ref cp, .ref co])), (cr, .inl (cI, 4, .inl (fun _ => 0)))]) hD hS hA [0, 1, 2] rfl
  refine vx_calli (vx_runV (As := [.int a1]) (rest := [.int 0, .ref ou]) ⟨hx, hb, hml, hown, hts⟩ (c_X11_register l hfl dC dI cI ya ms ju li ct tg fw cr cu cg cp co a1 s.heap.size) (cwV 1 hts gL_register_X11_register rfl rfl rfl (by decide +kernel) ⟨Nat.le_of_ble_eq_true rfl, Nat.le_of_ble_eq_true rfl⟩) (pcVz (zX_ok) hPc hDc hKc hN hZ hS hFc (ci := 16) (q0 := 0) rfl rfl) rfl rfl hl.1 rfl (lv_room (Nat.le_of_ble_eq_true rfl)) dL_register_4 ⟨Nat.le_of_ble_eq_true rfl, Nat.le_of_ble_eq_true rfl⟩) hS (fun q _ h => hFc q h) hFc (fun q _ h => hFc q h) (fun E9 ce9 q9 u9 t9 H9 locs9 ht9 hvm9 hp9 hE9 hz9 hk9 hS9 hc9 hv9 hcl9 => ?_) (fun r_1 u t H1 locs ht hvm hw_2 hB hz1 hk1 hS => ?_)
  · obtain ⟨rfl, hno⟩ := hE9
    refine vx_catch (name := "java/lang/IndexOutOfBoundsException") hown [] ⟨0, 9, 12, 21⟩ [] htab (fun z hz => by cases hz) (by decide) (by decide) (hts (.classLink RL 21 "java/lang/IndexOutOfBoundsException") (by decide +kernel)) (zX_use hZ (.castable "java/lang/IndexOutOfBoundsException" "java/lang/IndexOutOfBoundsException") (by decide)) hc9 hv9 hcl9 ?_
    refine W.eq (g2 := F0 m 12 ls [.ref q9]) rfl ?_
    obtain ⟨hP, hD⟩ := va_join (wr := [(ou, .inl (cL, 1, .inr (.inl of9)))]) (w1 := []) hP hD [0, 1, 2] [3] rfl rfl (by decide) (by decide) hk9 hFc P_nil D_nil
    have hS := hS9
    generalize H9 = H at hP hS ⊢
    have hP : va_P (dC, dI) vwCl [(ou, .inl (cL, 1, .inr (.inl of9)))] H := hP
    have hD : va_D A [(ou, .inl (cL, 1, .inr (.inl of9)))] := hD
    refine W.widen (k := 1) (n := 6) (Nat.le_of_ble_eq_true rfl) (Nat.le_of_ble_eq_true rfl) ?_
    refine lv_astore_n (lv' := [(3, .ref q9), (0, .ref ya), (1, .int a1), (2, .ref ou)]) hx hb dL_register_12 rfl hl (by decide) rfl (fun ls hl => ?_)
    refine lv_iconst (v := 1) hx hb dL_register_13 (by decide) ?_
    refine vx_ret ?_
    have hP9 := hP.sub (ws' := [(ou, .inl (cL, 1, .inr (.inl of9)))]) [0] rfl
    have hD9 := hD.sub (ws' := [(ou, .inl (cL, 1, .inr (.inl of9)))]) [0] (by decide) rfl
    have hK9 := hK.sub (tys' := [(cL, .long)]) [1] rfl
    exact W.iret (v := 1) hx hb hr (fun t ht hW => ⟨⟨1, of9, rfl, Or.inr ⟨rfl, hno⟩, ⟨by rw [ht]; exact hP9, va_K.moved hW.alike hK9, hD9⟩⟩, hS.F ht⟩) hS.2.2 dL_register_14
  · skip
    obtain ⟨hP1, hK1, hD1⟩ := hB
    rw [ht] at hP1
    try dsimp only at hw_2
    obtain ⟨hP, hD⟩ := va_join (wr := [(ou, .inl (cL, 1, .inr (.inl of9)))]) (w1 := []) hP hD [0, 1, 2] [3] rfl rfl (by decide) (by decide) hk1 hFc hP1 hD1
    generalize H1 = H at hP hS ⊢
    have hP : va_P (dC, dI) vwCl [(ou, .inl (cL, 1, .inr (.inl of9)))] H := hP
    have hD : va_D A [(ou, .inl (cL, 1, .inr (.inl of9)))] := hD
    refine W.widen (k := 1) (n := 6) (Nat.le_of_ble_eq_true rfl) (Nat.le_of_ble_eq_true rfl) ?_
    refine lv_i2l hx hb dL_register_7 rfl ?_
    refine va_last hx hb hK hP hD hS 0 1 rfl rfl (show vp_in (nI 0) 1 from vp_in_nI (by decide) (by decide)) dL_register_8 (fun H locs hP hD hS => ?_)
    obtain ⟨f_3, ef_3⟩ : ∃ z, z = (vp_updL of9 ((0 : Int32)).toNatClampNeg r_1.toInt64) := ⟨_, rfl⟩
    have hP : va_P (dC, dI) vwCl [(ou, .inl (cL, 1, .inr (.inl f_3)))] H := by rw [ef_3]; exact hP
    have hD : va_D A [(ou, .inl (cL, 1, .inr (.inl f_3)))] := by rw [ef_3]; exact hD
    refine lv_goto (tgt := 15) hx hb dL_register_9 (by decide) ?_
    refine lv_iconst (v := 0) hx hb dL_register_15 (by decide) ?_
    refine vx_ret ?_
    have hP9 := hP.sub (ws' := [(ou, .inl (cL, 1, .inr (.inl f_3)))]) [0] rfl
    have hD9 := hD.sub (ws' := [(ou, .inl (cL, 1, .inr (.inl f_3)))]) [0] (by decide) rfl
    have hK9 := hK.sub (tys' := [(cL, .long)]) [1] rfl
    exact W.iret (v := 0) hx hb hr (fun t ht hW => ⟨⟨0, f_3, rfl, Or.inl ⟨rfl, hw_2.2, by rw [ef_3, hw_2.1]; exact up0⟩, ⟨by rw [ht]; exact hP9, va_K.moved hW.alike hK9, hD9⟩⟩, hS.F ht⟩) hS.2.2 dL_register_16

set_option maxHeartbeats 4000000 in
set_option maxRecDepth 100000 in
/-- L_tagRow -/
theorem c_L_tagRow (l : Launch) (hfl : l.stackTraces = false) (dC : Nat → ClassId) (dI : Nat → Nat → Nat) (cI : ClassId) (ya ms ju li ct tg fw : Nat) (ts tr tk te : Nat) (f1 : Nat → Int32) (a1 a2 : Int32) (cL : ClassId) (ou : Nat) (of9 : Nat → Int64) (sz : Nat) : vx_Met l yL_tagRow wsL_tagRow ({ frames := 8, cells := 1, slots := 6, locals := 142 }) (va_Pc [.ref ya, .int a1, .int a2, .ref ou] (cPCz (zX) dC dI [(ya, .inr (16, [.ref ms, .int 0, .ref ju, .ref li, .ref ct, .ref tg, .ref fw])), (tg, .inr (14, [.int 0, .int 0, .ref ts, .ref tr, .ref tk, .ref te])), (tr, .inl (cI, 24, .inl f1)), (tk, .inl (cI, 4, .inl (fun _ => 0))), (ou, .inl (cL, 1, .inr (.inl of9)))] [(cI, .int), (cL, .long)] sz)) (va_Qi (fun (r : Int32) (u : Nat → Int64) => (r = 0 ∧ (pLetter a1 ∧ pLetter a2) ∧ u 0 = (1 : Int32).toInt64) ∨ (r = 1 ∧ ¬ (pLetter a1 ∧ pLetter a2))) (fun (u : Nat → Int64) t => cQB dC dI [(ou, .inl (cL, 1, .inr (.inl u)))] [(cL, .long)] (va_A [(ya, .inr (16, [.ref ms, .int 0, .ref ju, .ref li, .ref ct, .ref tg, .ref fw])), (tg, .inr (14, [.int 0, .int 0, .ref ts, .ref tr, .ref tk, .ref te])), (tr, .inl (cI, 24, .inl f1)), (tk, .inl (cI, 4, .inl (fun _ => 0))), (ou, .inl (cL, 1, .inr (.inl of9)))] sz) t) (va_A [(ya, .inr (16, [.ref ms, .int 0, .ref ju, .ref li, .ref ct, .ref tg, .ref fw])), (tg, .inr (14, [.int 0, .int 0, .ref ts, .ref tr, .ref tk, .ref te])), (tr, .inl (cI, 24, .inl f1)), (tk, .inl (cI, 4, .inl (fun _ => 0))), (ou, .inl (cL, 1, .inr (.inl of9)))] sz)) (vx_X (fun (_ : Unit) => True) (fun (E9 : String) (_ : Unit) (_ : State) => False) (va_A [(ya, .inr (16, [.ref ms, .int 0, .ref ju, .ref li, .ref ct, .ref tg, .ref fw])), (tg, .inr (14, [.int 0, .int 0, .ref ts, .ref tr, .ref tk, .ref te])), (tr, .inl (cI, 24, .inl f1)), (tk, .inl (cI, 4, .inl (fun _ => 0))), (ou, .inl (cL, 1, .inr (.inl of9)))] sz)) 1 6 (va_A [(ya, .inr (16, [.ref ms, .int 0, .ref ju, .ref li, .ref ct, .ref tg, .ref fw])), (tg, .inr (14, [.int 0, .int 0, .ref ts, .ref tr, .ref tk, .ref te])), (tr, .inl (cI, 24, .inl f1)), (tk, .inl (cI, 4, .inl (fun _ => 0))), (ou, .inl (cL, 1, .inr (.inl of9)))] sz) := by
  refine vx_ofWH (cc := cL_tagRow) (maxL := 5) (ret := (some .int)) (hh := [(0, 10, 13, 13), (0, 10, 17, 15)]) (by decide) rfl ?_
  intro p e s m args below meth c s₁ B hml hv
  obtain ⟨rfl, ⟨hsz, hP, hK, hD0, hN⟩, hZ⟩ := hv
  have hx := B.exec
  have hb := B.bytes
  have hr := B.returns
  have hts := atoms_spec (ws := wsL_tagRow) B.pre
  have hown : s.vm.findClass RL = some m.cls := findClass_of_methodNamed B.named
  have hlocks := B.notSynchronized
  subst hsz
  have hD := hD0.self (sz := s.heap.size)
  generalize hAe : va_A [(ya, .inr (16, [.ref ms, .int 0, .ref ju, .ref li, .ref ct, .ref tg, .ref fw])), (tg, .inr (14, [.int 0, .int 0, .ref ts, .ref tr, .ref tk, .ref te])), (tr, .inl (cI, 24, .inl f1)), (tk, .inl (cI, 4, .inl (fun _ => 0))), (ou, .inl (cL, 1, .inr (.inl of9)))] s.heap.size = A at hD hZ ⊢
  have hA : ∀ q : Nat, s.heap.size ≤ q → A q := fun q h => by rw [← hAe]; exact Or.inr h
  have hS : va_S A s.heap s.heap [] := va_S.rf
  have hP : va_P (dC, dI) vwCl [(ya, .inr (16, [.ref ms, .int 0, .ref ju, .ref li, .ref ct, .ref tg, .ref fw])), (tg, .inr (14, [.int 0, .int 0, .ref ts, .ref tr, .ref tk, .ref te])), (tr, .inl (cI, 24, .inl f1)), (tk, .inl (cI, 4, .inl (fun _ => 0))), (ou, .inl (cL, 1, .inr (.inl of9)))] s.heap := hP
  have hD : va_D A [(ya, .inr (16, [.ref ms, .int 0, .ref ju, .ref li, .ref ct, .ref tg, .ref fw])), (tg, .inr (14, [.int 0, .int 0, .ref ts, .ref tr, .ref tk, .ref te])), (tr, .inl (cI, 24, .inl f1)), (tk, .inl (cI, 4, .inl (fun _ => 0))), (ou, .inl (cL, 1, .inr (.inl of9)))] := hD
  have hl := lv_entry ([.ref ya, .int a1, .int a2, .ref ou]) (n := 5) (Nat.le_of_ble_eq_true rfl)
  rw [lg_entry_eq]
  generalize (lg_sl ([.ref ya, .int a1, .int a2, .ref ou]) ++ List.replicate (5 - (lg_sl ([.ref ya, .int a1, .int a2, .ref ou])).length) Slot.unset).toArray = ls at hl ⊢
  have hl : lv_has ls 5 [(0, .ref ya), (1, .int a1), (2, .int a2), (3, .ref ou)] := hl
  have htab : c.exceptionTable.toList = tableOf [(0, 10, 13, 13), (0, 10, 17, 15)] := vx_table (x := yL_tagRow) B (hts (.codeWith yL_tagRow cL_tagRow 5 (some .int) [(0, 10, 13, 13), (0, 10, 17, 15)]) (show _ ∈ wsL_tagRow from List.mem_cons_self))
  refine lv_aload_n hx hb dL_tagRow_0 rfl (lv_at hl 3 rfl) ?_
  refine lv_iconst (v := 0) hx hb dL_tagRow_1 (by decide) ?_
  refine lv_aload_n hx hb dL_tagRow_2 rfl (lv_at hl 0 rfl) ?_
  refine lv_iload_n hx hb dL_tagRow_3 rfl (lv_at hl 1 rfl) ?_
  refine lv_iload_n hx hb dL_tagRow_4 rfl (lv_at hl 2 rfl) ?_
  have hPc := hP.sub (ws' := [(ya, .inr (16, [.ref ms, .int 0, .ref ju, .ref li, .ref ct, .ref tg, .ref fw])), (tg, .inr (14, [.int 0, .int 0, .ref ts, .ref tr, .ref tk, .ref te])), (tr, .inl (cI, 24, .inl f1)), (tk, .inl (cI, 4, .inl (fun _ => 0)))]) [0, 1, 2, 3] rfl
  have hDc := hD.sub (ws' := [(ya, .inr (16, [.ref ms, .int 0, .ref ju, .ref li, .ref ct, .ref tg, .ref fw])), (tg, .inr (14, [.int 0, .int 0, .ref ts, .ref tr, .ref tk, .ref te])), (tr, .inl (cI, 24, .inl f1)), (tk, .inl (cI, 4, .inl (fun _ => 0)))]) [0, 1, 2, 3] (by decide) rfl
  have hKc := hK.sub (tys' := [(cI, .int)]) [0] rfl
  have hFc := va_free (wc := [(ya, .inr (16, [.ref ms, .int 0, .ref ju, .ref li, .ref ct, .ref tg, .ref fw])), (tg, .inr (14, [.int 0, .int 0, .ref ts, .ref tr, .ref tk, .ref te])), (tr, .inl (cI, 24, .inl f1)), (tk, .inl (cI, 4, .inl (fun _ => 0)))]) hD hS hA [0, 1, 2, 3] rfl
  refine vx_calli (vx_runV (As := [.int a1, .int a2]) (rest := [.int 0, .ref ou]) ⟨hx, hb, hml, hown, hts⟩ (c_X11_tagRow l hfl dC dI cI ya ms ju li ct tg fw ts tr tk te f1 a1 a2 s.heap.size) (cwV 2 hts gL_tagRow_X11_tagRow rfl rfl rfl (by decide +kernel) ⟨Nat.le_of_ble_eq_true rfl, Nat.le_of_ble_eq_true rfl⟩) (pcVz (zX_ok) hPc hDc hKc hN hZ hS hFc (ci := 16) (q0 := 0) rfl rfl) rfl rfl hl.1 rfl (lv_room (Nat.le_of_ble_eq_true rfl)) dL_tagRow_5 ⟨Nat.le_of_ble_eq_true rfl, Nat.le_of_ble_eq_true rfl⟩) hS (fun q _ h => hFc q h) hFc (fun q _ h => hFc q h) (fun E9 ce9 q9 u9 t9 H9 locs9 ht9 hvm9 hp9 hE9 hz9 hk9 hS9 hc9 hv9 hcl9 => ?_) (fun r_1 u t H1 locs ht hvm hw_2 hB hz1 hk1 hS => ?_)
  · obtain ⟨rfl, hno⟩ := hE9
    refine vx_catch (name := "java/lang/IllegalArgumentException") hown [] ⟨0, 10, 13, 13⟩ [⟨0, 10, 17, 15⟩] htab (fun z hz => by cases hz) (by decide) (by decide) (hts (.classLink RL 13 "java/lang/IllegalArgumentException") (by decide +kernel)) (zX_use hZ (.castable "java/lang/IllegalArgumentException" "java/lang/IllegalArgumentException") (by decide)) hc9 hv9 hcl9 ?_
    refine W.eq (g2 := F0 m 13 ls [.ref q9]) rfl ?_
    obtain ⟨hP, hD⟩ := va_join (wr := [(ou, .inl (cL, 1, .inr (.inl of9)))]) (w1 := []) hP hD [0, 1, 2, 3] [4] rfl rfl (by decide) (by decide) hk9 hFc P_nil D_nil
    have hS := hS9
    generalize H9 = H at hP hS ⊢
    have hP : va_P (dC, dI) vwCl [(ou, .inl (cL, 1, .inr (.inl of9)))] H := hP
    have hD : va_D A [(ou, .inl (cL, 1, .inr (.inl of9)))] := hD
    refine W.widen (k := 1) (n := 6) (Nat.le_of_ble_eq_true rfl) (Nat.le_of_ble_eq_true rfl) ?_
    refine lv_astore (lv' := [(4, .ref q9), (0, .ref ya), (1, .int a1), (2, .int a2), (3, .ref ou)]) hx hb dL_tagRow_13 hl (by decide) rfl (fun ls hl => ?_)
    refine lv_iconst (v := 1) hx hb dL_tagRow_15 (by decide) ?_
    refine vx_ret ?_
    have hP9 := hP.sub (ws' := [(ou, .inl (cL, 1, .inr (.inl of9)))]) [0] rfl
    have hD9 := hD.sub (ws' := [(ou, .inl (cL, 1, .inr (.inl of9)))]) [0] (by decide) rfl
    have hK9 := hK.sub (tys' := [(cL, .long)]) [1] rfl
    exact W.iret (v := 1) hx hb hr (fun t ht hW => ⟨⟨1, of9, rfl, Or.inr ⟨rfl, hno⟩, ⟨by rw [ht]; exact hP9, va_K.moved hW.alike hK9, hD9⟩⟩, hS.F ht⟩) hS.2.2 dL_tagRow_16
  · skip
    obtain ⟨hP1, hK1, hD1⟩ := hB
    rw [ht] at hP1
    try dsimp only at hw_2
    obtain ⟨hP, hD⟩ := va_join (wr := [(ou, .inl (cL, 1, .inr (.inl of9)))]) (w1 := []) hP hD [0, 1, 2, 3] [4] rfl rfl (by decide) (by decide) hk1 hFc hP1 hD1
    generalize H1 = H at hP hS ⊢
    have hP : va_P (dC, dI) vwCl [(ou, .inl (cL, 1, .inr (.inl of9)))] H := hP
    have hD : va_D A [(ou, .inl (cL, 1, .inr (.inl of9)))] := hD
    refine W.widen (k := 1) (n := 6) (Nat.le_of_ble_eq_true rfl) (Nat.le_of_ble_eq_true rfl) ?_
    refine lv_i2l hx hb dL_tagRow_8 rfl ?_
    refine va_last hx hb hK hP hD hS 0 1 rfl rfl (show vp_in (nI 0) 1 from vp_in_nI (by decide) (by decide)) dL_tagRow_9 (fun H locs hP hD hS => ?_)
    obtain ⟨f_3, ef_3⟩ : ∃ z, z = (vp_updL of9 ((0 : Int32)).toNatClampNeg r_1.toInt64) := ⟨_, rfl⟩
    have hP : va_P (dC, dI) vwCl [(ou, .inl (cL, 1, .inr (.inl f_3)))] H := by rw [ef_3]; exact hP
    have hD : va_D A [(ou, .inl (cL, 1, .inr (.inl f_3)))] := by rw [ef_3]; exact hD
    refine lv_goto (tgt := 21) hx hb dL_tagRow_10 (by decide) ?_
    refine lv_iconst (v := 0) hx hb dL_tagRow_21 (by decide) ?_
    refine vx_ret ?_
    have hP9 := hP.sub (ws' := [(ou, .inl (cL, 1, .inr (.inl f_3)))]) [0] rfl
    have hD9 := hD.sub (ws' := [(ou, .inl (cL, 1, .inr (.inl f_3)))]) [0] (by decide) rfl
    have hK9 := hK.sub (tys' := [(cL, .long)]) [1] rfl
    exact W.iret (v := 0) hx hb hr (fun t ht hW => ⟨⟨0, f_3, rfl, Or.inl ⟨rfl, hw_2.2, by rw [ef_3, hw_2.1]; exact up0⟩, ⟨by rw [ht]; exact hP9, va_K.moved hW.alike hK9, hD9⟩⟩, hS.F ht⟩) hS.2.2 dL_tagRow_22

set_option maxHeartbeats 4000000 in
set_option maxRecDepth 100000 in
/-- L_tagStart -/
theorem c_L_tagStart (l : Launch) (hfl : l.stackTraces = false) (dC : Nat → ClassId) (dI : Nat → Nat → Nat) (cI : ClassId) (ya ms ju li ct tg fw : Nat) (ts tr tk te : Nat) (f1 : Nat → Int32) (a1 : Int32) (cL : ClassId) (ou : Nat) (of9 : Nat → Int64) (sz : Nat) : vx_Met l yL_tagStart wsL_tagStart ({ frames := 8, cells := 1, slots := 6, locals := 141 }) (va_Pc [.ref ya, .int a1, .ref ou] (cPCz (zX) dC dI [(ya, .inr (16, [.ref ms, .int 0, .ref ju, .ref li, .ref ct, .ref tg, .ref fw])), (tg, .inr (14, [.int 0, .int 0, .ref ts, .ref tr, .ref tk, .ref te])), (ts, .inl (cI, 40, .inl f1)), (ou, .inl (cL, 1, .inr (.inl of9)))] [(cI, .int), (cL, .long)] sz)) (va_Qi (fun (r : Int32) (u : Nat → Int64) => (r = 0 ∧ pLetter a1 ∧ u 0 = (1 : Int32).toInt64) ∨ (r = 1 ∧ ¬ pLetter a1)) (fun (u : Nat → Int64) t => cQB dC dI [(ou, .inl (cL, 1, .inr (.inl u)))] [(cL, .long)] (va_A [(ya, .inr (16, [.ref ms, .int 0, .ref ju, .ref li, .ref ct, .ref tg, .ref fw])), (tg, .inr (14, [.int 0, .int 0, .ref ts, .ref tr, .ref tk, .ref te])), (ts, .inl (cI, 40, .inl f1)), (ou, .inl (cL, 1, .inr (.inl of9)))] sz) t) (va_A [(ya, .inr (16, [.ref ms, .int 0, .ref ju, .ref li, .ref ct, .ref tg, .ref fw])), (tg, .inr (14, [.int 0, .int 0, .ref ts, .ref tr, .ref tk, .ref te])), (ts, .inl (cI, 40, .inl f1)), (ou, .inl (cL, 1, .inr (.inl of9)))] sz)) (vx_X (fun (_ : Unit) => True) (fun (E9 : String) (_ : Unit) (_ : State) => False) (va_A [(ya, .inr (16, [.ref ms, .int 0, .ref ju, .ref li, .ref ct, .ref tg, .ref fw])), (tg, .inr (14, [.int 0, .int 0, .ref ts, .ref tr, .ref tk, .ref te])), (ts, .inl (cI, 40, .inl f1)), (ou, .inl (cL, 1, .inr (.inl of9)))] sz)) 1 6 (va_A [(ya, .inr (16, [.ref ms, .int 0, .ref ju, .ref li, .ref ct, .ref tg, .ref fw])), (tg, .inr (14, [.int 0, .int 0, .ref ts, .ref tr, .ref tk, .ref te])), (ts, .inl (cI, 40, .inl f1)), (ou, .inl (cL, 1, .inr (.inl of9)))] sz) := by
  refine vx_ofWH (cc := cL_tagStart) (maxL := 4) (ret := (some .int)) (hh := [(0, 9, 12, 13), (0, 9, 15, 15)]) (by decide) rfl ?_
  intro p e s m args below meth c s₁ B hml hv
  obtain ⟨rfl, ⟨hsz, hP, hK, hD0, hN⟩, hZ⟩ := hv
  have hx := B.exec
  have hb := B.bytes
  have hr := B.returns
  have hts := atoms_spec (ws := wsL_tagStart) B.pre
  have hown : s.vm.findClass RL = some m.cls := findClass_of_methodNamed B.named
  have hlocks := B.notSynchronized
  subst hsz
  have hD := hD0.self (sz := s.heap.size)
  generalize hAe : va_A [(ya, .inr (16, [.ref ms, .int 0, .ref ju, .ref li, .ref ct, .ref tg, .ref fw])), (tg, .inr (14, [.int 0, .int 0, .ref ts, .ref tr, .ref tk, .ref te])), (ts, .inl (cI, 40, .inl f1)), (ou, .inl (cL, 1, .inr (.inl of9)))] s.heap.size = A at hD hZ ⊢
  have hA : ∀ q : Nat, s.heap.size ≤ q → A q := fun q h => by rw [← hAe]; exact Or.inr h
  have hS : va_S A s.heap s.heap [] := va_S.rf
  have hP : va_P (dC, dI) vwCl [(ya, .inr (16, [.ref ms, .int 0, .ref ju, .ref li, .ref ct, .ref tg, .ref fw])), (tg, .inr (14, [.int 0, .int 0, .ref ts, .ref tr, .ref tk, .ref te])), (ts, .inl (cI, 40, .inl f1)), (ou, .inl (cL, 1, .inr (.inl of9)))] s.heap := hP
  have hD : va_D A [(ya, .inr (16, [.ref ms, .int 0, .ref ju, .ref li, .ref ct, .ref tg, .ref fw])), (tg, .inr (14, [.int 0, .int 0, .ref ts, .ref tr, .ref tk, .ref te])), (ts, .inl (cI, 40, .inl f1)), (ou, .inl (cL, 1, .inr (.inl of9)))] := hD
  have hl := lv_entry ([.ref ya, .int a1, .ref ou]) (n := 4) (Nat.le_of_ble_eq_true rfl)
  rw [lg_entry_eq]
  generalize (lg_sl ([.ref ya, .int a1, .ref ou]) ++ List.replicate (4 - (lg_sl ([.ref ya, .int a1, .ref ou])).length) Slot.unset).toArray = ls at hl ⊢
  have hl : lv_has ls 4 [(0, .ref ya), (1, .int a1), (2, .ref ou)] := hl
  have htab : c.exceptionTable.toList = tableOf [(0, 9, 12, 13), (0, 9, 15, 15)] := vx_table (x := yL_tagStart) B (hts (.codeWith yL_tagStart cL_tagStart 4 (some .int) [(0, 9, 12, 13), (0, 9, 15, 15)]) (show _ ∈ wsL_tagStart from List.mem_cons_self))
  refine lv_aload_n hx hb dL_tagStart_0 rfl (lv_at hl 2 rfl) ?_
  refine lv_iconst (v := 0) hx hb dL_tagStart_1 (by decide) ?_
  refine lv_aload_n hx hb dL_tagStart_2 rfl (lv_at hl 0 rfl) ?_
  refine lv_iload_n hx hb dL_tagStart_3 rfl (lv_at hl 1 rfl) ?_
  have hPc := hP.sub (ws' := [(ya, .inr (16, [.ref ms, .int 0, .ref ju, .ref li, .ref ct, .ref tg, .ref fw])), (tg, .inr (14, [.int 0, .int 0, .ref ts, .ref tr, .ref tk, .ref te])), (ts, .inl (cI, 40, .inl f1))]) [0, 1, 2] rfl
  have hDc := hD.sub (ws' := [(ya, .inr (16, [.ref ms, .int 0, .ref ju, .ref li, .ref ct, .ref tg, .ref fw])), (tg, .inr (14, [.int 0, .int 0, .ref ts, .ref tr, .ref tk, .ref te])), (ts, .inl (cI, 40, .inl f1))]) [0, 1, 2] (by decide) rfl
  have hKc := hK.sub (tys' := [(cI, .int)]) [0] rfl
  have hFc := va_free (wc := [(ya, .inr (16, [.ref ms, .int 0, .ref ju, .ref li, .ref ct, .ref tg, .ref fw])), (tg, .inr (14, [.int 0, .int 0, .ref ts, .ref tr, .ref tk, .ref te])), (ts, .inl (cI, 40, .inl f1))]) hD hS hA [0, 1, 2] rfl
  refine vx_calli (vx_runV (As := [.int a1]) (rest := [.int 0, .ref ou]) ⟨hx, hb, hml, hown, hts⟩ (c_X11_tagStart l hfl dC dI cI ya ms ju li ct tg fw ts tr tk te f1 a1 s.heap.size) (cwV 1 hts gL_tagStart_X11_tagStart rfl rfl rfl (by decide +kernel) ⟨Nat.le_of_ble_eq_true rfl, Nat.le_of_ble_eq_true rfl⟩) (pcVz (zX_ok) hPc hDc hKc hN hZ hS hFc (ci := 16) (q0 := 0) rfl rfl) rfl rfl hl.1 rfl (lv_room (Nat.le_of_ble_eq_true rfl)) dL_tagStart_4 ⟨Nat.le_of_ble_eq_true rfl, Nat.le_of_ble_eq_true rfl⟩) hS (fun q _ h => hFc q h) hFc (fun q _ h => hFc q h) (fun E9 ce9 q9 u9 t9 H9 locs9 ht9 hvm9 hp9 hE9 hz9 hk9 hS9 hc9 hv9 hcl9 => ?_) (fun r_1 u t H1 locs ht hvm hw_2 hB hz1 hk1 hS => ?_)
  · obtain ⟨rfl, hno⟩ := hE9
    refine vx_catch (name := "java/lang/IllegalArgumentException") hown [] ⟨0, 9, 12, 13⟩ [⟨0, 9, 15, 15⟩] htab (fun z hz => by cases hz) (by decide) (by decide) (hts (.classLink RL 13 "java/lang/IllegalArgumentException") (by decide +kernel)) (zX_use hZ (.castable "java/lang/IllegalArgumentException" "java/lang/IllegalArgumentException") (by decide)) hc9 hv9 hcl9 ?_
    refine W.eq (g2 := F0 m 12 ls [.ref q9]) rfl ?_
    obtain ⟨hP, hD⟩ := va_join (wr := [(ou, .inl (cL, 1, .inr (.inl of9)))]) (w1 := []) hP hD [0, 1, 2] [3] rfl rfl (by decide) (by decide) hk9 hFc P_nil D_nil
    have hS := hS9
    generalize H9 = H at hP hS ⊢
    have hP : va_P (dC, dI) vwCl [(ou, .inl (cL, 1, .inr (.inl of9)))] H := hP
    have hD : va_D A [(ou, .inl (cL, 1, .inr (.inl of9)))] := hD
    refine W.widen (k := 1) (n := 6) (Nat.le_of_ble_eq_true rfl) (Nat.le_of_ble_eq_true rfl) ?_
    refine lv_astore_n (lv' := [(3, .ref q9), (0, .ref ya), (1, .int a1), (2, .ref ou)]) hx hb dL_tagStart_12 rfl hl (by decide) rfl (fun ls hl => ?_)
    refine lv_iconst (v := 1) hx hb dL_tagStart_13 (by decide) ?_
    refine vx_ret ?_
    have hP9 := hP.sub (ws' := [(ou, .inl (cL, 1, .inr (.inl of9)))]) [0] rfl
    have hD9 := hD.sub (ws' := [(ou, .inl (cL, 1, .inr (.inl of9)))]) [0] (by decide) rfl
    have hK9 := hK.sub (tys' := [(cL, .long)]) [1] rfl
    exact W.iret (v := 1) hx hb hr (fun t ht hW => ⟨⟨1, of9, rfl, Or.inr ⟨rfl, hno⟩, ⟨by rw [ht]; exact hP9, va_K.moved hW.alike hK9, hD9⟩⟩, hS.F ht⟩) hS.2.2 dL_tagStart_14
  · skip
    obtain ⟨hP1, hK1, hD1⟩ := hB
    rw [ht] at hP1
    try dsimp only at hw_2
    obtain ⟨hP, hD⟩ := va_join (wr := [(ou, .inl (cL, 1, .inr (.inl of9)))]) (w1 := []) hP hD [0, 1, 2] [3] rfl rfl (by decide) (by decide) hk1 hFc hP1 hD1
    generalize H1 = H at hP hS ⊢
    have hP : va_P (dC, dI) vwCl [(ou, .inl (cL, 1, .inr (.inl of9)))] H := hP
    have hD : va_D A [(ou, .inl (cL, 1, .inr (.inl of9)))] := hD
    refine W.widen (k := 1) (n := 6) (Nat.le_of_ble_eq_true rfl) (Nat.le_of_ble_eq_true rfl) ?_
    refine lv_i2l hx hb dL_tagStart_7 rfl ?_
    refine va_last hx hb hK hP hD hS 0 1 rfl rfl (show vp_in (nI 0) 1 from vp_in_nI (by decide) (by decide)) dL_tagStart_8 (fun H locs hP hD hS => ?_)
    obtain ⟨f_3, ef_3⟩ : ∃ z, z = (vp_updL of9 ((0 : Int32)).toNatClampNeg r_1.toInt64) := ⟨_, rfl⟩
    have hP : va_P (dC, dI) vwCl [(ou, .inl (cL, 1, .inr (.inl f_3)))] H := by rw [ef_3]; exact hP
    have hD : va_D A [(ou, .inl (cL, 1, .inr (.inl f_3)))] := by rw [ef_3]; exact hD
    refine lv_goto (tgt := 18) hx hb dL_tagStart_9 (by decide) ?_
    refine lv_iconst (v := 0) hx hb dL_tagStart_18 (by decide) ?_
    refine vx_ret ?_
    have hP9 := hP.sub (ws' := [(ou, .inl (cL, 1, .inr (.inl f_3)))]) [0] rfl
    have hD9 := hD.sub (ws' := [(ou, .inl (cL, 1, .inr (.inl f_3)))]) [0] (by decide) rfl
    have hK9 := hK.sub (tys' := [(cL, .long)]) [1] rfl
    exact W.iret (v := 0) hx hb hr (fun t ht hW => ⟨⟨0, f_3, rfl, Or.inl ⟨rfl, hw_2.2, by rw [ef_3, hw_2.1]; exact up0⟩, ⟨by rw [ht]; exact hP9, va_K.moved hW.alike hK9, hD9⟩⟩, hS.F ht⟩) hS.2.2 dL_tagStart_19

set_option maxHeartbeats 4000000 in
set_option maxRecDepth 100000 in
/-- L_tag -/
theorem c_L_tag (l : Launch) (hfl : l.stackTraces = false) (dC : Nat → ClassId) (dI : Nat → Nat → Nat) (cI : ClassId) (ya ms ju li ct tg fw : Nat) (ts tr tk te : Nat) (f1 f2 : Nat → Int32) (a1 a2 : Int32) (cL : ClassId) (ou : Nat) (of9 : Nat → Int64) (sz : Nat) : vx_Met l yL_tag wsL_tag ({ frames := 8, cells := 2, slots := 12, locals := 142 }) (va_Pc [.ref ya, .int a1, .int a2, .ref ou] (cPCz (zX) dC dI [(ya, .inr (16, [.ref ms, .int 0, .ref ju, .ref li, .ref ct, .ref tg, .ref fw])), (tg, .inr (14, [.int 0, .int 0, .ref ts, .ref tr, .ref tk, .ref te])), (ts, .inl (cI, 40, .inl f1)), (tk, .inl (cI, 4, .inl (fun _ => 0))), (te, .inl (cI, 400, .inl f2)), (ou, .inl (cL, 1, .inr (.inl of9)))] [(cI, .int), (cL, .long)] sz)) (va_Qi (fun (r : Int32) (u : Nat → Int64) => (r = 0 ∧ pTag a1 a2 ∧ u 0 = (0 : Int32).toInt64) ∨ (r = 1 ∧ ¬ pTag a1 a2)) (fun (u : Nat → Int64) t => cQB dC dI [(ou, .inl (cL, 1, .inr (.inl u)))] [(cL, .long)] (va_A [(ya, .inr (16, [.ref ms, .int 0, .ref ju, .ref li, .ref ct, .ref tg, .ref fw])), (tg, .inr (14, [.int 0, .int 0, .ref ts, .ref tr, .ref tk, .ref te])), (ts, .inl (cI, 40, .inl f1)), (tk, .inl (cI, 4, .inl (fun _ => 0))), (te, .inl (cI, 400, .inl f2)), (ou, .inl (cL, 1, .inr (.inl of9)))] sz) t) (va_A [(ya, .inr (16, [.ref ms, .int 0, .ref ju, .ref li, .ref ct, .ref tg, .ref fw])), (tg, .inr (14, [.int 0, .int 0, .ref ts, .ref tr, .ref tk, .ref te])), (ts, .inl (cI, 40, .inl f1)), (tk, .inl (cI, 4, .inl (fun _ => 0))), (te, .inl (cI, 400, .inl f2)), (ou, .inl (cL, 1, .inr (.inl of9)))] sz)) (vx_X (fun (_ : Unit) => True) (fun (E9 : String) (_ : Unit) (_ : State) => False) (va_A [(ya, .inr (16, [.ref ms, .int 0, .ref ju, .ref li, .ref ct, .ref tg, .ref fw])), (tg, .inr (14, [.int 0, .int 0, .ref ts, .ref tr, .ref tk, .ref te])), (ts, .inl (cI, 40, .inl f1)), (tk, .inl (cI, 4, .inl (fun _ => 0))), (te, .inl (cI, 400, .inl f2)), (ou, .inl (cL, 1, .inr (.inl of9)))] sz)) 2 12 (va_A [(ya, .inr (16, [.ref ms, .int 0, .ref ju, .ref li, .ref ct, .ref tg, .ref fw])), (tg, .inr (14, [.int 0, .int 0, .ref ts, .ref tr, .ref tk, .ref te])), (ts, .inl (cI, 40, .inl f1)), (tk, .inl (cI, 4, .inl (fun _ => 0))), (te, .inl (cI, 400, .inl f2)), (ou, .inl (cL, 1, .inr (.inl of9)))] sz) := by
  refine vx_ofWH (cc := cL_tag) (maxL := 5) (ret := (some .int)) (hh := [(0, 10, 13, 13)]) (by decide) rfl ?_
  intro p e s m args below meth c s₁ B hml hv
  obtain ⟨rfl, ⟨hsz, hP, hK, hD0, hN⟩, hZ⟩ := hv
  have hx := B.exec
  have hb := B.bytes
  have hr := B.returns
  have hts := atoms_spec (ws := wsL_tag) B.pre
  have hown : s.vm.findClass RL = some m.cls := findClass_of_methodNamed B.named
  have hlocks := B.notSynchronized
  subst hsz
  have hD := hD0.self (sz := s.heap.size)
  generalize hAe : va_A [(ya, .inr (16, [.ref ms, .int 0, .ref ju, .ref li, .ref ct, .ref tg, .ref fw])), (tg, .inr (14, [.int 0, .int 0, .ref ts, .ref tr, .ref tk, .ref te])), (ts, .inl (cI, 40, .inl f1)), (tk, .inl (cI, 4, .inl (fun _ => 0))), (te, .inl (cI, 400, .inl f2)), (ou, .inl (cL, 1, .inr (.inl of9)))] s.heap.size = A at hD hZ ⊢
  have hA : ∀ q : Nat, s.heap.size ≤ q → A q := fun q h => by rw [← hAe]; exact Or.inr h
  have hS : va_S A s.heap s.heap [] := va_S.rf
  have hP : va_P (dC, dI) vwCl [(ya, .inr (16, [.ref ms, .int 0, .ref ju, .ref li, .ref ct, .ref tg, .ref fw])), (tg, .inr (14, [.int 0, .int 0, .ref ts, .ref tr, .ref tk, .ref te])), (ts, .inl (cI, 40, .inl f1)), (tk, .inl (cI, 4, .inl (fun _ => 0))), (te, .inl (cI, 400, .inl f2)), (ou, .inl (cL, 1, .inr (.inl of9)))] s.heap := hP
  have hD : va_D A [(ya, .inr (16, [.ref ms, .int 0, .ref ju, .ref li, .ref ct, .ref tg, .ref fw])), (tg, .inr (14, [.int 0, .int 0, .ref ts, .ref tr, .ref tk, .ref te])), (ts, .inl (cI, 40, .inl f1)), (tk, .inl (cI, 4, .inl (fun _ => 0))), (te, .inl (cI, 400, .inl f2)), (ou, .inl (cL, 1, .inr (.inl of9)))] := hD
  have hl := lv_entry ([.ref ya, .int a1, .int a2, .ref ou]) (n := 5) (Nat.le_of_ble_eq_true rfl)
  rw [lg_entry_eq]
  generalize (lg_sl ([.ref ya, .int a1, .int a2, .ref ou]) ++ List.replicate (5 - (lg_sl ([.ref ya, .int a1, .int a2, .ref ou])).length) Slot.unset).toArray = ls at hl ⊢
  have hl : lv_has ls 5 [(0, .ref ya), (1, .int a1), (2, .int a2), (3, .ref ou)] := hl
  have htab : c.exceptionTable.toList = tableOf [(0, 10, 13, 13)] := vx_table (x := yL_tag) B (hts (.codeWith yL_tag cL_tag 5 (some .int) [(0, 10, 13, 13)]) (show _ ∈ wsL_tag from List.mem_cons_self))
  refine lv_aload_n hx hb dL_tag_0 rfl (lv_at hl 3 rfl) ?_
  refine lv_iconst (v := 0) hx hb dL_tag_1 (by decide) ?_
  refine lv_aload_n hx hb dL_tag_2 rfl (lv_at hl 0 rfl) ?_
  refine lv_iload_n hx hb dL_tag_3 rfl (lv_at hl 1 rfl) ?_
  refine lv_iload_n hx hb dL_tag_4 rfl (lv_at hl 2 rfl) ?_
  have hPc := hP.sub (ws' := [(ya, .inr (16, [.ref ms, .int 0, .ref ju, .ref li, .ref ct, .ref tg, .ref fw])), (tg, .inr (14, [.int 0, .int 0, .ref ts, .ref tr, .ref tk, .ref te])), (ts, .inl (cI, 40, .inl f1)), (tk, .inl (cI, 4, .inl (fun _ => 0))), (te, .inl (cI, 400, .inl f2))]) [0, 1, 2, 3, 4] rfl
  have hDc := hD.sub (ws' := [(ya, .inr (16, [.ref ms, .int 0, .ref ju, .ref li, .ref ct, .ref tg, .ref fw])), (tg, .inr (14, [.int 0, .int 0, .ref ts, .ref tr, .ref tk, .ref te])), (ts, .inl (cI, 40, .inl f1)), (tk, .inl (cI, 4, .inl (fun _ => 0))), (te, .inl (cI, 400, .inl f2))]) [0, 1, 2, 3, 4] (by decide) rfl
  have hKc := hK.sub (tys' := [(cI, .int)]) [0] rfl
  have hFc := va_free (wc := [(ya, .inr (16, [.ref ms, .int 0, .ref ju, .ref li, .ref ct, .ref tg, .ref fw])), (tg, .inr (14, [.int 0, .int 0, .ref ts, .ref tr, .ref tk, .ref te])), (ts, .inl (cI, 40, .inl f1)), (tk, .inl (cI, 4, .inl (fun _ => 0))), (te, .inl (cI, 400, .inl f2))]) hD hS hA [0, 1, 2, 3, 4] rfl
  refine vx_calli (vx_runV (As := [.int a1, .int a2]) (rest := [.int 0, .ref ou]) ⟨hx, hb, hml, hown, hts⟩ (c_X11_tag l hfl dC dI cI ya ms ju li ct tg fw ts tr tk te f1 f2 a1 a2 s.heap.size) (cwV 2 hts gL_tag_X11_tag rfl rfl rfl (by decide +kernel) ⟨Nat.le_of_ble_eq_true rfl, Nat.le_of_ble_eq_true rfl⟩) (pcVz (zX_ok) hPc hDc hKc hN hZ hS hFc (ci := 16) (q0 := 0) rfl rfl) rfl rfl hl.1 rfl (lv_room (Nat.le_of_ble_eq_true rfl)) dL_tag_5 ⟨Nat.le_of_ble_eq_true rfl, Nat.le_of_ble_eq_true rfl⟩) hS (fun q _ h => hFc q h) hFc (fun q _ h => hFc q h) (fun E9 ce9 q9 u9 t9 H9 locs9 ht9 hvm9 hp9 hE9 hz9 hk9 hS9 hc9 hv9 hcl9 => ?_) (fun r_1 u t H1 locs ht hvm hw_2 hB hz1 hk1 hS => ?_)
  · obtain ⟨rfl, hno⟩ := hE9
    refine vx_catch (name := "java/lang/IllegalArgumentException") hown [] ⟨0, 10, 13, 13⟩ [] htab (fun z hz => by cases hz) (by decide) (by decide) (hts (.classLink RL 13 "java/lang/IllegalArgumentException") (by decide +kernel)) (zX_use hZ (.castable "java/lang/IllegalArgumentException" "java/lang/IllegalArgumentException") (by decide)) hc9 hv9 hcl9 ?_
    refine W.eq (g2 := F0 m 13 ls [.ref q9]) rfl ?_
    obtain ⟨hP, hD⟩ := va_join (wr := [(ou, .inl (cL, 1, .inr (.inl of9)))]) (w1 := []) hP hD [0, 1, 2, 3, 4] [5] rfl rfl (by decide) (by decide) hk9 hFc P_nil D_nil
    have hS := hS9
    generalize H9 = H at hP hS ⊢
    have hP : va_P (dC, dI) vwCl [(ou, .inl (cL, 1, .inr (.inl of9)))] H := hP
    have hD : va_D A [(ou, .inl (cL, 1, .inr (.inl of9)))] := hD
    refine W.widen (k := 2) (n := 12) (Nat.le_of_ble_eq_true rfl) (Nat.le_of_ble_eq_true rfl) ?_
    refine lv_astore (lv' := [(4, .ref q9), (0, .ref ya), (1, .int a1), (2, .int a2), (3, .ref ou)]) hx hb dL_tag_13 hl (by decide) rfl (fun ls hl => ?_)
    refine lv_iconst (v := 1) hx hb dL_tag_15 (by decide) ?_
    refine vx_ret ?_
    have hP9 := hP.sub (ws' := [(ou, .inl (cL, 1, .inr (.inl of9)))]) [0] rfl
    have hD9 := hD.sub (ws' := [(ou, .inl (cL, 1, .inr (.inl of9)))]) [0] (by decide) rfl
    have hK9 := hK.sub (tys' := [(cL, .long)]) [1] rfl
    exact W.iret (v := 1) hx hb hr (fun t ht hW => ⟨⟨1, of9, rfl, Or.inr ⟨rfl, hno⟩, ⟨by rw [ht]; exact hP9, va_K.moved hW.alike hK9, hD9⟩⟩, hS.F ht⟩) hS.2.2 dL_tag_16
  · skip
    obtain ⟨hP1, hK1, hD1⟩ := hB
    rw [ht] at hP1
    try dsimp only at hw_2
    obtain ⟨hP, hD⟩ := va_join (wr := [(ou, .inl (cL, 1, .inr (.inl of9)))]) (w1 := []) hP hD [0, 1, 2, 3, 4] [5] rfl rfl (by decide) (by decide) hk1 hFc hP1 hD1
    generalize H1 = H at hP hS ⊢
    have hP : va_P (dC, dI) vwCl [(ou, .inl (cL, 1, .inr (.inl of9)))] H := hP
    have hD : va_D A [(ou, .inl (cL, 1, .inr (.inl of9)))] := hD
    refine W.widen (k := 2) (n := 12) (Nat.le_of_ble_eq_true rfl) (Nat.le_of_ble_eq_true rfl) ?_
    refine lv_i2l hx hb dL_tag_8 rfl ?_
    refine va_last hx hb hK hP hD hS 0 1 rfl rfl (show vp_in (nI 0) 1 from vp_in_nI (by decide) (by decide)) dL_tag_9 (fun H locs hP hD hS => ?_)
    obtain ⟨f_3, ef_3⟩ : ∃ z, z = (vp_updL of9 ((0 : Int32)).toNatClampNeg r_1.toInt64) := ⟨_, rfl⟩
    have hP : va_P (dC, dI) vwCl [(ou, .inl (cL, 1, .inr (.inl f_3)))] H := by rw [ef_3]; exact hP
    have hD : va_D A [(ou, .inl (cL, 1, .inr (.inl f_3)))] := by rw [ef_3]; exact hD
    refine lv_goto (tgt := 17) hx hb dL_tag_10 (by decide) ?_
    refine lv_iconst (v := 0) hx hb dL_tag_17 (by decide) ?_
    refine vx_ret ?_
    have hP9 := hP.sub (ws' := [(ou, .inl (cL, 1, .inr (.inl f_3)))]) [0] rfl
    have hD9 := hD.sub (ws' := [(ou, .inl (cL, 1, .inr (.inl f_3)))]) [0] (by decide) rfl
    have hK9 := hK.sub (tys' := [(cL, .long)]) [1] rfl
    exact W.iret (v := 0) hx hb hr (fun t ht hW => ⟨⟨0, f_3, rfl, Or.inl ⟨rfl, hw_2.2, by rw [ef_3, hw_2.1]; exact up0⟩, ⟨by rw [ht]; exact hP9, va_K.moved hW.alike hK9, hD9⟩⟩, hS.F ht⟩) hS.2.2 dL_tag_18
