theorem dX14_init_0 : decode cX14_init 0 = .ok (.aload_n 0, 1) := by decide +kernel
theorem dX14_init_1 : decode cX14_init 1 = .ok (.invokespecial 3, 3) := by decide +kernel
theorem dX14_init_4 : decode cX14_init 4 = .ok (.aload_n 0, 1) := by decide +kernel
theorem dX14_init_5 : decode cX14_init 5 = .ok (.sipush 1001, 3) := by decide +kernel
theorem dX14_init_8 : decode cX14_init 8 = .ok (.newarray .int, 2) := by decide +kernel
theorem dX14_init_10 : decode cX14_init 10 = .ok (.putfield 9, 3) := by decide +kernel
theorem dX14_init_13 : decode cX14_init 13 = .ok (.aload_n 0, 1) := by decide +kernel
theorem dX14_init_14 : decode cX14_init 14 = .ok (.aload_n 1, 1) := by decide +kernel
theorem dX14_init_15 : decode cX14_init 15 = .ok (.putfield 15, 3) := by decide +kernel
theorem dX14_init_18 : decode cX14_init 18 = .ok (.return_, 1) := by decide +kernel
theorem dX14_begin_0 : decode cX14_begin 0 = .ok (.aload_n 0, 1) := by decide +kernel
theorem dX14_begin_1 : decode cX14_begin 1 = .ok (.getfield 19, 3) := by decide +kernel
theorem dX14_begin_4 : decode cX14_begin 4 = .ok (.istore_n 1, 1) := by decide +kernel
theorem dX14_begin_5 : decode cX14_begin 5 = .ok (.iload_n 1, 1) := by decide +kernel
theorem dX14_begin_6 : decode cX14_begin 6 = .ok (.aload_n 0, 1) := by decide +kernel
theorem dX14_begin_7 : decode cX14_begin 7 = .ok (.getfield 23, 3) := by decide +kernel
theorem dX14_begin_10 : decode cX14_begin 10 = .ok (.if_icmp .gt 20, 3) := by decide +kernel
theorem dX14_begin_30 : decode cX14_begin 30 = .ok (.aload_n 0, 1) := by decide +kernel
theorem dX14_begin_31 : decode cX14_begin 31 = .ok (.iconst 0, 1) := by decide +kernel
theorem dX14_begin_32 : decode cX14_begin 32 = .ok (.putfield 26, 3) := by decide +kernel
theorem dX14_begin_35 : decode cX14_begin 35 = .ok (.aload_n 0, 1) := by decide +kernel
theorem dX14_begin_36 : decode cX14_begin 36 = .ok (.iconst 0, 1) := by decide +kernel
theorem dX14_begin_37 : decode cX14_begin 37 = .ok (.putfield 29, 3) := by decide +kernel
theorem dX14_begin_40 : decode cX14_begin 40 = .ok (.aload_n 0, 1) := by decide +kernel
theorem dX14_begin_41 : decode cX14_begin 41 = .ok (.iconst 0, 1) := by decide +kernel
theorem dX14_begin_42 : decode cX14_begin 42 = .ok (.putfield 19, 3) := by decide +kernel
theorem dX14_begin_45 : decode cX14_begin 45 = .ok (.aload_n 0, 1) := by decide +kernel
theorem dX14_begin_46 : decode cX14_begin 46 = .ok (.iconst 0, 1) := by decide +kernel
theorem dX14_begin_47 : decode cX14_begin 47 = .ok (.putfield 23, 3) := by decide +kernel
theorem dX14_begin_50 : decode cX14_begin 50 = .ok (.aload_n 0, 1) := by decide +kernel
theorem dX14_begin_51 : decode cX14_begin 51 = .ok (.iconst 0, 1) := by decide +kernel
theorem dX14_begin_52 : decode cX14_begin 52 = .ok (.putfield 32, 3) := by decide +kernel
theorem dX14_begin_55 : decode cX14_begin 55 = .ok (.aload_n 0, 1) := by decide +kernel
theorem dX14_begin_56 : decode cX14_begin 56 = .ok (.iconst 0, 1) := by decide +kernel
theorem dX14_begin_57 : decode cX14_begin 57 = .ok (.putfield 35, 3) := by decide +kernel
theorem dX14_begin_60 : decode cX14_begin 60 = .ok (.aload_n 0, 1) := by decide +kernel
theorem dX14_begin_61 : decode cX14_begin 61 = .ok (.iconst 0, 1) := by decide +kernel
theorem dX14_begin_62 : decode cX14_begin 62 = .ok (.putfield 39, 3) := by decide +kernel
theorem dX14_begin_65 : decode cX14_begin 65 = .ok (.return_, 1) := by decide +kernel
theorem dX14_begin_13 : decode cX14_begin 13 = .ok (.aload_n 0, 1) := by decide +kernel
theorem dX14_begin_14 : decode cX14_begin 14 = .ok (.getfield 9, 3) := by decide +kernel
theorem dX14_begin_17 : decode cX14_begin 17 = .ok (.sipush 500, 3) := by decide +kernel
theorem dX14_begin_20 : decode cX14_begin 20 = .ok (.iload_n 1, 1) := by decide +kernel
theorem dX14_begin_21 : decode cX14_begin 21 = .ok (.iadd, 1) := by decide +kernel
theorem dX14_begin_22 : decode cX14_begin 22 = .ok (.iconst 0, 1) := by decide +kernel
theorem dX14_begin_23 : decode cX14_begin 23 = .ok (.iastore, 1) := by decide +kernel
theorem dX14_begin_24 : decode cX14_begin 24 = .ok (.iinc 1 1, 3) := by decide +kernel
theorem dX14_begin_27 : decode cX14_begin 27 = .ok (.goto (-22), 3) := by decide +kernel
theorem dX14_marks_0 : decode cX14_marks 0 = .ok (.iconst 0, 1) := by decide +kernel
theorem dX14_marks_1 : decode cX14_marks 1 = .ok (.istore_n 1, 1) := by decide +kernel
theorem dX14_marks_2 : decode cX14_marks 2 = .ok (.aload_n 0, 1) := by decide +kernel
theorem dX14_marks_3 : decode cX14_marks 3 = .ok (.getfield 19, 3) := by decide +kernel
theorem dX14_marks_6 : decode cX14_marks 6 = .ok (.istore_n 2, 1) := by decide +kernel
theorem dX14_marks_7 : decode cX14_marks 7 = .ok (.iload_n 2, 1) := by decide +kernel
theorem dX14_marks_8 : decode cX14_marks 8 = .ok (.aload_n 0, 1) := by decide +kernel
theorem dX14_marks_9 : decode cX14_marks 9 = .ok (.getfield 23, 3) := by decide +kernel
theorem dX14_marks_12 : decode cX14_marks 12 = .ok (.if_icmp .gt 30, 3) := by decide +kernel
theorem dX14_marks_42 : decode cX14_marks 42 = .ok (.iload_n 1, 1) := by decide +kernel
theorem dX14_marks_43 : decode cX14_marks 43 = .ok (.ireturn, 1) := by decide +kernel
theorem dX14_marks_15 : decode cX14_marks 15 = .ok (.iload_n 1, 1) := by decide +kernel
theorem dX14_marks_16 : decode cX14_marks 16 = .ok (.aload_n 0, 1) := by decide +kernel
theorem dX14_marks_17 : decode cX14_marks 17 = .ok (.getfield 9, 3) := by decide +kernel
theorem dX14_marks_20 : decode cX14_marks 20 = .ok (.sipush 500, 3) := by decide +kernel
theorem dX14_marks_23 : decode cX14_marks 23 = .ok (.iload_n 2, 1) := by decide +kernel
theorem dX14_marks_24 : decode cX14_marks 24 = .ok (.iadd, 1) := by decide +kernel
theorem dX14_marks_25 : decode cX14_marks 25 = .ok (.iaload, 1) := by decide +kernel
theorem dX14_marks_26 : decode cX14_marks 26 = .ok (.ifCond .ne 7, 3) := by decide +kernel
theorem dX14_marks_33 : decode cX14_marks 33 = .ok (.iconst 1, 1) := by decide +kernel
theorem dX14_marks_34 : decode cX14_marks 34 = .ok (.iadd, 1) := by decide +kernel
theorem dX14_marks_35 : decode cX14_marks 35 = .ok (.istore_n 1, 1) := by decide +kernel
theorem dX14_marks_36 : decode cX14_marks 36 = .ok (.iinc 2 1, 3) := by decide +kernel
theorem dX14_marks_39 : decode cX14_marks 39 = .ok (.goto (-32), 3) := by decide +kernel
theorem dX14_marks_29 : decode cX14_marks 29 = .ok (.iconst 0, 1) := by decide +kernel
theorem dX14_marks_30 : decode cX14_marks 30 = .ok (.goto 4, 3) := by decide +kernel
theorem dX14_isAs_0 : decode cX14_isAs 0 = .ok (.aload_n 0, 1) := by decide +kernel
theorem dX14_isAs_1 : decode cX14_isAs 1 = .ok (.getfield 26, 3) := by decide +kernel
theorem dX14_isAs_4 : decode cX14_isAs 4 = .ok (.aload_n 1, 1) := by decide +kernel
theorem dX14_isAs_5 : decode cX14_isAs 5 = .ok (.getfield 26, 3) := by decide +kernel
theorem dX14_isAs_8 : decode cX14_isAs 8 = .ok (.if_icmp .ne 14, 3) := by decide +kernel
theorem dX14_isAs_22 : decode cX14_isAs 22 = .ok (.iconst 0, 1) := by decide +kernel
theorem dX14_isAs_23 : decode cX14_isAs 23 = .ok (.ireturn, 1) := by decide +kernel
theorem dX14_isAs_11 : decode cX14_isAs 11 = .ok (.aload_n 0, 1) := by decide +kernel
theorem dX14_isAs_12 : decode cX14_isAs 12 = .ok (.getfield 29, 3) := by decide +kernel
theorem dX14_isAs_15 : decode cX14_isAs 15 = .ok (.aload_n 1, 1) := by decide +kernel
theorem dX14_isAs_16 : decode cX14_isAs 16 = .ok (.getfield 29, 3) := by decide +kernel
theorem dX14_isAs_19 : decode cX14_isAs 19 = .ok (.if_icmp .eq 5, 3) := by decide +kernel
theorem dX14_isAs_24 : decode cX14_isAs 24 = .ok (.aload_n 0, 1) := by decide +kernel
theorem dX14_isAs_25 : decode cX14_isAs 25 = .ok (.getfield 19, 3) := by decide +kernel
theorem dX14_isAs_28 : decode cX14_isAs 28 = .ok (.aload_n 1, 1) := by decide +kernel
theorem dX14_isAs_29 : decode cX14_isAs 29 = .ok (.getfield 19, 3) := by decide +kernel
theorem dX14_isAs_32 : decode cX14_isAs 32 = .ok (.invokestatic 68, 3) := by decide +kernel
theorem dX14_isAs_35 : decode cX14_isAs 35 = .ok (.istore_n 2, 1) := by decide +kernel
theorem dX14_isAs_36 : decode cX14_isAs 36 = .ok (.iload_n 2, 1) := by decide +kernel
theorem dX14_isAs_37 : decode cX14_isAs 37 = .ok (.aload_n 0, 1) := by decide +kernel
theorem dX14_isAs_38 : decode cX14_isAs 38 = .ok (.getfield 23, 3) := by decide +kernel
theorem dX14_isAs_41 : decode cX14_isAs 41 = .ok (.aload_n 1, 1) := by decide +kernel
theorem dX14_isAs_42 : decode cX14_isAs 42 = .ok (.getfield 23, 3) := by decide +kernel
theorem dX14_isAs_45 : decode cX14_isAs 45 = .ok (.invokestatic 73, 3) := by decide +kernel
theorem dX14_isAs_48 : decode cX14_isAs 48 = .ok (.if_icmp .gt 34, 3) := by decide +kernel
theorem dX14_isAs_82 : decode cX14_isAs 82 = .ok (.iconst 1, 1) := by decide +kernel
theorem dX14_isAs_83 : decode cX14_isAs 83 = .ok (.ireturn, 1) := by decide +kernel
theorem dX14_isAs_51 : decode cX14_isAs 51 = .ok (.aload_n 0, 1) := by decide +kernel
theorem dX14_isAs_52 : decode cX14_isAs 52 = .ok (.getfield 9, 3) := by decide +kernel
theorem dX14_isAs_55 : decode cX14_isAs 55 = .ok (.sipush 500, 3) := by decide +kernel
theorem dX14_isAs_58 : decode cX14_isAs 58 = .ok (.iload_n 2, 1) := by decide +kernel
theorem dX14_isAs_59 : decode cX14_isAs 59 = .ok (.iadd, 1) := by decide +kernel
theorem dX14_isAs_60 : decode cX14_isAs 60 = .ok (.iaload, 1) := by decide +kernel
theorem dX14_isAs_61 : decode cX14_isAs 61 = .ok (.aload_n 1, 1) := by decide +kernel
theorem dX14_isAs_62 : decode cX14_isAs 62 = .ok (.getfield 9, 3) := by decide +kernel
theorem dX14_isAs_65 : decode cX14_isAs 65 = .ok (.sipush 500, 3) := by decide +kernel
theorem dX14_isAs_68 : decode cX14_isAs 68 = .ok (.iload_n 2, 1) := by decide +kernel
theorem dX14_isAs_69 : decode cX14_isAs 69 = .ok (.iadd, 1) := by decide +kernel
theorem dX14_isAs_70 : decode cX14_isAs 70 = .ok (.iaload, 1) := by decide +kernel
theorem dX14_isAs_71 : decode cX14_isAs 71 = .ok (.if_icmp .eq 5, 3) := by decide +kernel
theorem dX14_isAs_76 : decode cX14_isAs 76 = .ok (.iinc 2 1, 3) := by decide +kernel
theorem dX14_isAs_79 : decode cX14_isAs 79 = .ok (.goto (-43), 3) := by decide +kernel
theorem dX14_isAs_74 : decode cX14_isAs 74 = .ok (.iconst 0, 1) := by decide +kernel
theorem dX14_isAs_75 : decode cX14_isAs 75 = .ok (.ireturn, 1) := by decide +kernel
theorem dX14_become_0 : decode cX14_become 0 = .ok (.aload_n 0, 1) := by decide +kernel
set_option maxRecDepth 20000 in
theorem ggX14_become_X14_begin : GoodIn wsX14_become wsX14_begin := goodIn_ca (goodIn_r _ [13, 1, 2, 3, 4, 5, 6, 7, 8, 14, 15, 16, 17, 18, 19, 20, 21, 22] rfl (by decide +kernel)) (goodIn_sub (fun _ h => List.mem_cons_of_mem _ (List.mem_append_right _ h)) (by decide +kernel))
set_option maxRecDepth 20000 in
theorem gX14_become_X14_begin : GoodIn wsX14_become (wsV RX14 83 RX14 yX14_begin wsX14_begin) := goodIn_app (goodIn_of _ (by decide +kernel)) ggX14_become_X14_begin
theorem dX14_become_1 : decode cX14_become 1 = .ok (.invokevirtual 83, 3) := by decide +kernel
theorem dX14_become_4 : decode cX14_become 4 = .ok (.aload_n 1, 1) := by decide +kernel
theorem dX14_become_5 : decode cX14_become 5 = .ok (.getfield 19, 3) := by decide +kernel
theorem dX14_become_8 : decode cX14_become 8 = .ok (.istore_n 2, 1) := by decide +kernel
theorem dX14_become_9 : decode cX14_become 9 = .ok (.iload_n 2, 1) := by decide +kernel
theorem dX14_become_10 : decode cX14_become 10 = .ok (.aload_n 1, 1) := by decide +kernel
theorem dX14_become_11 : decode cX14_become 11 = .ok (.getfield 23, 3) := by decide +kernel
theorem dX14_become_14 : decode cX14_become 14 = .ok (.if_icmp .gt 29, 3) := by decide +kernel
theorem dX14_become_43 : decode cX14_become 43 = .ok (.aload_n 0, 1) := by decide +kernel
theorem dX14_become_44 : decode cX14_become 44 = .ok (.aload_n 1, 1) := by decide +kernel
theorem dX14_become_45 : decode cX14_become 45 = .ok (.getfield 26, 3) := by decide +kernel
theorem dX14_become_48 : decode cX14_become 48 = .ok (.putfield 26, 3) := by decide +kernel
theorem dX14_become_51 : decode cX14_become 51 = .ok (.aload_n 0, 1) := by decide +kernel
theorem dX14_become_52 : decode cX14_become 52 = .ok (.aload_n 1, 1) := by decide +kernel
theorem dX14_become_53 : decode cX14_become 53 = .ok (.getfield 29, 3) := by decide +kernel
theorem dX14_become_56 : decode cX14_become 56 = .ok (.putfield 29, 3) := by decide +kernel
theorem dX14_become_59 : decode cX14_become 59 = .ok (.aload_n 0, 1) := by decide +kernel
theorem dX14_become_60 : decode cX14_become 60 = .ok (.aload_n 1, 1) := by decide +kernel
theorem dX14_become_61 : decode cX14_become 61 = .ok (.getfield 19, 3) := by decide +kernel
theorem dX14_become_64 : decode cX14_become 64 = .ok (.putfield 19, 3) := by decide +kernel
theorem dX14_become_67 : decode cX14_become 67 = .ok (.aload_n 0, 1) := by decide +kernel
theorem dX14_become_68 : decode cX14_become 68 = .ok (.aload_n 1, 1) := by decide +kernel
theorem dX14_become_69 : decode cX14_become 69 = .ok (.getfield 23, 3) := by decide +kernel
theorem dX14_become_72 : decode cX14_become 72 = .ok (.putfield 23, 3) := by decide +kernel
theorem dX14_become_75 : decode cX14_become 75 = .ok (.aload_n 0, 1) := by decide +kernel
theorem dX14_become_76 : decode cX14_become 76 = .ok (.aload_n 1, 1) := by decide +kernel
theorem dX14_become_77 : decode cX14_become 77 = .ok (.getfield 32, 3) := by decide +kernel
theorem dX14_become_80 : decode cX14_become 80 = .ok (.putfield 32, 3) := by decide +kernel
theorem dX14_become_83 : decode cX14_become 83 = .ok (.aload_n 0, 1) := by decide +kernel
theorem dX14_become_84 : decode cX14_become 84 = .ok (.aload_n 1, 1) := by decide +kernel
theorem dX14_become_85 : decode cX14_become 85 = .ok (.getfield 35, 3) := by decide +kernel
theorem dX14_become_88 : decode cX14_become 88 = .ok (.putfield 35, 3) := by decide +kernel
theorem dX14_become_91 : decode cX14_become 91 = .ok (.aload_n 0, 1) := by decide +kernel
theorem dX14_become_92 : decode cX14_become 92 = .ok (.aload_n 1, 1) := by decide +kernel
theorem dX14_become_93 : decode cX14_become 93 = .ok (.getfield 39, 3) := by decide +kernel
theorem dX14_become_96 : decode cX14_become 96 = .ok (.putfield 39, 3) := by decide +kernel
theorem dX14_become_99 : decode cX14_become 99 = .ok (.return_, 1) := by decide +kernel
theorem dX14_become_17 : decode cX14_become 17 = .ok (.aload_n 0, 1) := by decide +kernel
theorem dX14_become_18 : decode cX14_become 18 = .ok (.getfield 9, 3) := by decide +kernel
theorem dX14_become_21 : decode cX14_become 21 = .ok (.sipush 500, 3) := by decide +kernel
theorem dX14_become_24 : decode cX14_become 24 = .ok (.iload_n 2, 1) := by decide +kernel
theorem dX14_become_25 : decode cX14_become 25 = .ok (.iadd, 1) := by decide +kernel
theorem dX14_become_26 : decode cX14_become 26 = .ok (.aload_n 1, 1) := by decide +kernel
theorem dX14_become_27 : decode cX14_become 27 = .ok (.getfield 9, 3) := by decide +kernel
theorem dX14_become_30 : decode cX14_become 30 = .ok (.sipush 500, 3) := by decide +kernel
theorem dX14_become_33 : decode cX14_become 33 = .ok (.iload_n 2, 1) := by decide +kernel
theorem dX14_become_34 : decode cX14_become 34 = .ok (.iadd, 1) := by decide +kernel
theorem dX14_become_35 : decode cX14_become 35 = .ok (.iaload, 1) := by decide +kernel
theorem dX14_become_36 : decode cX14_become 36 = .ok (.iastore, 1) := by decide +kernel
theorem dX14_become_37 : decode cX14_become 37 = .ok (.iinc 2 1, 3) := by decide +kernel
theorem dX14_become_40 : decode cX14_become 40 = .ok (.goto (-31), 3) := by decide +kernel
set_option maxHeartbeats 4000000 in
set_option maxRecDepth 100000 in
/-- X14_init -/
theorem c_X14_init (l : Launch) (dC : Nat → ClassId) (dI : Nat → Nat → Nat) (cI : ClassId) (ra ma : Nat) (sz : Nat) : Met l yX14_init wsX14_init ({ frames := 1, cells := 1, slots := 1001, locals := 12 }) (va_Pc [.ref ra, .ref ma] (cPC dC dI [(ra, .inr (19, [.null, .null, .int 0, .int 0, .int 0, .int 0, .int 0, .int 0, .int 0]))] [(cI, .int)] sz)) (va_Qv (fun (u : Nat) => True) (fun (u : Nat) t => cQB dC dI [(ra, .inr (19, [.ref ma, .ref u, .int 0, .int 0, .int 0, .int 0, .int 0, .int 0, .int 0])), (u, .inl (cI, 1001, .inl (fun _ => 0)))] [(cI, .int)] (va_A [(ra, .inr (19, [.null, .null, .int 0, .int 0, .int 0, .int 0, .int 0, .int 0, .int 0]))] sz) t) (va_A [(ra, .inr (19, [.null, .null, .int 0, .int 0, .int 0, .int 0, .int 0, .int 0, .int 0]))] sz)) 1 1001 (va_A [(ra, .inr (19, [.null, .null, .int 0, .int 0, .int 0, .int 0, .int 0, .int 0, .int 0]))] sz) := by
  refine Met.ofW (cc := cX14_init) (maxL := 2) (ret := none) (by decide) rfl ?_
  intro p e s m args below meth c s₁ B hml hv
  obtain ⟨rfl, hsz, hP, hK, hD0, hN⟩ := hv
  have hx := B.exec
  have hb := B.bytes
  have hr := B.returns
  have hts := atoms_spec (ws := wsX14_init) B.pre
  have hown : s.vm.findClass RX14 = some m.cls := findClass_of_methodNamed B.named
  have hlocks := B.notSynchronized
  have hin : meth.name = "<init>" := (name_of_methodNamed B.named B.method).1
  subst hsz
  have hD := hD0.self (sz := s.heap.size)
  generalize hAe : va_A [(ra, .inr (19, [.null, .null, .int 0, .int 0, .int 0, .int 0, .int 0, .int 0, .int 0]))] s.heap.size = A at hD ⊢
  have hA : ∀ q : Nat, s.heap.size ≤ q → A q := fun q h => by rw [← hAe]; exact Or.inr h
  have hS : va_S A s.heap s.heap [] := va_S.rf
  have hP : va_P (dC, dI) vwCl [(ra, .inr (19, [.null, .null, .int 0, .int 0, .int 0, .int 0, .int 0, .int 0, .int 0]))] s.heap := hP
  have hD : va_D A [(ra, .inr (19, [.null, .null, .int 0, .int 0, .int 0, .int 0, .int 0, .int 0, .int 0]))] := hD
  have hl := lv_entry ([.ref ra, .ref ma]) (n := 2) (Nat.le_of_ble_eq_true rfl)
  rw [lg_entry_eq]
  generalize (lg_sl ([.ref ra, .ref ma]) ++ List.replicate (2 - (lg_sl ([.ref ra, .ref ma])).length) Slot.unset).toArray = ls at hl ⊢
  have hl : lv_has ls 2 [(0, .ref ra), (1, .ref ma)] := hl
  have iWX14 : ∀ w ∈ u_ws RX14 TX14 9, w ∈ wsX14_init := by decide +kernel
  refine lv_aload_n hx hb dX14_init_0 rfl (lv_at hl 0 rfl) ?_
  refine W.objInit hx hb hown (hts (.methodLink RX14 3 Lib.objectInit) (by decide +kernel)) (hts (.instanceMethod Lib.objectInit) (by decide +kernel)) (hts (.code Lib.objectInit ⟨#[0xb1]⟩ 1 none) (by decide +kernel)) rfl (by rw [hml]; exact hl.1) rfl dX14_init_1 (Nat.le_of_ble_eq_true rfl) (Nat.le_of_ble_eq_true rfl) ?_
  refine W.eq (g2 := F0 m 4 ls []) rfl ?_
  refine lv_aload_n hx hb dX14_init_4 rfl (lv_at hl 0 rfl) ?_
  refine lv_sipush (v := 1001) hx hb dX14_init_5 (by decide) ?_
  refine va_newa (atype := .int) (ty := .int) (a0 := (1001, .inl (fun _ => 0))) (N' := 1001) hx hb (hts (.arrayClass .int) (by decide +kernel)) rfl hK hP hD hS hA (fun _ => rfl) (by decide) (by decide) (Nat.le_of_ble_eq_true rfl) (Nat.le_of_ble_eq_true rfl) (Nat.le_of_ble_eq_true rfl) dX14_init_8 (fun q_2 cA_1 H hK hP hD hS => ?_)
  have ecA_1 : cI = cA_1 := cA_one hK (i := 0) (j := 1) rfl rfl
  subst ecA_1
  have hK := hK.sub (tys' := [(cI, .int)]) [0] rfl
  have hP : va_P (dC, dI) vwCl [(ra, .inr (19, [.null, .null, .int 0, .int 0, .int 0, .int 0, .int 0, .int 0, .int 0])), (q_2, .inl (cI, 1001, .inl (fun _ => 0)))] H := hP
  have hD : va_D A [(ra, .inr (19, [.null, .null, .int 0, .int 0, .int 0, .int 0, .int 0, .int 0, .int 0])), (q_2, .inl (cI, 1001, .inl (fun _ => 0)))] := hD
  refine W.widen (k := 1) (n := 1001) (Nat.le_of_ble_eq_true rfl) (Nat.le_of_ble_eq_true rfl) ?_
  refine va_putF (D := (dC, dI)) (ci := 19) (v := .ref q_2) (ty := .array .int) (C := RX14) (T := TX14) (N := 9) hx hb hts iWX14 tyX14 tyX14_ok nmX14 hown hK hP hD hS 0 rfl rfl 1 (by decide) (hts (.fieldLink RX14 9 "BeaverhallModel$Run" "tape" "[I") (by decide +kernel)) (fun _ h9 => h9) rfl hin rfl (by decide +kernel) rfl rfl (Nat.le_of_ble_eq_true rfl) dX14_init_10 (fun H locs hP hD hS => ?_)
  have hP : va_P (dC, dI) vwCl [(ra, .inr (19, [.null, .ref q_2, .int 0, .int 0, .int 0, .int 0, .int 0, .int 0, .int 0])), (q_2, .inl (cI, 1001, .inl (fun _ => 0)))] H := hP
  have hD : va_D A [(ra, .inr (19, [.null, .ref q_2, .int 0, .int 0, .int 0, .int 0, .int 0, .int 0, .int 0])), (q_2, .inl (cI, 1001, .inl (fun _ => 0)))] := hD
  refine lv_aload_n hx hb dX14_init_13 rfl (lv_at hl 0 rfl) ?_
  refine lv_aload_n hx hb dX14_init_14 rfl (lv_at hl 1 rfl) ?_
  refine va_putF (D := (dC, dI)) (ci := 19) (v := .ref ma) (ty := .object "BeaverhallModel$Machine") (C := RX14) (T := TX14) (N := 9) hx hb hts iWX14 tyX14 tyX14_ok nmX14 hown hK hP hD hS 0 rfl rfl 0 (by decide) (hts (.fieldLink RX14 15 "BeaverhallModel$Run" "machine" "LBeaverhallModel$Machine;") (by decide +kernel)) (fun _ h9 => h9) rfl hin rfl (by decide +kernel) rfl rfl (Nat.le_of_ble_eq_true rfl) dX14_init_15 (fun H locs hP hD hS => ?_)
  have hP : va_P (dC, dI) vwCl [(ra, .inr (19, [.ref ma, .ref q_2, .int 0, .int 0, .int 0, .int 0, .int 0, .int 0, .int 0])), (q_2, .inl (cI, 1001, .inl (fun _ => 0)))] H := hP
  have hD : va_D A [(ra, .inr (19, [.ref ma, .ref q_2, .int 0, .int 0, .int 0, .int 0, .int 0, .int 0, .int 0])), (q_2, .inl (cI, 1001, .inl (fun _ => 0)))] := hD
  have hP9 := hP.sub (ws' := [(ra, .inr (19, [.ref ma, .ref q_2, .int 0, .int 0, .int 0, .int 0, .int 0, .int 0, .int 0])), (q_2, .inl (cI, 1001, .inl (fun _ => 0)))]) [0, 1] rfl
  have hD9 := hD.sub (ws' := [(ra, .inr (19, [.ref ma, .ref q_2, .int 0, .int 0, .int 0, .int 0, .int 0, .int 0, .int 0])), (q_2, .inl (cI, 1001, .inl (fun _ => 0)))]) [0, 1] (by decide) rfl
  have hK9 := hK.sub (tys' := [(cI, .int)]) [0] rfl
  exact W.vret hx hb hr (fun t ht hW => ⟨⟨q_2, rfl, trivial, ⟨by rw [ht]; exact hP9, va_K.moved hW.alike hK9, hD9⟩⟩, hS.F ht⟩) hS.2.2 dX14_init_18

set_option maxHeartbeats 4000000 in
set_option maxRecDepth 100000 in
/-- X14_begin -/
theorem c_X14_begin (l : Launch) (dC : Nat → ClassId) (dI : Nat → Nat → Nat) (cI : ClassId) (ma S G : Nat) (ra ta : Nat) (st ce lf rt sp hh ib : Int32) (f : Nat → Int32) (hR : okR S G (st, ce, lf, rt, sp, hh, ib, f)) (sz : Nat) : Met l yX14_begin wsX14_begin ({ frames := 0, cells := 0, slots := 0, locals := 0 }) (va_Pc [.ref ra] (cPC dC dI [(ra, .inr (19, [.ref ma, .ref ta, .int st, .int ce, .int lf, .int rt, .int sp, .int hh, .int ib])), (ta, .inl (cI, 1001, .inl f))] [(cI, .int)] sz)) (va_Qv (fun (u : Unit) => True) (fun (u : Unit) t => cQB dC dI [(ra, .inr (19, [.ref ma, .ref ta, .int 0, .int 0, .int 0, .int 0, .int 0, .int 0, .int 0])), (ta, .inl (cI, 1001, .inl (fun _ => 0)))] [(cI, .int)] (va_A [(ra, .inr (19, [.ref ma, .ref ta, .int st, .int ce, .int lf, .int rt, .int sp, .int hh, .int ib])), (ta, .inl (cI, 1001, .inl f))] sz) t) (va_A [(ra, .inr (19, [.ref ma, .ref ta, .int st, .int ce, .int lf, .int rt, .int sp, .int hh, .int ib])), (ta, .inl (cI, 1001, .inl f))] sz)) 0 0 (va_A [(ra, .inr (19, [.ref ma, .ref ta, .int st, .int ce, .int lf, .int rt, .int sp, .int hh, .int ib])), (ta, .inl (cI, 1001, .inl f))] sz) := by
  refine Met.ofW (cc := cX14_begin) (maxL := 2) (ret := none) (by decide) rfl ?_
  intro p e s m args below meth c s₁ B hml hv
  obtain ⟨rfl, hsz, hP, hK, hD0, hN⟩ := hv
  have hx := B.exec
  have hb := B.bytes
  have hr := B.returns
  have hts := atoms_spec (ws := wsX14_begin) B.pre
  have hown : s.vm.findClass RX14 = some m.cls := findClass_of_methodNamed B.named
  have hlocks := B.notSynchronized
  subst hsz
  have hD := hD0.self (sz := s.heap.size)
  generalize hAe : va_A [(ra, .inr (19, [.ref ma, .ref ta, .int st, .int ce, .int lf, .int rt, .int sp, .int hh, .int ib])), (ta, .inl (cI, 1001, .inl f))] s.heap.size = A at hD ⊢
  have hA : ∀ q : Nat, s.heap.size ≤ q → A q := fun q h => by rw [← hAe]; exact Or.inr h
  have hS : va_S A s.heap s.heap [] := va_S.rf
  have hP : va_P (dC, dI) vwCl [(ra, .inr (19, [.ref ma, .ref ta, .int st, .int ce, .int lf, .int rt, .int sp, .int hh, .int ib])), (ta, .inl (cI, 1001, .inl f))] s.heap := hP
  have hD : va_D A [(ra, .inr (19, [.ref ma, .ref ta, .int st, .int ce, .int lf, .int rt, .int sp, .int hh, .int ib])), (ta, .inl (cI, 1001, .inl f))] := hD
  have hl := lv_entry ([.ref ra]) (n := 2) (Nat.le_of_ble_eq_true rfl)
  rw [lg_entry_eq]
  generalize (lg_sl ([.ref ra]) ++ List.replicate (2 - (lg_sl ([.ref ra])).length) Slot.unset).toArray = ls at hl ⊢
  have hl : lv_has ls 2 [(0, .ref ra)] := hl
  obtain ⟨a, c0, lo, hi, rfl, rfl, rfl, rfl, h1, h2, h3, h4, h5, h6, h7, h8, h9, h10⟩ := hR
  have hP : va_P (dC, dI) vwCl [(ra, .inr (19, [.ref ma, .ref ta, .int (nI a), .int (nI c0 - 500), .int (nI lo - 500), .int (nI hi - 500), .int sp, .int hh, .int ib])), (ta, .inl (cI, 1001, .inl f))] s.heap := hP
  have hD : va_D A [(ra, .inr (19, [.ref ma, .ref ta, .int (nI a), .int (nI c0 - 500), .int (nI lo - 500), .int (nI hi - 500), .int sp, .int hh, .int ib])), (ta, .inl (cI, 1001, .inl f))] := hD
  have iWX14 : ∀ w ∈ u_ws RX14 TX14 9, w ∈ wsX14_begin := by decide +kernel
  refine lv_aload_n hx hb dX14_begin_0 rfl (lv_at hl 0 rfl) ?_
  refine va_get (D := (dC, dI)) (ci := 19) (v := .int (nI lo - 500)) (C := RX14) (T := TX14) (N := 9) hx hb hts iWX14 hown hK hP 0 rfl rfl 4 (by decide) (hts (.fieldLink RX14 19 "BeaverhallModel$Run" "left" "I") (by decide +kernel)) (fun _ h9 => h9) rfl dX14_begin_1 ?_
  refine lv_istore_n (lv' := [(1, .int (nI lo - 500)), (0, .ref ra)]) hx hb dX14_begin_4 rfl hl (by decide) rfl (fun ls hl => ?_)
  refine lp_go (σ := Nat × (Nat → Int32)) (fun x => match x with | (j_5, g_5) => lo ≤ j_5 ∧ j_5 ≤ hi + 1 ∧ g_5 = (fun q => if lo ≤ q ∧ q < j_5 then 0 else f q)) (fun x => match x with | (j_5, g_5) => hi + 1 - j_5) (fun x => [(ra, .inr (19, [.ref ma, .ref ta, .int (nI a), .int (nI c0 - 500), .int (nI lo - 500), .int (nI hi - 500), .int sp, .int hh, .int ib])), (ta, .inl (cI, 1001, .inl x.2))]) (fun x => [(0, .ref ra), (1, .int (nI x.1 - 500))]) (fun _ => []) (fun x hI ih5 H locs hP hD hS ls hl => ?_) (lo, f) ⟨Nat.le_refl _, by omega, by funext q; rw [if_neg (by omega)]⟩ (hP.sub [0, 1] rfl) (hD.sub [0, 1] (by decide) rfl) hS (lv_sub hl [1, 0] rfl)
  obtain ⟨j_5, g_5⟩ := x
  have hP : va_P (dC, dI) vwCl [(ra, .inr (19, [.ref ma, .ref ta, .int (nI a), .int (nI c0 - 500), .int (nI lo - 500), .int (nI hi - 500), .int sp, .int hh, .int ib])), (ta, .inl (cI, 1001, .inl g_5))] H := hP
  have hD : va_D A [(ra, .inr (19, [.ref ma, .ref ta, .int (nI a), .int (nI c0 - 500), .int (nI lo - 500), .int (nI hi - 500), .int sp, .int hh, .int ib])), (ta, .inl (cI, 1001, .inl g_5))] := hD
  have hl : lv_has ls 2 [(0, .ref ra), (1, .int (nI j_5 - 500))] := hl
  try dsimp only at hI
  have ih5 := ih5
  refine lv_iload_n hx hb dX14_begin_5 rfl (lv_at hl 1 rfl) ?_
  refine lv_aload_n hx hb dX14_begin_6 rfl (lv_at hl 0 rfl) ?_
  refine va_get (D := (dC, dI)) (ci := 19) (v := .int (nI hi - 500)) (C := RX14) (T := TX14) (N := 9) hx hb hts iWX14 hown hK hP 0 rfl rfl 5 (by decide) (hts (.fieldLink RX14 23 "BeaverhallModel$Run" "right" "I") (by decide +kernel)) (fun _ h9 => h9) rfl dX14_begin_7 ?_
  refine lv_icmp_gt (tgt := 30) hx hb dX14_begin_10 (by decide) (fun c10_1 => ?_) (fun c10_1 => ?_)
  · have hg : g_5 = (fun _ => 0) := by
      have h11 := (cN_lt (a := hi) (b := j_5) (by omega) (by have := hI.2.1; omega)).mp c10_1
      rw [hI.2.2]; funext q; by_cases hq : lo ≤ q ∧ q < j_5
      · rw [if_pos hq]
      · rw [if_neg hq]; exact h10 q (by omega)
    subst hg
    refine lv_aload_n hx hb dX14_begin_30 rfl (lv_at hl 0 rfl) ?_
    refine lv_iconst (v := 0) hx hb dX14_begin_31 (by decide) ?_
    refine va_put (D := (dC, dI)) (ci := 19) (v := .int 0) (ty := .int) (C := RX14) (T := TX14) (N := 9) hx hb hts iWX14 tyX14 tyX14_ok nmX14 hown hK hP hD hS 0 rfl rfl 2 (by decide) (hts (.fieldLink RX14 26 "BeaverhallModel$Run" "state" "I") (by decide +kernel)) (fun _ h9 => h9) rfl (by decide +kernel) rfl rfl (Nat.le_of_ble_eq_true rfl) dX14_begin_32 (fun H locs hP hD hS => ?_)
    have hP : va_P (dC, dI) vwCl [(ra, .inr (19, [.ref ma, .ref ta, .int 0, .int (nI c0 - 500), .int (nI lo - 500), .int (nI hi - 500), .int sp, .int hh, .int ib])), (ta, .inl (cI, 1001, .inl (fun _ => 0)))] H := hP
    have hD : va_D A [(ra, .inr (19, [.ref ma, .ref ta, .int 0, .int (nI c0 - 500), .int (nI lo - 500), .int (nI hi - 500), .int sp, .int hh, .int ib])), (ta, .inl (cI, 1001, .inl (fun _ => 0)))] := hD
    refine lv_aload_n hx hb dX14_begin_35 rfl (lv_at hl 0 rfl) ?_
    refine lv_iconst (v := 0) hx hb dX14_begin_36 (by decide) ?_
    refine va_put (D := (dC, dI)) (ci := 19) (v := .int 0) (ty := .int) (C := RX14) (T := TX14) (N := 9) hx hb hts iWX14 tyX14 tyX14_ok nmX14 hown hK hP hD hS 0 rfl rfl 3 (by decide) (hts (.fieldLink RX14 29 "BeaverhallModel$Run" "cell" "I") (by decide +kernel)) (fun _ h9 => h9) rfl (by decide +kernel) rfl rfl (Nat.le_of_ble_eq_true rfl) dX14_begin_37 (fun H locs hP hD hS => ?_)
    have hP : va_P (dC, dI) vwCl [(ra, .inr (19, [.ref ma, .ref ta, .int 0, .int 0, .int (nI lo - 500), .int (nI hi - 500), .int sp, .int hh, .int ib])), (ta, .inl (cI, 1001, .inl (fun _ => 0)))] H := hP
    have hD : va_D A [(ra, .inr (19, [.ref ma, .ref ta, .int 0, .int 0, .int (nI lo - 500), .int (nI hi - 500), .int sp, .int hh, .int ib])), (ta, .inl (cI, 1001, .inl (fun _ => 0)))] := hD
    refine lv_aload_n hx hb dX14_begin_40 rfl (lv_at hl 0 rfl) ?_
    refine lv_iconst (v := 0) hx hb dX14_begin_41 (by decide) ?_
    refine va_put (D := (dC, dI)) (ci := 19) (v := .int 0) (ty := .int) (C := RX14) (T := TX14) (N := 9) hx hb hts iWX14 tyX14 tyX14_ok nmX14 hown hK hP hD hS 0 rfl rfl 4 (by decide) (hts (.fieldLink RX14 19 "BeaverhallModel$Run" "left" "I") (by decide +kernel)) (fun _ h9 => h9) rfl (by decide +kernel) rfl rfl (Nat.le_of_ble_eq_true rfl) dX14_begin_42 (fun H locs hP hD hS => ?_)
    have hP : va_P (dC, dI) vwCl [(ra, .inr (19, [.ref ma, .ref ta, .int 0, .int 0, .int 0, .int (nI hi - 500), .int sp, .int hh, .int ib])), (ta, .inl (cI, 1001, .inl (fun _ => 0)))] H := hP
    have hD : va_D A [(ra, .inr (19, [.ref ma, .ref ta, .int 0, .int 0, .int 0, .int (nI hi - 500), .int sp, .int hh, .int ib])), (ta, .inl (cI, 1001, .inl (fun _ => 0)))] := hD
    refine lv_aload_n hx hb dX14_begin_45 rfl (lv_at hl 0 rfl) ?_
    refine lv_iconst (v := 0) hx hb dX14_begin_46 (by decide) ?_
    refine va_put (D := (dC, dI)) (ci := 19) (v := .int 0) (ty := .int) (C := RX14) (T := TX14) (N := 9) hx hb hts iWX14 tyX14 tyX14_ok nmX14 hown hK hP hD hS 0 rfl rfl 5 (by decide) (hts (.fieldLink RX14 23 "BeaverhallModel$Run" "right" "I") (by decide +kernel)) (fun _ h9 => h9) rfl (by decide +kernel) rfl rfl (Nat.le_of_ble_eq_true rfl) dX14_begin_47 (fun H locs hP hD hS => ?_)
    have hP : va_P (dC, dI) vwCl [(ra, .inr (19, [.ref ma, .ref ta, .int 0, .int 0, .int 0, .int 0, .int sp, .int hh, .int ib])), (ta, .inl (cI, 1001, .inl (fun _ => 0)))] H := hP
    have hD : va_D A [(ra, .inr (19, [.ref ma, .ref ta, .int 0, .int 0, .int 0, .int 0, .int sp, .int hh, .int ib])), (ta, .inl (cI, 1001, .inl (fun _ => 0)))] := hD
    refine lv_aload_n hx hb dX14_begin_50 rfl (lv_at hl 0 rfl) ?_
    refine lv_iconst (v := 0) hx hb dX14_begin_51 (by decide) ?_
    refine va_put (D := (dC, dI)) (ci := 19) (v := .int 0) (ty := .int) (C := RX14) (T := TX14) (N := 9) hx hb hts iWX14 tyX14 tyX14_ok nmX14 hown hK hP hD hS 0 rfl rfl 6 (by decide) (hts (.fieldLink RX14 32 "BeaverhallModel$Run" "steps" "I") (by decide +kernel)) (fun _ h9 => h9) rfl (by decide +kernel) rfl rfl (Nat.le_of_ble_eq_true rfl) dX14_begin_52 (fun H locs hP hD hS => ?_)
    have hP : va_P (dC, dI) vwCl [(ra, .inr (19, [.ref ma, .ref ta, .int 0, .int 0, .int 0, .int 0, .int 0, .int hh, .int ib])), (ta, .inl (cI, 1001, .inl (fun _ => 0)))] H := hP
    have hD : va_D A [(ra, .inr (19, [.ref ma, .ref ta, .int 0, .int 0, .int 0, .int 0, .int 0, .int hh, .int ib])), (ta, .inl (cI, 1001, .inl (fun _ => 0)))] := hD
    refine lv_aload_n hx hb dX14_begin_55 rfl (lv_at hl 0 rfl) ?_
    refine lv_iconst (v := 0) hx hb dX14_begin_56 (by decide) ?_
    refine va_put (D := (dC, dI)) (ci := 19) (v := .int 0) (ty := .boolean) (C := RX14) (T := TX14) (N := 9) hx hb hts iWX14 tyX14 tyX14_ok nmX14 hown hK hP hD hS 0 rfl rfl 7 (by decide) (hts (.fieldLink RX14 35 "BeaverhallModel$Run" "hasHalted" "Z") (by decide +kernel)) (fun _ h9 => h9) rfl (by decide +kernel) rfl rfl (Nat.le_of_ble_eq_true rfl) dX14_begin_57 (fun H locs hP hD hS => ?_)
    have hP : va_P (dC, dI) vwCl [(ra, .inr (19, [.ref ma, .ref ta, .int 0, .int 0, .int 0, .int 0, .int 0, .int 0, .int ib])), (ta, .inl (cI, 1001, .inl (fun _ => 0)))] H := hP
    have hD : va_D A [(ra, .inr (19, [.ref ma, .ref ta, .int 0, .int 0, .int 0, .int 0, .int 0, .int 0, .int ib])), (ta, .inl (cI, 1001, .inl (fun _ => 0)))] := hD
    refine lv_aload_n hx hb dX14_begin_60 rfl (lv_at hl 0 rfl) ?_
    refine lv_iconst (v := 0) hx hb dX14_begin_61 (by decide) ?_
    refine va_put (D := (dC, dI)) (ci := 19) (v := .int 0) (ty := .boolean) (C := RX14) (T := TX14) (N := 9) hx hb hts iWX14 tyX14 tyX14_ok nmX14 hown hK hP hD hS 0 rfl rfl 8 (by decide) (hts (.fieldLink RX14 39 "BeaverhallModel$Run" "isBound" "Z") (by decide +kernel)) (fun _ h9 => h9) rfl (by decide +kernel) rfl rfl (Nat.le_of_ble_eq_true rfl) dX14_begin_62 (fun H locs hP hD hS => ?_)
    have hP : va_P (dC, dI) vwCl [(ra, .inr (19, [.ref ma, .ref ta, .int 0, .int 0, .int 0, .int 0, .int 0, .int 0, .int 0])), (ta, .inl (cI, 1001, .inl (fun _ => 0)))] H := hP
    have hD : va_D A [(ra, .inr (19, [.ref ma, .ref ta, .int 0, .int 0, .int 0, .int 0, .int 0, .int 0, .int 0])), (ta, .inl (cI, 1001, .inl (fun _ => 0)))] := hD
    have hP9 := hP.sub (ws' := [(ra, .inr (19, [.ref ma, .ref ta, .int 0, .int 0, .int 0, .int 0, .int 0, .int 0, .int 0])), (ta, .inl (cI, 1001, .inl (fun _ => 0)))]) [0, 1] rfl
    have hD9 := hD.sub (ws' := [(ra, .inr (19, [.ref ma, .ref ta, .int 0, .int 0, .int 0, .int 0, .int 0, .int 0, .int 0])), (ta, .inl (cI, 1001, .inl (fun _ => 0)))]) [0, 1] (by decide) rfl
    have hK9 := hK.sub (tys' := [(cI, .int)]) [0] rfl
    exact W.vret hx hb hr (fun t ht hW => ⟨⟨(), rfl, trivial, ⟨by rw [ht]; exact hP9, va_K.moved hW.alike hK9, hD9⟩⟩, hS.F ht⟩) hS.2.2 dX14_begin_65
  · refine lv_aload_n hx hb dX14_begin_13 rfl (lv_at hl 0 rfl) ?_
    refine va_get (D := (dC, dI)) (ci := 19) (v := .ref ta) (C := RX14) (T := TX14) (N := 9) hx hb hts iWX14 hown hK hP 0 rfl rfl 1 (by decide) (hts (.fieldLink RX14 9 "BeaverhallModel$Run" "tape" "[I") (by decide +kernel)) (fun _ h9 => h9) rfl dX14_begin_14 ?_
    refine lv_sipush (v := 500) hx hb dX14_begin_17 (by decide) ?_
    refine lv_iload_n hx hb dX14_begin_20 rfl (lv_at hl 1 rfl) ?_
    refine lv_iadd hx hb dX14_begin_21 ?_
    refine lv_iconst (v := 0) hx hb dX14_begin_22 (by decide) ?_
    refine va_iast hx hb hK hP hD hS 1 0 rfl rfl (cell_in (by have := mt (cN_lt (a := hi) (b := j_5) (by omega) (by have := hI.2.1; omega)).mpr c10_1; omega)) dX14_begin_23 (fun H locs hP hD hS => ?_)
    obtain ⟨f_2, ef_2⟩ : ∃ z, z = (upd g_5 ((500 + (nI j_5 - 500))).toNatClampNeg 0) := ⟨_, rfl⟩
    have hP : va_P (dC, dI) vwCl [(ra, .inr (19, [.ref ma, .ref ta, .int (nI a), .int (nI c0 - 500), .int (nI lo - 500), .int (nI hi - 500), .int sp, .int hh, .int ib])), (ta, .inl (cI, 1001, .inl f_2))] H := by rw [ef_2]; exact hP
    have hD : va_D A [(ra, .inr (19, [.ref ma, .ref ta, .int (nI a), .int (nI c0 - 500), .int (nI lo - 500), .int (nI hi - 500), .int sp, .int hh, .int ib])), (ta, .inl (cI, 1001, .inl f_2))] := by rw [ef_2]; exact hD
    obtain ⟨y_3, ey_3⟩ : ∃ y : Int32, y = (nI j_5 - 500) + 1 := ⟨_, rfl⟩
    refine lv_iinc (v := y_3) (lv' := [(1, .int y_3), (0, .ref ra)]) hx hb dX14_begin_24 hl (k := 1) rfl (by rw [ey_3]; rfl) (by decide) rfl (fun ls hl => ?_)
    obtain rfl : y_3 = nI (j_5 + 1) - 500 := by rw [ey_3]; exact cN_succ _
    refine lv_goto (tgt := 5) hx hb dX14_begin_27 (by decide) ?_
    exact ih5 ((j_5 + 1), f_2) ⟨by omega, by have := hI.2.1; have := mt (cN_lt (by omega) (by omega)).mpr c10_1; omega, by rw [ef_2, cell_cl (by have := hI.2.1; omega), hI.2.2]; funext q; have := hI.1; by_cases hq : q = j_5 <;> simp only [upd, hq] <;> (try rw [if_pos (by omega)]) <;> (try rfl) <;> (by_cases hz : lo ≤ q ∧ q < j_5 <;> simp [hq, hz] <;> (try omega))⟩ (by have := mt (cN_lt (a := hi) (b := j_5) (by omega) (by have := hI.2.1; omega)).mpr c10_1; show hi + 1 - (j_5 + 1) < hi + 1 - j_5; omega) _ _ (hP.sub [0, 1] rfl) (hD.sub [0, 1] (by decide) rfl) hS ls (lv_sub hl [1, 0] rfl)

set_option maxHeartbeats 4000000 in
set_option maxRecDepth 100000 in
/-- X14_marks -/
theorem c_X14_marks (l : Launch) (dC : Nat → ClassId) (dI : Nat → Nat → Nat) (cI : ClassId) (ma S G : Nat) (ra ta : Nat) (st ce lf rt sp hh ib : Int32) (f : Nat → Int32) (hR : okR S G (st, ce, lf, rt, sp, hh, ib, f)) (sz : Nat) : Met l yX14_marks wsX14_marks ({ frames := 0, cells := 0, slots := 0, locals := 0 }) (va_Pc [.ref ra] (cPC dC dI [(ra, .inr (19, [.ref ma, .ref ta, .int st, .int ce, .int lf, .int rt, .int sp, .int hh, .int ib])), (ta, .inl (cI, 1001, .inl f))] [(cI, .int)] sz)) (va_Qi (fun (r : Int32) (u : Unit) => r = marksR lf rt f) (fun (u : Unit) t => cQB dC dI [(ra, .inr (19, [.ref ma, .ref ta, .int st, .int ce, .int lf, .int rt, .int sp, .int hh, .int ib])), (ta, .inl (cI, 1001, .inl f))] [(cI, .int)] (va_A [(ra, .inr (19, [.ref ma, .ref ta, .int st, .int ce, .int lf, .int rt, .int sp, .int hh, .int ib])), (ta, .inl (cI, 1001, .inl f))] sz) t) (va_A [(ra, .inr (19, [.ref ma, .ref ta, .int st, .int ce, .int lf, .int rt, .int sp, .int hh, .int ib])), (ta, .inl (cI, 1001, .inl f))] sz)) 0 0 (va_A [(ra, .inr (19, [.ref ma, .ref ta, .int st, .int ce, .int lf, .int rt, .int sp, .int hh, .int ib])), (ta, .inl (cI, 1001, .inl f))] sz) := by
  refine Met.ofW (cc := cX14_marks) (maxL := 3) (ret := (some .int)) (by decide) rfl ?_
  intro p e s m args below meth c s₁ B hml hv
  obtain ⟨rfl, hsz, hP, hK, hD0, hN⟩ := hv
  have hx := B.exec
  have hb := B.bytes
  have hr := B.returns
  have hts := atoms_spec (ws := wsX14_marks) B.pre
  have hown : s.vm.findClass RX14 = some m.cls := findClass_of_methodNamed B.named
  have hlocks := B.notSynchronized
  subst hsz
  have hD := hD0.self (sz := s.heap.size)
  generalize hAe : va_A [(ra, .inr (19, [.ref ma, .ref ta, .int st, .int ce, .int lf, .int rt, .int sp, .int hh, .int ib])), (ta, .inl (cI, 1001, .inl f))] s.heap.size = A at hD ⊢
  have hA : ∀ q : Nat, s.heap.size ≤ q → A q := fun q h => by rw [← hAe]; exact Or.inr h
  have hS : va_S A s.heap s.heap [] := va_S.rf
  have hP : va_P (dC, dI) vwCl [(ra, .inr (19, [.ref ma, .ref ta, .int st, .int ce, .int lf, .int rt, .int sp, .int hh, .int ib])), (ta, .inl (cI, 1001, .inl f))] s.heap := hP
  have hD : va_D A [(ra, .inr (19, [.ref ma, .ref ta, .int st, .int ce, .int lf, .int rt, .int sp, .int hh, .int ib])), (ta, .inl (cI, 1001, .inl f))] := hD
  have hl := lv_entry ([.ref ra]) (n := 3) (Nat.le_of_ble_eq_true rfl)
  rw [lg_entry_eq]
  generalize (lg_sl ([.ref ra]) ++ List.replicate (3 - (lg_sl ([.ref ra])).length) Slot.unset).toArray = ls at hl ⊢
  have hl : lv_has ls 3 [(0, .ref ra)] := hl
  obtain ⟨a, c0, lo, hi, rfl, rfl, rfl, rfl, h1, h2, h3, h4, h5, h6, h7, h8, h9, h10⟩ := hR
  have hP : va_P (dC, dI) vwCl [(ra, .inr (19, [.ref ma, .ref ta, .int (nI a), .int (nI c0 - 500), .int (nI lo - 500), .int (nI hi - 500), .int sp, .int hh, .int ib])), (ta, .inl (cI, 1001, .inl f))] s.heap := hP
  have hD : va_D A [(ra, .inr (19, [.ref ma, .ref ta, .int (nI a), .int (nI c0 - 500), .int (nI lo - 500), .int (nI hi - 500), .int sp, .int hh, .int ib])), (ta, .inl (cI, 1001, .inl f))] := hD
  have iWX14 : ∀ w ∈ u_ws RX14 TX14 9, w ∈ wsX14_marks := by decide +kernel
  refine lv_iconst (v := 0) hx hb dX14_marks_0 (by decide) ?_
  refine lv_istore_n (lv' := [(1, .int 0), (0, .ref ra)]) hx hb dX14_marks_1 rfl hl (by decide) rfl (fun ls hl => ?_)
  refine lv_aload_n hx hb dX14_marks_2 rfl (lv_at hl 1 rfl) ?_
  refine va_get (D := (dC, dI)) (ci := 19) (v := .int (nI lo - 500)) (C := RX14) (T := TX14) (N := 9) hx hb hts iWX14 hown hK hP 0 rfl rfl 4 (by decide) (hts (.fieldLink RX14 19 "BeaverhallModel$Run" "left" "I") (by decide +kernel)) (fun _ h9 => h9) rfl dX14_marks_3 ?_
  refine lv_istore_n (lv' := [(2, .int (nI lo - 500)), (1, .int 0), (0, .ref ra)]) hx hb dX14_marks_6 rfl hl (by decide) rfl (fun ls hl => ?_)
  refine lp_go (σ := Nat × Int32) (fun x => match x with | (j_7, z_7) => lo ≤ j_7 ∧ j_7 ≤ hi + 1 ∧ z_7 = cntN f lo (j_7 - lo)) (fun x => match x with | (j_7, z_7) => hi + 1 - j_7) (fun x => [(ra, .inr (19, [.ref ma, .ref ta, .int (nI a), .int (nI c0 - 500), .int (nI lo - 500), .int (nI hi - 500), .int sp, .int hh, .int ib])), (ta, .inl (cI, 1001, .inl f))]) (fun x => [(0, .ref ra), (1, .int x.2), (2, .int (nI x.1 - 500))]) (fun _ => []) (fun x hI ih7 H locs hP hD hS ls hl => ?_) (lo, 0) ⟨Nat.le_refl _, by omega, by rw [Nat.sub_self]; rfl⟩ (hP.sub [0, 1] rfl) (hD.sub [0, 1] (by decide) rfl) hS (lv_sub hl [2, 1, 0] rfl)
  obtain ⟨j_7, z_7⟩ := x
  have hP : va_P (dC, dI) vwCl [(ra, .inr (19, [.ref ma, .ref ta, .int (nI a), .int (nI c0 - 500), .int (nI lo - 500), .int (nI hi - 500), .int sp, .int hh, .int ib])), (ta, .inl (cI, 1001, .inl f))] H := hP
  have hD : va_D A [(ra, .inr (19, [.ref ma, .ref ta, .int (nI a), .int (nI c0 - 500), .int (nI lo - 500), .int (nI hi - 500), .int sp, .int hh, .int ib])), (ta, .inl (cI, 1001, .inl f))] := hD
  have hl : lv_has ls 3 [(0, .ref ra), (1, .int z_7), (2, .int (nI j_7 - 500))] := hl
  try dsimp only at hI
  have ih7 := ih7
  refine lv_iload_n hx hb dX14_marks_7 rfl (lv_at hl 2 rfl) ?_
  refine lv_aload_n hx hb dX14_marks_8 rfl (lv_at hl 0 rfl) ?_
  refine va_get (D := (dC, dI)) (ci := 19) (v := .int (nI hi - 500)) (C := RX14) (T := TX14) (N := 9) hx hb hts iWX14 hown hK hP 0 rfl rfl 5 (by decide) (hts (.fieldLink RX14 23 "BeaverhallModel$Run" "right" "I") (by decide +kernel)) (fun _ h9 => h9) rfl dX14_marks_9 ?_
  refine lv_icmp_gt (tgt := 42) hx hb dX14_marks_12 (by decide) (fun c12_1 => ?_) (fun c12_1 => ?_)
  · refine lv_iload_n hx hb dX14_marks_42 rfl (lv_at hl 1 rfl) ?_
    have hP9 := hP.sub (ws' := [(ra, .inr (19, [.ref ma, .ref ta, .int (nI a), .int (nI c0 - 500), .int (nI lo - 500), .int (nI hi - 500), .int sp, .int hh, .int ib])), (ta, .inl (cI, 1001, .inl f))]) [0, 1] rfl
    have hD9 := hD.sub (ws' := [(ra, .inr (19, [.ref ma, .ref ta, .int (nI a), .int (nI c0 - 500), .int (nI lo - 500), .int (nI hi - 500), .int sp, .int hh, .int ib])), (ta, .inl (cI, 1001, .inl f))]) [0, 1] (by decide) rfl
    have hK9 := hK.sub (tys' := [(cI, .int)]) [0] rfl
    exact W.iret (v := z_7) hx hb hr (fun t ht hW => ⟨⟨z_7, (), rfl, (by have := (cN_lt (a := hi) (b := j_7) (by omega) (by have := hI.2.1; omega)).mp c12_1; unfold marksR; rw [cell_cl (by omega), cell_cl (by omega), hI.2.2, show j_7 = hi + 1 from by have := hI.2.1; omega]), ⟨by rw [ht]; exact hP9, va_K.moved hW.alike hK9, hD9⟩⟩, hS.F ht⟩) hS.2.2 dX14_marks_43
  · refine lv_iload_n hx hb dX14_marks_15 rfl (lv_at hl 1 rfl) ?_
    refine lv_aload_n hx hb dX14_marks_16 rfl (lv_at hl 0 rfl) ?_
    refine va_get (D := (dC, dI)) (ci := 19) (v := .ref ta) (C := RX14) (T := TX14) (N := 9) hx hb hts iWX14 hown hK hP 0 rfl rfl 1 (by decide) (hts (.fieldLink RX14 9 "BeaverhallModel$Run" "tape" "[I") (by decide +kernel)) (fun _ h9 => h9) rfl dX14_marks_17 ?_
    refine lv_sipush (v := 500) hx hb dX14_marks_20 (by decide) ?_
    refine lv_iload_n hx hb dX14_marks_23 rfl (lv_at hl 2 rfl) ?_
    refine lv_iadd hx hb dX14_marks_24 ?_
    refine va_iald hx hb hK hP 1 0 rfl rfl (cell_in (by have := mt (cN_lt (a := hi) (b := j_7) (by omega) (by have := hI.2.1; omega)).mpr c12_1; omega)) dX14_marks_25 ?_
    refine lv_if_ne (tgt := 33) hx hb dX14_marks_26 (by decide) (fun c26_2 => ?_) (fun c26_2 => ?_)
    · refine lv_iconst (v := 1) hx hb dX14_marks_33 (by decide) ?_
      refine lv_iadd hx hb dX14_marks_34 ?_
      refine lv_topi (fun x_3 ex_3 => ?_)
      refine lv_istore_n (lv' := [(1, .int x_3), (0, .ref ra), (2, .int (nI j_7 - 500))]) hx hb dX14_marks_35 rfl hl (by decide) rfl (fun ls hl => ?_)
      obtain ⟨y_4, ey_4⟩ : ∃ y : Int32, y = (nI j_7 - 500) + 1 := ⟨_, rfl⟩
      refine lv_iinc (v := y_4) (lv' := [(2, .int y_4), (1, .int x_3), (0, .ref ra)]) hx hb dX14_marks_36 hl (k := 2) rfl (by rw [ey_4]; rfl) (by decide) rfl (fun ls hl => ?_)
      obtain rfl : y_4 = nI (j_7 + 1) - 500 := by rw [ey_4]; exact cN_succ _
      refine lv_goto (tgt := 7) hx hb dX14_marks_39 (by decide) ?_
      exact ih7 ((j_7 + 1), x_3) ⟨by omega, by have := hI.2.1; have := mt (cN_lt (by omega) (by omega)).mpr c12_1; omega, by rw [ex_3, hI.2.2, show j_7 + 1 - lo = (j_7 - lo) + 1 from by omega]; simp only [cntN]; rw [show lo + (j_7 - lo) = j_7 from by omega]; have hq := c26_2; rw [cell_cl (by have := hI.2.1; omega)] at hq; simp [hq]⟩ (by have := mt (cN_lt (a := hi) (b := j_7) (by omega) (by have := hI.2.1; omega)).mpr c12_1; show hi + 1 - (j_7 + 1) < hi + 1 - j_7; omega) _ _ (hP.sub [0, 1] rfl) (hD.sub [0, 1] (by decide) rfl) hS ls (lv_sub hl [2, 1, 0] rfl)
    · refine lv_iconst (v := 0) hx hb dX14_marks_29 (by decide) ?_
      refine lv_goto (tgt := 34) hx hb dX14_marks_30 (by decide) ?_
      refine lv_iadd hx hb dX14_marks_34 ?_
      refine lv_topi (fun x_5 ex_5 => ?_)
      refine lv_istore_n (lv' := [(1, .int x_5), (0, .ref ra), (2, .int (nI j_7 - 500))]) hx hb dX14_marks_35 rfl hl (by decide) rfl (fun ls hl => ?_)
      obtain ⟨y_6, ey_6⟩ : ∃ y : Int32, y = (nI j_7 - 500) + 1 := ⟨_, rfl⟩
      refine lv_iinc (v := y_6) (lv' := [(2, .int y_6), (1, .int x_5), (0, .ref ra)]) hx hb dX14_marks_36 hl (k := 2) rfl (by rw [ey_6]; rfl) (by decide) rfl (fun ls hl => ?_)
      obtain rfl : y_6 = nI (j_7 + 1) - 500 := by rw [ey_6]; exact cN_succ _
      refine lv_goto (tgt := 7) hx hb dX14_marks_39 (by decide) ?_
      exact ih7 ((j_7 + 1), x_5) ⟨by omega, by have := hI.2.1; have := mt (cN_lt (by omega) (by omega)).mpr c12_1; omega, by rw [ex_5, hI.2.2, show j_7 + 1 - lo = (j_7 - lo) + 1 from by omega]; simp only [cntN]; rw [show lo + (j_7 - lo) = j_7 from by omega]; have hq := c26_2; rw [cell_cl (by have := hI.2.1; omega)] at hq; simp [hq]⟩ (by have := mt (cN_lt (a := hi) (b := j_7) (by omega) (by have := hI.2.1; omega)).mpr c12_1; show hi + 1 - (j_7 + 1) < hi + 1 - j_7; omega) _ _ (hP.sub [0, 1] rfl) (hD.sub [0, 1] (by decide) rfl) hS ls (lv_sub hl [2, 1, 0] rfl)

set_option maxHeartbeats 4000000 in
set_option maxRecDepth 100000 in
/-- X14_isAs -/
theorem c_X14_isAs (l : Launch) (dC : Nat → ClassId) (dI : Nat → Nat → Nat) (cI : ClassId) (ma S G S2 G2 : Nat) (ra ta : Nat) (st ce lf rt sp hh ib : Int32) (f : Nat → Int32) (rb tb mb : Nat) (st2 ce2 lf2 rt2 sp2 hh2 ib2 : Int32) (f2 : Nat → Int32) (hR : okR S G (st, ce, lf, rt, sp, hh, ib, f)) (hR2 : okR S2 G2 (st2, ce2, lf2, rt2, sp2, hh2, ib2, f2)) (sz : Nat) : Met l yX14_isAs wsX14_isAs ({ frames := 1, cells := 0, slots := 0, locals := 40 }) (va_Pc [.ref ra, .ref rb] (cPC dC dI [(ra, .inr (19, [.ref ma, .ref ta, .int st, .int ce, .int lf, .int rt, .int sp, .int hh, .int ib])), (ta, .inl (cI, 1001, .inl f)), (rb, .inr (19, [.ref mb, .ref tb, .int st2, .int ce2, .int lf2, .int rt2, .int sp2, .int hh2, .int ib2])), (tb, .inl (cI, 1001, .inl f2))] [(cI, .int)] sz)) (va_Qi (fun (r : Int32) (u : Unit) => (r = 1 ∧ alikeR (st, ce, lf, rt, sp, hh, ib, f) (st2, ce2, lf2, rt2, sp2, hh2, ib2, f2)) ∨ (r = 0 ∧ ¬ alikeR (st, ce, lf, rt, sp, hh, ib, f) (st2, ce2, lf2, rt2, sp2, hh2, ib2, f2))) (fun (u : Unit) t => cQB dC dI [(ra, .inr (19, [.ref ma, .ref ta, .int st, .int ce, .int lf, .int rt, .int sp, .int hh, .int ib])), (ta, .inl (cI, 1001, .inl f)), (rb, .inr (19, [.ref mb, .ref tb, .int st2, .int ce2, .int lf2, .int rt2, .int sp2, .int hh2, .int ib2])), (tb, .inl (cI, 1001, .inl f2))] [(cI, .int)] (va_A [(ra, .inr (19, [.ref ma, .ref ta, .int st, .int ce, .int lf, .int rt, .int sp, .int hh, .int ib])), (ta, .inl (cI, 1001, .inl f)), (rb, .inr (19, [.ref mb, .ref tb, .int st2, .int ce2, .int lf2, .int rt2, .int sp2, .int hh2, .int ib2])), (tb, .inl (cI, 1001, .inl f2))] sz) t) (va_A [(ra, .inr (19, [.ref ma, .ref ta, .int st, .int ce, .int lf, .int rt, .int sp, .int hh, .int ib])), (ta, .inl (cI, 1001, .inl f)), (rb, .inr (19, [.ref mb, .ref tb, .int st2, .int ce2, .int lf2, .int rt2, .int sp2, .int hh2, .int ib2])), (tb, .inl (cI, 1001, .inl f2))] sz)) 0 0 (va_A [(ra, .inr (19, [.ref ma, .ref ta, .int st, .int ce, .int lf, .int rt, .int sp, .int hh, .int ib])), (ta, .inl (cI, 1001, .inl f)), (rb, .inr (19, [.ref mb, .ref tb, .int st2, .int ce2, .int lf2, .int rt2, .int sp2, .int hh2, .int ib2])), (tb, .inl (cI, 1001, .inl f2))] sz) := by
  refine Met.ofW (cc := cX14_isAs) (maxL := 3) (ret := (some .boolean)) (by decide) rfl ?_
  intro p e s m args below meth c s₁ B hml hv
  obtain ⟨rfl, hsz, hP, hK, hD0, hN⟩ := hv
  have hx := B.exec
  have hb := B.bytes
  have hr := B.returns
  have hts := atoms_spec (ws := wsX14_isAs) B.pre
  have hown : s.vm.findClass RX14 = some m.cls := findClass_of_methodNamed B.named
  have hlocks := B.notSynchronized
  subst hsz
  have hD := hD0.self (sz := s.heap.size)
  generalize hAe : va_A [(ra, .inr (19, [.ref ma, .ref ta, .int st, .int ce, .int lf, .int rt, .int sp, .int hh, .int ib])), (ta, .inl (cI, 1001, .inl f)), (rb, .inr (19, [.ref mb, .ref tb, .int st2, .int ce2, .int lf2, .int rt2, .int sp2, .int hh2, .int ib2])), (tb, .inl (cI, 1001, .inl f2))] s.heap.size = A at hD ⊢
  have hA : ∀ q : Nat, s.heap.size ≤ q → A q := fun q h => by rw [← hAe]; exact Or.inr h
  have hS : va_S A s.heap s.heap [] := va_S.rf
  have hP : va_P (dC, dI) vwCl [(ra, .inr (19, [.ref ma, .ref ta, .int st, .int ce, .int lf, .int rt, .int sp, .int hh, .int ib])), (ta, .inl (cI, 1001, .inl f)), (rb, .inr (19, [.ref mb, .ref tb, .int st2, .int ce2, .int lf2, .int rt2, .int sp2, .int hh2, .int ib2])), (tb, .inl (cI, 1001, .inl f2))] s.heap := hP
  have hD : va_D A [(ra, .inr (19, [.ref ma, .ref ta, .int st, .int ce, .int lf, .int rt, .int sp, .int hh, .int ib])), (ta, .inl (cI, 1001, .inl f)), (rb, .inr (19, [.ref mb, .ref tb, .int st2, .int ce2, .int lf2, .int rt2, .int sp2, .int hh2, .int ib2])), (tb, .inl (cI, 1001, .inl f2))] := hD
  have hl := lv_entry ([.ref ra, .ref rb]) (n := 3) (Nat.le_of_ble_eq_true rfl)
  rw [lg_entry_eq]
  generalize (lg_sl ([.ref ra, .ref rb]) ++ List.replicate (3 - (lg_sl ([.ref ra, .ref rb])).length) Slot.unset).toArray = ls at hl ⊢
  have hl : lv_has ls 3 [(0, .ref ra), (1, .ref rb)] := hl
  obtain ⟨a, c0, lo, hi, rfl, rfl, rfl, rfl, h1, h2, h3, h4, h5, h6, h7, h8, h9, h10⟩ := id hR
  obtain ⟨a2, c2, lo2, hi2, rfl, rfl, rfl, rfl, k1, k2, k3, k4, k5, k6, k7, k8, k9, k10⟩ := id hR2
  have hP : va_P (dC, dI) vwCl [(ra, .inr (19, [.ref ma, .ref ta, .int (nI a), .int (nI c0 - 500), .int (nI lo - 500), .int (nI hi - 500), .int sp, .int hh, .int ib])), (ta, .inl (cI, 1001, .inl f)), (rb, .inr (19, [.ref mb, .ref tb, .int (nI a2), .int (nI c2 - 500), .int (nI lo2 - 500), .int (nI hi2 - 500), .int sp2, .int hh2, .int ib2])), (tb, .inl (cI, 1001, .inl f2))] s.heap := hP
  have hD : va_D A [(ra, .inr (19, [.ref ma, .ref ta, .int (nI a), .int (nI c0 - 500), .int (nI lo - 500), .int (nI hi - 500), .int sp, .int hh, .int ib])), (ta, .inl (cI, 1001, .inl f)), (rb, .inr (19, [.ref mb, .ref tb, .int (nI a2), .int (nI c2 - 500), .int (nI lo2 - 500), .int (nI hi2 - 500), .int sp2, .int hh2, .int ib2])), (tb, .inl (cI, 1001, .inl f2))] := hD
  have iWX14 : ∀ w ∈ u_ws RX14 TX14 9, w ∈ wsX14_isAs := by decide +kernel
  refine lv_aload_n hx hb dX14_isAs_0 rfl (lv_at hl 0 rfl) ?_
  refine va_get (D := (dC, dI)) (ci := 19) (v := .int (nI a)) (C := RX14) (T := TX14) (N := 9) hx hb hts iWX14 hown hK hP 0 rfl rfl 2 (by decide) (hts (.fieldLink RX14 26 "BeaverhallModel$Run" "state" "I") (by decide +kernel)) (fun _ h9 => h9) rfl dX14_isAs_1 ?_
  refine lv_aload_n hx hb dX14_isAs_4 rfl (lv_at hl 1 rfl) ?_
  refine va_get (D := (dC, dI)) (ci := 19) (v := .int (nI a2)) (C := RX14) (T := TX14) (N := 9) hx hb hts iWX14 hown hK hP 2 rfl rfl 2 (by decide) (hts (.fieldLink RX14 26 "BeaverhallModel$Run" "state" "I") (by decide +kernel)) (fun _ h9 => h9) rfl dX14_isAs_5 ?_
  refine lv_icmp_ne (tgt := 22) hx hb dX14_isAs_8 (by decide) (fun c8_1 => ?_) (fun c8_1 => ?_)
  · refine lv_iconst (v := 0) hx hb dX14_isAs_22 (by decide) ?_
    have hP9 := hP.sub (ws' := [(ra, .inr (19, [.ref ma, .ref ta, .int (nI a), .int (nI c0 - 500), .int (nI lo - 500), .int (nI hi - 500), .int sp, .int hh, .int ib])), (ta, .inl (cI, 1001, .inl f)), (rb, .inr (19, [.ref mb, .ref tb, .int (nI a2), .int (nI c2 - 500), .int (nI lo2 - 500), .int (nI hi2 - 500), .int sp2, .int hh2, .int ib2])), (tb, .inl (cI, 1001, .inl f2))]) [0, 1, 2, 3] rfl
    have hD9 := hD.sub (ws' := [(ra, .inr (19, [.ref ma, .ref ta, .int (nI a), .int (nI c0 - 500), .int (nI lo - 500), .int (nI hi - 500), .int sp, .int hh, .int ib])), (ta, .inl (cI, 1001, .inl f)), (rb, .inr (19, [.ref mb, .ref tb, .int (nI a2), .int (nI c2 - 500), .int (nI lo2 - 500), .int (nI hi2 - 500), .int sp2, .int hh2, .int ib2])), (tb, .inl (cI, 1001, .inl f2))]) [0, 1, 2, 3] (by decide) rfl
    have hK9 := hK.sub (tys' := [(cI, .int)]) [0] rfl
    exact W.zret (v := 0) hx hb hr (by rfl) (fun t ht hW => ⟨⟨0, (), rfl, (Or.inr ⟨rfl, fun h => c8_1 h.1⟩), ⟨by rw [ht]; exact hP9, va_K.moved hW.alike hK9, hD9⟩⟩, hS.F ht⟩) hS.2.2 dX14_isAs_23
  · refine lv_aload_n hx hb dX14_isAs_11 rfl (lv_at hl 0 rfl) ?_
    refine va_get (D := (dC, dI)) (ci := 19) (v := .int (nI c0 - 500)) (C := RX14) (T := TX14) (N := 9) hx hb hts iWX14 hown hK hP 0 rfl rfl 3 (by decide) (hts (.fieldLink RX14 29 "BeaverhallModel$Run" "cell" "I") (by decide +kernel)) (fun _ h9 => h9) rfl dX14_isAs_12 ?_
    refine lv_aload_n hx hb dX14_isAs_15 rfl (lv_at hl 1 rfl) ?_
    refine va_get (D := (dC, dI)) (ci := 19) (v := .int (nI c2 - 500)) (C := RX14) (T := TX14) (N := 9) hx hb hts iWX14 hown hK hP 2 rfl rfl 3 (by decide) (hts (.fieldLink RX14 29 "BeaverhallModel$Run" "cell" "I") (by decide +kernel)) (fun _ h9 => h9) rfl dX14_isAs_16 ?_
    refine lv_icmp_eq (tgt := 24) hx hb dX14_isAs_19 (by decide) (fun c19_2 => ?_) (fun c19_2 => ?_)
    · refine lv_aload_n hx hb dX14_isAs_24 rfl (lv_at hl 0 rfl) ?_
      refine va_get (D := (dC, dI)) (ci := 19) (v := .int (nI lo - 500)) (C := RX14) (T := TX14) (N := 9) hx hb hts iWX14 hown hK hP 0 rfl rfl 4 (by decide) (hts (.fieldLink RX14 19 "BeaverhallModel$Run" "left" "I") (by decide +kernel)) (fun _ h9 => h9) rfl dX14_isAs_25 ?_
      refine lv_aload_n hx hb dX14_isAs_28 rfl (lv_at hl 1 rfl) ?_
      refine va_get (D := (dC, dI)) (ci := 19) (v := .int (nI lo2 - 500)) (C := RX14) (T := TX14) (N := 9) hx hb hts iWX14 hown hK hP 2 rfl rfl 4 (by decide) (hts (.fieldLink RX14 19 "BeaverhallModel$Run" "left" "I") (by decide +kernel)) (fun _ h9 => h9) rfl dX14_isAs_29 ?_
      refine va_mmin hx hb (hml.trans hl.1.symm) hown (hts (.methodLink RX14 68 Lib.Math.min.name) (by decide +kernel)) (hts (.static Lib.Math.min.name) (by decide +kernel)) (hts (.initialized "java/lang/Math") (by decide +kernel)) (hts (.code Lib.Math.min.name Lib.Math.min.code 2 (some .int)) (by decide +kernel)) (Nat.le_of_ble_eq_true rfl) (Nat.le_of_ble_eq_true rfl) (Nat.le_of_ble_eq_true rfl) (Nat.le_of_ble_eq_true rfl) dX14_isAs_32 ?_
      refine lv_topi (fun x_3 ex_3 => ?_)
      have ex_3 : x_3 = iminJ (nI lo - 500) (nI lo2 - 500) := ex_3
      obtain rfl : x_3 = nI (min lo lo2) - 500 := by rw [ex_3]; exact cN_min (by omega) (by omega)
      refine lv_istore_n (lv' := [(2, .int (nI (min lo lo2) - 500)), (0, .ref ra), (1, .ref rb)]) hx hb dX14_isAs_35 rfl hl (by decide) rfl (fun ls hl => ?_)
      refine lp_go (σ := Nat) (fun j_36 => j_36 ≤ 1001 ∧ ∀ q, q < j_36 → f q = f2 q) (fun j_36 => 1001 - j_36) (fun x => [(ra, .inr (19, [.ref ma, .ref ta, .int (nI a), .int (nI c0 - 500), .int (nI lo - 500), .int (nI hi - 500), .int sp, .int hh, .int ib])), (ta, .inl (cI, 1001, .inl f)), (rb, .inr (19, [.ref mb, .ref tb, .int (nI a2), .int (nI c2 - 500), .int (nI lo2 - 500), .int (nI hi2 - 500), .int sp2, .int hh2, .int ib2])), (tb, .inl (cI, 1001, .inl f2))]) (fun x => [(0, .ref ra), (1, .ref rb), (2, .int (nI x - 500))]) (fun _ => []) (fun x hI ih36 H locs hP hD hS ls hl => ?_) (min lo lo2) ⟨by omega, fun q hq => by rw [h10 q (by omega), k10 q (by omega)]⟩ (hP.sub [0, 1, 2, 3] rfl) (hD.sub [0, 1, 2, 3] (by decide) rfl) hS (lv_sub hl [1, 2, 0] rfl)
      obtain ⟨j_36, ex9⟩ : ∃ z, z = x := ⟨_, rfl⟩
      subst ex9
      have hP : va_P (dC, dI) vwCl [(ra, .inr (19, [.ref ma, .ref ta, .int (nI a), .int (nI c0 - 500), .int (nI lo - 500), .int (nI hi - 500), .int sp, .int hh, .int ib])), (ta, .inl (cI, 1001, .inl f)), (rb, .inr (19, [.ref mb, .ref tb, .int (nI a2), .int (nI c2 - 500), .int (nI lo2 - 500), .int (nI hi2 - 500), .int sp2, .int hh2, .int ib2])), (tb, .inl (cI, 1001, .inl f2))] H := hP
      have hD : va_D A [(ra, .inr (19, [.ref ma, .ref ta, .int (nI a), .int (nI c0 - 500), .int (nI lo - 500), .int (nI hi - 500), .int sp, .int hh, .int ib])), (ta, .inl (cI, 1001, .inl f)), (rb, .inr (19, [.ref mb, .ref tb, .int (nI a2), .int (nI c2 - 500), .int (nI lo2 - 500), .int (nI hi2 - 500), .int sp2, .int hh2, .int ib2])), (tb, .inl (cI, 1001, .inl f2))] := hD
      have hl : lv_has ls 3 [(0, .ref ra), (1, .ref rb), (2, .int (nI j_36 - 500))] := hl
      try dsimp only at hI
      have ih36 := ih36
      refine lv_iload_n hx hb dX14_isAs_36 rfl (lv_at hl 2 rfl) ?_
      refine lv_aload_n hx hb dX14_isAs_37 rfl (lv_at hl 0 rfl) ?_
      refine va_get (D := (dC, dI)) (ci := 19) (v := .int (nI hi - 500)) (C := RX14) (T := TX14) (N := 9) hx hb hts iWX14 hown hK hP 0 rfl rfl 5 (by decide) (hts (.fieldLink RX14 23 "BeaverhallModel$Run" "right" "I") (by decide +kernel)) (fun _ h9 => h9) rfl dX14_isAs_38 ?_
      refine lv_aload_n hx hb dX14_isAs_41 rfl (lv_at hl 1 rfl) ?_
      refine va_get (D := (dC, dI)) (ci := 19) (v := .int (nI hi2 - 500)) (C := RX14) (T := TX14) (N := 9) hx hb hts iWX14 hown hK hP 2 rfl rfl 5 (by decide) (hts (.fieldLink RX14 23 "BeaverhallModel$Run" "right" "I") (by decide +kernel)) (fun _ h9 => h9) rfl dX14_isAs_42 ?_
      refine va_mmax hx hb (hml.trans hl.1.symm) hown (hts (.methodLink RX14 73 Lib.Math.max.name) (by decide +kernel)) (hts (.static Lib.Math.max.name) (by decide +kernel)) (hts (.initialized "java/lang/Math") (by decide +kernel)) (hts (.code Lib.Math.max.name Lib.Math.max.code 2 (some .int)) (by decide +kernel)) (Nat.le_of_ble_eq_true rfl) (Nat.le_of_ble_eq_true rfl) (Nat.le_of_ble_eq_true rfl) (Nat.le_of_ble_eq_true rfl) dX14_isAs_45 ?_
      refine lv_topi (fun x_4 ex_4 => ?_)
      have ex_4 : x_4 = imaxJ (nI hi - 500) (nI hi2 - 500) := ex_4
      refine lv_icmp_gt (tgt := 82) hx hb dX14_isAs_48 (by decide) (fun c48_5 => ?_) (fun c48_5 => ?_)
      · refine lv_iconst (v := 1) hx hb dX14_isAs_82 (by decide) ?_
        have hP9 := hP.sub (ws' := [(ra, .inr (19, [.ref ma, .ref ta, .int (nI a), .int (nI c0 - 500), .int (nI lo - 500), .int (nI hi - 500), .int sp, .int hh, .int ib])), (ta, .inl (cI, 1001, .inl f)), (rb, .inr (19, [.ref mb, .ref tb, .int (nI a2), .int (nI c2 - 500), .int (nI lo2 - 500), .int (nI hi2 - 500), .int sp2, .int hh2, .int ib2])), (tb, .inl (cI, 1001, .inl f2))]) [0, 1, 2, 3] rfl
        have hD9 := hD.sub (ws' := [(ra, .inr (19, [.ref ma, .ref ta, .int (nI a), .int (nI c0 - 500), .int (nI lo - 500), .int (nI hi - 500), .int sp, .int hh, .int ib])), (ta, .inl (cI, 1001, .inl f)), (rb, .inr (19, [.ref mb, .ref tb, .int (nI a2), .int (nI c2 - 500), .int (nI lo2 - 500), .int (nI hi2 - 500), .int sp2, .int hh2, .int ib2])), (tb, .inl (cI, 1001, .inl f2))]) [0, 1, 2, 3] (by decide) rfl
        have hK9 := hK.sub (tys' := [(cI, .int)]) [0] rfl
        exact W.zret (v := 1) hx hb hr (by rfl) (fun t ht hW => ⟨⟨1, (), rfl, (by have h3 := okB hI.1 h6 k6 ex_4 c48_5; refine Or.inl ⟨rfl, c8_1, c19_2, ?_⟩; funext q; exact (Nat.lt_or_ge q j_36).elim (fun h => hI.2 q h) (fun h => by show f q = f2 q; rw [h10 q (by omega), k10 q (by omega)])), ⟨by rw [ht]; exact hP9, va_K.moved hW.alike hK9, hD9⟩⟩, hS.F ht⟩) hS.2.2 dX14_isAs_83
      · refine lv_aload_n hx hb dX14_isAs_51 rfl (lv_at hl 0 rfl) ?_
        refine va_get (D := (dC, dI)) (ci := 19) (v := .ref ta) (C := RX14) (T := TX14) (N := 9) hx hb hts iWX14 hown hK hP 0 rfl rfl 1 (by decide) (hts (.fieldLink RX14 9 "BeaverhallModel$Run" "tape" "[I") (by decide +kernel)) (fun _ h9 => h9) rfl dX14_isAs_52 ?_
        refine lv_sipush (v := 500) hx hb dX14_isAs_55 (by decide) ?_
        refine lv_iload_n hx hb dX14_isAs_58 rfl (lv_at hl 2 rfl) ?_
        refine lv_iadd hx hb dX14_isAs_59 ?_
        refine va_iald hx hb hK hP 1 0 rfl rfl (cell_in (by have := okA hI.1 h6 k6 ex_4 c48_5; omega)) dX14_isAs_60 ?_
        refine lv_aload_n hx hb dX14_isAs_61 rfl (lv_at hl 1 rfl) ?_
        refine va_get (D := (dC, dI)) (ci := 19) (v := .ref tb) (C := RX14) (T := TX14) (N := 9) hx hb hts iWX14 hown hK hP 2 rfl rfl 1 (by decide) (hts (.fieldLink RX14 9 "BeaverhallModel$Run" "tape" "[I") (by decide +kernel)) (fun _ h9 => h9) rfl dX14_isAs_62 ?_
        refine lv_sipush (v := 500) hx hb dX14_isAs_65 (by decide) ?_
        refine lv_iload_n hx hb dX14_isAs_68 rfl (lv_at hl 2 rfl) ?_
        refine lv_iadd hx hb dX14_isAs_69 ?_
        refine va_iald hx hb hK hP 3 0 rfl rfl (cell_in (by have := okA hI.1 h6 k6 ex_4 c48_5; omega)) dX14_isAs_70 ?_
        refine lv_icmp_eq (tgt := 76) hx hb dX14_isAs_71 (by decide) (fun c71_6 => ?_) (fun c71_6 => ?_)
        · obtain ⟨y_7, ey_7⟩ : ∃ y : Int32, y = (nI j_36 - 500) + 1 := ⟨_, rfl⟩
          refine lv_iinc (v := y_7) (lv' := [(2, .int y_7), (0, .ref ra), (1, .ref rb)]) hx hb dX14_isAs_76 hl (k := 2) rfl (by rw [ey_7]; rfl) (by decide) rfl (fun ls hl => ?_)
          obtain rfl : y_7 = nI (j_36 + 1) - 500 := by rw [ey_7]; exact cN_succ _
          refine lv_goto (tgt := 36) hx hb dX14_isAs_79 (by decide) ?_
          exact ih36 (j_36 + 1) ⟨by have := okA hI.1 h6 k6 ex_4 c48_5; omega, fun q hq => by have h3 := okA hI.1 h6 k6 ex_4 c48_5; exact (Nat.lt_or_ge q j_36).elim (fun h => hI.2 q h) (fun h => by have hq2 : q = j_36 := (by omega); have h5 := c71_6; rw [cell_cl (by omega)] at h5; rw [hq2]; exact h5)⟩ (by have := okA hI.1 h6 k6 ex_4 c48_5; show 1001 - (j_36 + 1) < 1001 - j_36; omega) _ _ (hP.sub [0, 1, 2, 3] rfl) (hD.sub [0, 1, 2, 3] (by decide) rfl) hS ls (lv_sub hl [1, 2, 0] rfl)
        · refine lv_iconst (v := 0) hx hb dX14_isAs_74 (by decide) ?_
          have hP9 := hP.sub (ws' := [(ra, .inr (19, [.ref ma, .ref ta, .int (nI a), .int (nI c0 - 500), .int (nI lo - 500), .int (nI hi - 500), .int sp, .int hh, .int ib])), (ta, .inl (cI, 1001, .inl f)), (rb, .inr (19, [.ref mb, .ref tb, .int (nI a2), .int (nI c2 - 500), .int (nI lo2 - 500), .int (nI hi2 - 500), .int sp2, .int hh2, .int ib2])), (tb, .inl (cI, 1001, .inl f2))]) [0, 1, 2, 3] rfl
          have hD9 := hD.sub (ws' := [(ra, .inr (19, [.ref ma, .ref ta, .int (nI a), .int (nI c0 - 500), .int (nI lo - 500), .int (nI hi - 500), .int sp, .int hh, .int ib])), (ta, .inl (cI, 1001, .inl f)), (rb, .inr (19, [.ref mb, .ref tb, .int (nI a2), .int (nI c2 - 500), .int (nI lo2 - 500), .int (nI hi2 - 500), .int sp2, .int hh2, .int ib2])), (tb, .inl (cI, 1001, .inl f2))]) [0, 1, 2, 3] (by decide) rfl
          have hK9 := hK.sub (tys' := [(cI, .int)]) [0] rfl
          exact W.zret (v := 0) hx hb hr (by rfl) (fun t ht hW => ⟨⟨0, (), rfl, (by have h3 := okA hI.1 h6 k6 ex_4 c48_5; refine Or.inr ⟨rfl, fun h => ?_⟩; have h5 : ¬ _ = _ := c71_6; rw [cell_cl (by omega)] at h5; exact h5 (congrFun h.2.2 _)), ⟨by rw [ht]; exact hP9, va_K.moved hW.alike hK9, hD9⟩⟩, hS.F ht⟩) hS.2.2 dX14_isAs_75
    · refine lv_iconst (v := 0) hx hb dX14_isAs_22 (by decide) ?_
      have hP9 := hP.sub (ws' := [(ra, .inr (19, [.ref ma, .ref ta, .int (nI a), .int (nI c0 - 500), .int (nI lo - 500), .int (nI hi - 500), .int sp, .int hh, .int ib])), (ta, .inl (cI, 1001, .inl f)), (rb, .inr (19, [.ref mb, .ref tb, .int (nI a2), .int (nI c2 - 500), .int (nI lo2 - 500), .int (nI hi2 - 500), .int sp2, .int hh2, .int ib2])), (tb, .inl (cI, 1001, .inl f2))]) [0, 1, 2, 3] rfl
      have hD9 := hD.sub (ws' := [(ra, .inr (19, [.ref ma, .ref ta, .int (nI a), .int (nI c0 - 500), .int (nI lo - 500), .int (nI hi - 500), .int sp, .int hh, .int ib])), (ta, .inl (cI, 1001, .inl f)), (rb, .inr (19, [.ref mb, .ref tb, .int (nI a2), .int (nI c2 - 500), .int (nI lo2 - 500), .int (nI hi2 - 500), .int sp2, .int hh2, .int ib2])), (tb, .inl (cI, 1001, .inl f2))]) [0, 1, 2, 3] (by decide) rfl
      have hK9 := hK.sub (tys' := [(cI, .int)]) [0] rfl
      exact W.zret (v := 0) hx hb hr (by rfl) (fun t ht hW => ⟨⟨0, (), rfl, (Or.inr ⟨rfl, fun h => c19_2 h.2.1⟩), ⟨by rw [ht]; exact hP9, va_K.moved hW.alike hK9, hD9⟩⟩, hS.F ht⟩) hS.2.2 dX14_isAs_23

set_option maxHeartbeats 4000000 in
set_option maxRecDepth 100000 in
/-- X14_become -/
theorem c_X14_become (l : Launch) (dC : Nat → ClassId) (dI : Nat → Nat → Nat) (cI : ClassId) (ma S G S2 G2 : Nat) (ra ta : Nat) (st ce lf rt sp hh ib : Int32) (f : Nat → Int32) (rb tb mb : Nat) (st2 ce2 lf2 rt2 sp2 hh2 ib2 : Int32) (f2 : Nat → Int32) (hR : okR S G (st, ce, lf, rt, sp, hh, ib, f)) (hR2 : okR S2 G2 (st2, ce2, lf2, rt2, sp2, hh2, ib2, f2)) (sz : Nat) : Met l yX14_become wsX14_become ({ frames := 1, cells := 0, slots := 0, locals := 40 }) (va_Pc [.ref ra, .ref rb] (cPC dC dI [(ra, .inr (19, [.ref ma, .ref ta, .int st, .int ce, .int lf, .int rt, .int sp, .int hh, .int ib])), (ta, .inl (cI, 1001, .inl f)), (rb, .inr (19, [.ref mb, .ref tb, .int st2, .int ce2, .int lf2, .int rt2, .int sp2, .int hh2, .int ib2])), (tb, .inl (cI, 1001, .inl f2))] [(cI, .int)] sz)) (va_Qv (fun (u : Unit) => True) (fun (u : Unit) t => cQB dC dI [(ra, .inr (19, [.ref ma, .ref ta, .int st2, .int ce2, .int lf2, .int rt2, .int sp2, .int hh2, .int ib2])), (ta, .inl (cI, 1001, .inl f2)), (rb, .inr (19, [.ref mb, .ref tb, .int st2, .int ce2, .int lf2, .int rt2, .int sp2, .int hh2, .int ib2])), (tb, .inl (cI, 1001, .inl f2))] [(cI, .int)] (va_A [(ra, .inr (19, [.ref ma, .ref ta, .int st, .int ce, .int lf, .int rt, .int sp, .int hh, .int ib])), (ta, .inl (cI, 1001, .inl f)), (rb, .inr (19, [.ref mb, .ref tb, .int st2, .int ce2, .int lf2, .int rt2, .int sp2, .int hh2, .int ib2])), (tb, .inl (cI, 1001, .inl f2))] sz) t) (va_A [(ra, .inr (19, [.ref ma, .ref ta, .int st, .int ce, .int lf, .int rt, .int sp, .int hh, .int ib])), (ta, .inl (cI, 1001, .inl f)), (rb, .inr (19, [.ref mb, .ref tb, .int st2, .int ce2, .int lf2, .int rt2, .int sp2, .int hh2, .int ib2])), (tb, .inl (cI, 1001, .inl f2))] sz)) 0 0 (va_A [(ra, .inr (19, [.ref ma, .ref ta, .int st, .int ce, .int lf, .int rt, .int sp, .int hh, .int ib])), (ta, .inl (cI, 1001, .inl f)), (rb, .inr (19, [.ref mb, .ref tb, .int st2, .int ce2, .int lf2, .int rt2, .int sp2, .int hh2, .int ib2])), (tb, .inl (cI, 1001, .inl f2))] sz) := by
  refine Met.ofW (cc := cX14_become) (maxL := 3) (ret := none) (by decide) rfl ?_
  intro p e s m args below meth c s₁ B hml hv
  obtain ⟨rfl, hsz, hP, hK, hD0, hN⟩ := hv
  have hx := B.exec
  have hb := B.bytes
  have hr := B.returns
  have hts := atoms_spec (ws := wsX14_become) B.pre
  have hown : s.vm.findClass RX14 = some m.cls := findClass_of_methodNamed B.named
  have hlocks := B.notSynchronized
  subst hsz
  have hD := hD0.self (sz := s.heap.size)
  generalize hAe : va_A [(ra, .inr (19, [.ref ma, .ref ta, .int st, .int ce, .int lf, .int rt, .int sp, .int hh, .int ib])), (ta, .inl (cI, 1001, .inl f)), (rb, .inr (19, [.ref mb, .ref tb, .int st2, .int ce2, .int lf2, .int rt2, .int sp2, .int hh2, .int ib2])), (tb, .inl (cI, 1001, .inl f2))] s.heap.size = A at hD ⊢
  have hA : ∀ q : Nat, s.heap.size ≤ q → A q := fun q h => by rw [← hAe]; exact Or.inr h
  have hS : va_S A s.heap s.heap [] := va_S.rf
  have hP : va_P (dC, dI) vwCl [(ra, .inr (19, [.ref ma, .ref ta, .int st, .int ce, .int lf, .int rt, .int sp, .int hh, .int ib])), (ta, .inl (cI, 1001, .inl f)), (rb, .inr (19, [.ref mb, .ref tb, .int st2, .int ce2, .int lf2, .int rt2, .int sp2, .int hh2, .int ib2])), (tb, .inl (cI, 1001, .inl f2))] s.heap := hP
  have hD : va_D A [(ra, .inr (19, [.ref ma, .ref ta, .int st, .int ce, .int lf, .int rt, .int sp, .int hh, .int ib])), (ta, .inl (cI, 1001, .inl f)), (rb, .inr (19, [.ref mb, .ref tb, .int st2, .int ce2, .int lf2, .int rt2, .int sp2, .int hh2, .int ib2])), (tb, .inl (cI, 1001, .inl f2))] := hD
  have hl := lv_entry ([.ref ra, .ref rb]) (n := 3) (Nat.le_of_ble_eq_true rfl)
  rw [lg_entry_eq]
  generalize (lg_sl ([.ref ra, .ref rb]) ++ List.replicate (3 - (lg_sl ([.ref ra, .ref rb])).length) Slot.unset).toArray = ls at hl ⊢
  have hl : lv_has ls 3 [(0, .ref ra), (1, .ref rb)] := hl
  have hR0 := hR
  obtain ⟨a, c0, lo, hi, rfl, rfl, rfl, rfl, h1, h2, h3, h4, h5, h6, h7, h8, h9, h10⟩ := id hR
  obtain ⟨a2, c2, lo2, hi2, rfl, rfl, rfl, rfl, k1, k2, k3, k4, k5, k6, k7, k8, k9, k10⟩ := id hR2
  have hP : va_P (dC, dI) vwCl [(ra, .inr (19, [.ref ma, .ref ta, .int (nI a), .int (nI c0 - 500), .int (nI lo - 500), .int (nI hi - 500), .int sp, .int hh, .int ib])), (ta, .inl (cI, 1001, .inl f)), (rb, .inr (19, [.ref mb, .ref tb, .int (nI a2), .int (nI c2 - 500), .int (nI lo2 - 500), .int (nI hi2 - 500), .int sp2, .int hh2, .int ib2])), (tb, .inl (cI, 1001, .inl f2))] s.heap := hP
  have hD : va_D A [(ra, .inr (19, [.ref ma, .ref ta, .int (nI a), .int (nI c0 - 500), .int (nI lo - 500), .int (nI hi - 500), .int sp, .int hh, .int ib])), (ta, .inl (cI, 1001, .inl f)), (rb, .inr (19, [.ref mb, .ref tb, .int (nI a2), .int (nI c2 - 500), .int (nI lo2 - 500), .int (nI hi2 - 500), .int sp2, .int hh2, .int ib2])), (tb, .inl (cI, 1001, .inl f2))] := hD
  have iWX14 : ∀ w ∈ u_ws RX14 TX14 9, w ∈ wsX14_become := by decide +kernel
  refine lv_aload_n hx hb dX14_become_0 rfl (lv_at hl 0 rfl) ?_
  have hPc := hP.sub (ws' := [(ra, .inr (19, [.ref ma, .ref ta, .int (nI a), .int (nI c0 - 500), .int (nI lo - 500), .int (nI hi - 500), .int sp, .int hh, .int ib])), (ta, .inl (cI, 1001, .inl f))]) [0, 1] rfl
  have hDc := hD.sub (ws' := [(ra, .inr (19, [.ref ma, .ref ta, .int (nI a), .int (nI c0 - 500), .int (nI lo - 500), .int (nI hi - 500), .int sp, .int hh, .int ib])), (ta, .inl (cI, 1001, .inl f))]) [0, 1] (by decide) rfl
  have hKc := hK.sub (tys' := [(cI, .int)]) [0] rfl
  have hFc := va_free (wc := [(ra, .inr (19, [.ref ma, .ref ta, .int (nI a), .int (nI c0 - 500), .int (nI lo - 500), .int (nI hi - 500), .int sp, .int hh, .int ib])), (ta, .inl (cI, 1001, .inl f))]) hD hS hA [0, 1] rfl
  refine va_callv (va_runV (As := []) (rest := []) ⟨hx, hb, hml, hown, hts⟩ (c_X14_begin l dC dI cI ma S G ra ta (nI a) (nI c0 - 500) (nI lo - 500) (nI hi - 500) sp hh ib f hR s.heap.size) (cwV 0 hts gX14_become_X14_begin rfl rfl rfl (by decide +kernel) ⟨Nat.le_of_ble_eq_true rfl, Nat.le_of_ble_eq_true rfl⟩) (pcV hPc hDc hKc hN (ci := 19) (q0 := 0) rfl rfl) rfl rfl hl.1 rfl (lv_room (Nat.le_of_ble_eq_true rfl)) dX14_become_1 ⟨Nat.le_of_ble_eq_true rfl, Nat.le_of_ble_eq_true rfl⟩) hS (fun q _ h => hFc q h) hFc (fun u t H1 locs ht hvm hw_1 hB hz1 hk1 hS => ?_)
  obtain ⟨hP1, hK1, hD1⟩ := hB
  rw [ht] at hP1
  try dsimp only at hw_1
  obtain ⟨hP, hD⟩ := va_join (wr := [(rb, .inr (19, [.ref mb, .ref tb, .int (nI a2), .int (nI c2 - 500), .int (nI lo2 - 500), .int (nI hi2 - 500), .int sp2, .int hh2, .int ib2])), (tb, .inl (cI, 1001, .inl f2))]) (w1 := [(ra, .inr (19, [.ref ma, .ref ta, .int 0, .int 0, .int 0, .int 0, .int 0, .int 0, .int 0])), (ta, .inl (cI, 1001, .inl (fun _ => 0)))]) hP hD [0, 1] [2, 3] rfl rfl (by decide) (by decide) hk1 hFc hP1 hD1
  generalize H1 = H at hP hS ⊢
  have hP : va_P (dC, dI) vwCl [(rb, .inr (19, [.ref mb, .ref tb, .int (nI a2), .int (nI c2 - 500), .int (nI lo2 - 500), .int (nI hi2 - 500), .int sp2, .int hh2, .int ib2])), (tb, .inl (cI, 1001, .inl f2)), (ra, .inr (19, [.ref ma, .ref ta, .int 0, .int 0, .int 0, .int 0, .int 0, .int 0, .int 0])), (ta, .inl (cI, 1001, .inl (fun _ => 0)))] H := hP
  have hD : va_D A [(rb, .inr (19, [.ref mb, .ref tb, .int (nI a2), .int (nI c2 - 500), .int (nI lo2 - 500), .int (nI hi2 - 500), .int sp2, .int hh2, .int ib2])), (tb, .inl (cI, 1001, .inl f2)), (ra, .inr (19, [.ref ma, .ref ta, .int 0, .int 0, .int 0, .int 0, .int 0, .int 0, .int 0])), (ta, .inl (cI, 1001, .inl (fun _ => 0)))] := hD
  refine lv_aload_n hx hb dX14_become_4 rfl (lv_at hl 1 rfl) ?_
  refine va_get (D := (dC, dI)) (ci := 19) (v := .int (nI lo2 - 500)) (C := RX14) (T := TX14) (N := 9) hx hb hts iWX14 hown hK hP 0 rfl rfl 4 (by decide) (hts (.fieldLink RX14 19 "BeaverhallModel$Run" "left" "I") (by decide +kernel)) (fun _ h9 => h9) rfl dX14_become_5 ?_
  refine lv_istore_n (lv' := [(2, .int (nI lo2 - 500)), (0, .ref ra), (1, .ref rb)]) hx hb dX14_become_8 rfl hl (by decide) rfl (fun ls hl => ?_)
  refine lp_go (σ := Nat × (Nat → Int32)) (fun x => match x with | (j_9, g_9) => lo2 ≤ j_9 ∧ j_9 ≤ hi2 + 1 ∧ g_9 = (fun q => if lo2 ≤ q ∧ q < j_9 then f2 q else 0)) (fun x => match x with | (j_9, g_9) => hi2 + 1 - j_9) (fun x => [(ra, .inr (19, [.ref ma, .ref ta, .int 0, .int 0, .int 0, .int 0, .int 0, .int 0, .int 0])), (ta, .inl (cI, 1001, .inl x.2)), (rb, .inr (19, [.ref mb, .ref tb, .int (nI a2), .int (nI c2 - 500), .int (nI lo2 - 500), .int (nI hi2 - 500), .int sp2, .int hh2, .int ib2])), (tb, .inl (cI, 1001, .inl f2))]) (fun x => [(0, .ref ra), (1, .ref rb), (2, .int (nI x.1 - 500))]) (fun _ => []) (fun x hI ih9 H locs hP hD hS ls hl => ?_) (lo2, (fun _ => 0)) ⟨Nat.le_refl _, by omega, by funext q; rw [if_neg (by omega)]⟩ (hP.sub [2, 3, 0, 1] rfl) (hD.sub [2, 3, 0, 1] (by decide) rfl) hS (lv_sub hl [1, 2, 0] rfl)
  obtain ⟨j_9, g_9⟩ := x
  have hP : va_P (dC, dI) vwCl [(ra, .inr (19, [.ref ma, .ref ta, .int 0, .int 0, .int 0, .int 0, .int 0, .int 0, .int 0])), (ta, .inl (cI, 1001, .inl g_9)), (rb, .inr (19, [.ref mb, .ref tb, .int (nI a2), .int (nI c2 - 500), .int (nI lo2 - 500), .int (nI hi2 - 500), .int sp2, .int hh2, .int ib2])), (tb, .inl (cI, 1001, .inl f2))] H := hP
  have hD : va_D A [(ra, .inr (19, [.ref ma, .ref ta, .int 0, .int 0, .int 0, .int 0, .int 0, .int 0, .int 0])), (ta, .inl (cI, 1001, .inl g_9)), (rb, .inr (19, [.ref mb, .ref tb, .int (nI a2), .int (nI c2 - 500), .int (nI lo2 - 500), .int (nI hi2 - 500), .int sp2, .int hh2, .int ib2])), (tb, .inl (cI, 1001, .inl f2))] := hD
  have hl : lv_has ls 3 [(0, .ref ra), (1, .ref rb), (2, .int (nI j_9 - 500))] := hl
  try dsimp only at hI
  have ih9 := ih9
  refine lv_iload_n hx hb dX14_become_9 rfl (lv_at hl 2 rfl) ?_
  refine lv_aload_n hx hb dX14_become_10 rfl (lv_at hl 1 rfl) ?_
  refine va_get (D := (dC, dI)) (ci := 19) (v := .int (nI hi2 - 500)) (C := RX14) (T := TX14) (N := 9) hx hb hts iWX14 hown hK hP 2 rfl rfl 5 (by decide) (hts (.fieldLink RX14 23 "BeaverhallModel$Run" "right" "I") (by decide +kernel)) (fun _ h9 => h9) rfl dX14_become_11 ?_
  refine lv_icmp_gt (tgt := 43) hx hb dX14_become_14 (by decide) (fun c14_2 => ?_) (fun c14_2 => ?_)
  · have hg : g_9 = f2 := by
      have h11 := (cN_lt (a := hi2) (b := j_9) (by omega) (by have := hI.2.1; omega)).mp c14_2
      rw [hI.2.2]; funext q; by_cases hq : lo2 ≤ q ∧ q < j_9
      · rw [if_pos hq]
      · rw [if_neg hq]; exact (k10 q (by omega)).symm
    rw [hg] at hP hD
    have hP : va_P (dC, dI) vwCl [(ra, .inr (19, [.ref ma, .ref ta, .int 0, .int 0, .int 0, .int 0, .int 0, .int 0, .int 0])), (ta, .inl (cI, 1001, .inl f2)), (rb, .inr (19, [.ref mb, .ref tb, .int (nI a2), .int (nI c2 - 500), .int (nI lo2 - 500), .int (nI hi2 - 500), .int sp2, .int hh2, .int ib2])), (tb, .inl (cI, 1001, .inl f2))] H := hP
    have hD : va_D A [(ra, .inr (19, [.ref ma, .ref ta, .int 0, .int 0, .int 0, .int 0, .int 0, .int 0, .int 0])), (ta, .inl (cI, 1001, .inl f2)), (rb, .inr (19, [.ref mb, .ref tb, .int (nI a2), .int (nI c2 - 500), .int (nI lo2 - 500), .int (nI hi2 - 500), .int sp2, .int hh2, .int ib2])), (tb, .inl (cI, 1001, .inl f2))] := hD
    refine lv_aload_n hx hb dX14_become_43 rfl (lv_at hl 0 rfl) ?_
    refine lv_aload_n hx hb dX14_become_44 rfl (lv_at hl 1 rfl) ?_
    refine va_get (D := (dC, dI)) (ci := 19) (v := .int (nI a2)) (C := RX14) (T := TX14) (N := 9) hx hb hts iWX14 hown hK hP 2 rfl rfl 2 (by decide) (hts (.fieldLink RX14 26 "BeaverhallModel$Run" "state" "I") (by decide +kernel)) (fun _ h9 => h9) rfl dX14_become_45 ?_
    refine va_put (D := (dC, dI)) (ci := 19) (v := .int (nI a2)) (ty := .int) (C := RX14) (T := TX14) (N := 9) hx hb hts iWX14 tyX14 tyX14_ok nmX14 hown hK hP hD hS 0 rfl rfl 2 (by decide) (hts (.fieldLink RX14 26 "BeaverhallModel$Run" "state" "I") (by decide +kernel)) (fun _ h9 => h9) rfl (by decide +kernel) rfl rfl (Nat.le_of_ble_eq_true rfl) dX14_become_48 (fun H locs hP hD hS => ?_)
    have hP : va_P (dC, dI) vwCl [(ra, .inr (19, [.ref ma, .ref ta, .int (nI a2), .int 0, .int 0, .int 0, .int 0, .int 0, .int 0])), (ta, .inl (cI, 1001, .inl f2)), (rb, .inr (19, [.ref mb, .ref tb, .int (nI a2), .int (nI c2 - 500), .int (nI lo2 - 500), .int (nI hi2 - 500), .int sp2, .int hh2, .int ib2])), (tb, .inl (cI, 1001, .inl f2))] H := hP
    have hD : va_D A [(ra, .inr (19, [.ref ma, .ref ta, .int (nI a2), .int 0, .int 0, .int 0, .int 0, .int 0, .int 0])), (ta, .inl (cI, 1001, .inl f2)), (rb, .inr (19, [.ref mb, .ref tb, .int (nI a2), .int (nI c2 - 500), .int (nI lo2 - 500), .int (nI hi2 - 500), .int sp2, .int hh2, .int ib2])), (tb, .inl (cI, 1001, .inl f2))] := hD
    refine lv_aload_n hx hb dX14_become_51 rfl (lv_at hl 0 rfl) ?_
    refine lv_aload_n hx hb dX14_become_52 rfl (lv_at hl 1 rfl) ?_
    refine va_get (D := (dC, dI)) (ci := 19) (v := .int (nI c2 - 500)) (C := RX14) (T := TX14) (N := 9) hx hb hts iWX14 hown hK hP 2 rfl rfl 3 (by decide) (hts (.fieldLink RX14 29 "BeaverhallModel$Run" "cell" "I") (by decide +kernel)) (fun _ h9 => h9) rfl dX14_become_53 ?_
    refine va_put (D := (dC, dI)) (ci := 19) (v := .int (nI c2 - 500)) (ty := .int) (C := RX14) (T := TX14) (N := 9) hx hb hts iWX14 tyX14 tyX14_ok nmX14 hown hK hP hD hS 0 rfl rfl 3 (by decide) (hts (.fieldLink RX14 29 "BeaverhallModel$Run" "cell" "I") (by decide +kernel)) (fun _ h9 => h9) rfl (by decide +kernel) rfl rfl (Nat.le_of_ble_eq_true rfl) dX14_become_56 (fun H locs hP hD hS => ?_)
    have hP : va_P (dC, dI) vwCl [(ra, .inr (19, [.ref ma, .ref ta, .int (nI a2), .int (nI c2 - 500), .int 0, .int 0, .int 0, .int 0, .int 0])), (ta, .inl (cI, 1001, .inl f2)), (rb, .inr (19, [.ref mb, .ref tb, .int (nI a2), .int (nI c2 - 500), .int (nI lo2 - 500), .int (nI hi2 - 500), .int sp2, .int hh2, .int ib2])), (tb, .inl (cI, 1001, .inl f2))] H := hP
    have hD : va_D A [(ra, .inr (19, [.ref ma, .ref ta, .int (nI a2), .int (nI c2 - 500), .int 0, .int 0, .int 0, .int 0, .int 0])), (ta, .inl (cI, 1001, .inl f2)), (rb, .inr (19, [.ref mb, .ref tb, .int (nI a2), .int (nI c2 - 500), .int (nI lo2 - 500), .int (nI hi2 - 500), .int sp2, .int hh2, .int ib2])), (tb, .inl (cI, 1001, .inl f2))] := hD
    refine lv_aload_n hx hb dX14_become_59 rfl (lv_at hl 0 rfl) ?_
    refine lv_aload_n hx hb dX14_become_60 rfl (lv_at hl 1 rfl) ?_
    refine va_get (D := (dC, dI)) (ci := 19) (v := .int (nI lo2 - 500)) (C := RX14) (T := TX14) (N := 9) hx hb hts iWX14 hown hK hP 2 rfl rfl 4 (by decide) (hts (.fieldLink RX14 19 "BeaverhallModel$Run" "left" "I") (by decide +kernel)) (fun _ h9 => h9) rfl dX14_become_61 ?_
    refine va_put (D := (dC, dI)) (ci := 19) (v := .int (nI lo2 - 500)) (ty := .int) (C := RX14) (T := TX14) (N := 9) hx hb hts iWX14 tyX14 tyX14_ok nmX14 hown hK hP hD hS 0 rfl rfl 4 (by decide) (hts (.fieldLink RX14 19 "BeaverhallModel$Run" "left" "I") (by decide +kernel)) (fun _ h9 => h9) rfl (by decide +kernel) rfl rfl (Nat.le_of_ble_eq_true rfl) dX14_become_64 (fun H locs hP hD hS => ?_)
    have hP : va_P (dC, dI) vwCl [(ra, .inr (19, [.ref ma, .ref ta, .int (nI a2), .int (nI c2 - 500), .int (nI lo2 - 500), .int 0, .int 0, .int 0, .int 0])), (ta, .inl (cI, 1001, .inl f2)), (rb, .inr (19, [.ref mb, .ref tb, .int (nI a2), .int (nI c2 - 500), .int (nI lo2 - 500), .int (nI hi2 - 500), .int sp2, .int hh2, .int ib2])), (tb, .inl (cI, 1001, .inl f2))] H := hP
    have hD : va_D A [(ra, .inr (19, [.ref ma, .ref ta, .int (nI a2), .int (nI c2 - 500), .int (nI lo2 - 500), .int 0, .int 0, .int 0, .int 0])), (ta, .inl (cI, 1001, .inl f2)), (rb, .inr (19, [.ref mb, .ref tb, .int (nI a2), .int (nI c2 - 500), .int (nI lo2 - 500), .int (nI hi2 - 500), .int sp2, .int hh2, .int ib2])), (tb, .inl (cI, 1001, .inl f2))] := hD
    refine lv_aload_n hx hb dX14_become_67 rfl (lv_at hl 0 rfl) ?_
    refine lv_aload_n hx hb dX14_become_68 rfl (lv_at hl 1 rfl) ?_
    refine va_get (D := (dC, dI)) (ci := 19) (v := .int (nI hi2 - 500)) (C := RX14) (T := TX14) (N := 9) hx hb hts iWX14 hown hK hP 2 rfl rfl 5 (by decide) (hts (.fieldLink RX14 23 "BeaverhallModel$Run" "right" "I") (by decide +kernel)) (fun _ h9 => h9) rfl dX14_become_69 ?_
    refine va_put (D := (dC, dI)) (ci := 19) (v := .int (nI hi2 - 500)) (ty := .int) (C := RX14) (T := TX14) (N := 9) hx hb hts iWX14 tyX14 tyX14_ok nmX14 hown hK hP hD hS 0 rfl rfl 5 (by decide) (hts (.fieldLink RX14 23 "BeaverhallModel$Run" "right" "I") (by decide +kernel)) (fun _ h9 => h9) rfl (by decide +kernel) rfl rfl (Nat.le_of_ble_eq_true rfl) dX14_become_72 (fun H locs hP hD hS => ?_)
    have hP : va_P (dC, dI) vwCl [(ra, .inr (19, [.ref ma, .ref ta, .int (nI a2), .int (nI c2 - 500), .int (nI lo2 - 500), .int (nI hi2 - 500), .int 0, .int 0, .int 0])), (ta, .inl (cI, 1001, .inl f2)), (rb, .inr (19, [.ref mb, .ref tb, .int (nI a2), .int (nI c2 - 500), .int (nI lo2 - 500), .int (nI hi2 - 500), .int sp2, .int hh2, .int ib2])), (tb, .inl (cI, 1001, .inl f2))] H := hP
    have hD : va_D A [(ra, .inr (19, [.ref ma, .ref ta, .int (nI a2), .int (nI c2 - 500), .int (nI lo2 - 500), .int (nI hi2 - 500), .int 0, .int 0, .int 0])), (ta, .inl (cI, 1001, .inl f2)), (rb, .inr (19, [.ref mb, .ref tb, .int (nI a2), .int (nI c2 - 500), .int (nI lo2 - 500), .int (nI hi2 - 500), .int sp2, .int hh2, .int ib2])), (tb, .inl (cI, 1001, .inl f2))] := hD
    refine lv_aload_n hx hb dX14_become_75 rfl (lv_at hl 0 rfl) ?_
    refine lv_aload_n hx hb dX14_become_76 rfl (lv_at hl 1 rfl) ?_
    refine va_get (D := (dC, dI)) (ci := 19) (v := .int sp2) (C := RX14) (T := TX14) (N := 9) hx hb hts iWX14 hown hK hP 2 rfl rfl 6 (by decide) (hts (.fieldLink RX14 32 "BeaverhallModel$Run" "steps" "I") (by decide +kernel)) (fun _ h9 => h9) rfl dX14_become_77 ?_
    refine va_put (D := (dC, dI)) (ci := 19) (v := .int sp2) (ty := .int) (C := RX14) (T := TX14) (N := 9) hx hb hts iWX14 tyX14 tyX14_ok nmX14 hown hK hP hD hS 0 rfl rfl 6 (by decide) (hts (.fieldLink RX14 32 "BeaverhallModel$Run" "steps" "I") (by decide +kernel)) (fun _ h9 => h9) rfl (by decide +kernel) rfl rfl (Nat.le_of_ble_eq_true rfl) dX14_become_80 (fun H locs hP hD hS => ?_)
    have hP : va_P (dC, dI) vwCl [(ra, .inr (19, [.ref ma, .ref ta, .int (nI a2), .int (nI c2 - 500), .int (nI lo2 - 500), .int (nI hi2 - 500), .int sp2, .int 0, .int 0])), (ta, .inl (cI, 1001, .inl f2)), (rb, .inr (19, [.ref mb, .ref tb, .int (nI a2), .int (nI c2 - 500), .int (nI lo2 - 500), .int (nI hi2 - 500), .int sp2, .int hh2, .int ib2])), (tb, .inl (cI, 1001, .inl f2))] H := hP
    have hD : va_D A [(ra, .inr (19, [.ref ma, .ref ta, .int (nI a2), .int (nI c2 - 500), .int (nI lo2 - 500), .int (nI hi2 - 500), .int sp2, .int 0, .int 0])), (ta, .inl (cI, 1001, .inl f2)), (rb, .inr (19, [.ref mb, .ref tb, .int (nI a2), .int (nI c2 - 500), .int (nI lo2 - 500), .int (nI hi2 - 500), .int sp2, .int hh2, .int ib2])), (tb, .inl (cI, 1001, .inl f2))] := hD
    refine lv_aload_n hx hb dX14_become_83 rfl (lv_at hl 0 rfl) ?_
    refine lv_aload_n hx hb dX14_become_84 rfl (lv_at hl 1 rfl) ?_
    refine va_get (D := (dC, dI)) (ci := 19) (v := .int hh2) (C := RX14) (T := TX14) (N := 9) hx hb hts iWX14 hown hK hP 2 rfl rfl 7 (by decide) (hts (.fieldLink RX14 35 "BeaverhallModel$Run" "hasHalted" "Z") (by decide +kernel)) (fun _ h9 => h9) rfl dX14_become_85 ?_
    refine va_put (D := (dC, dI)) (ci := 19) (v := .int hh2) (ty := .boolean) (C := RX14) (T := TX14) (N := 9) hx hb hts iWX14 tyX14 tyX14_ok nmX14 hown hK hP hD hS 0 rfl rfl 7 (by decide) (hts (.fieldLink RX14 35 "BeaverhallModel$Run" "hasHalted" "Z") (by decide +kernel)) (fun _ h9 => h9) rfl (by decide +kernel) (nar01 k7) (fit01 k7) (Nat.le_of_ble_eq_true rfl) dX14_become_88 (fun H locs hP hD hS => ?_)
    have hP : va_P (dC, dI) vwCl [(ra, .inr (19, [.ref ma, .ref ta, .int (nI a2), .int (nI c2 - 500), .int (nI lo2 - 500), .int (nI hi2 - 500), .int sp2, .int hh2, .int 0])), (ta, .inl (cI, 1001, .inl f2)), (rb, .inr (19, [.ref mb, .ref tb, .int (nI a2), .int (nI c2 - 500), .int (nI lo2 - 500), .int (nI hi2 - 500), .int sp2, .int hh2, .int ib2])), (tb, .inl (cI, 1001, .inl f2))] H := hP
    have hD : va_D A [(ra, .inr (19, [.ref ma, .ref ta, .int (nI a2), .int (nI c2 - 500), .int (nI lo2 - 500), .int (nI hi2 - 500), .int sp2, .int hh2, .int 0])), (ta, .inl (cI, 1001, .inl f2)), (rb, .inr (19, [.ref mb, .ref tb, .int (nI a2), .int (nI c2 - 500), .int (nI lo2 - 500), .int (nI hi2 - 500), .int sp2, .int hh2, .int ib2])), (tb, .inl (cI, 1001, .inl f2))] := hD
    refine lv_aload_n hx hb dX14_become_91 rfl (lv_at hl 0 rfl) ?_
    refine lv_aload_n hx hb dX14_become_92 rfl (lv_at hl 1 rfl) ?_
    refine va_get (D := (dC, dI)) (ci := 19) (v := .int ib2) (C := RX14) (T := TX14) (N := 9) hx hb hts iWX14 hown hK hP 2 rfl rfl 8 (by decide) (hts (.fieldLink RX14 39 "BeaverhallModel$Run" "isBound" "Z") (by decide +kernel)) (fun _ h9 => h9) rfl dX14_become_93 ?_
    refine va_put (D := (dC, dI)) (ci := 19) (v := .int ib2) (ty := .boolean) (C := RX14) (T := TX14) (N := 9) hx hb hts iWX14 tyX14 tyX14_ok nmX14 hown hK hP hD hS 0 rfl rfl 8 (by decide) (hts (.fieldLink RX14 39 "BeaverhallModel$Run" "isBound" "Z") (by decide +kernel)) (fun _ h9 => h9) rfl (by decide +kernel) (nar01 k8) (fit01 k8) (Nat.le_of_ble_eq_true rfl) dX14_become_96 (fun H locs hP hD hS => ?_)
    have hP : va_P (dC, dI) vwCl [(ra, .inr (19, [.ref ma, .ref ta, .int (nI a2), .int (nI c2 - 500), .int (nI lo2 - 500), .int (nI hi2 - 500), .int sp2, .int hh2, .int ib2])), (ta, .inl (cI, 1001, .inl f2)), (rb, .inr (19, [.ref mb, .ref tb, .int (nI a2), .int (nI c2 - 500), .int (nI lo2 - 500), .int (nI hi2 - 500), .int sp2, .int hh2, .int ib2])), (tb, .inl (cI, 1001, .inl f2))] H := hP
    have hD : va_D A [(ra, .inr (19, [.ref ma, .ref ta, .int (nI a2), .int (nI c2 - 500), .int (nI lo2 - 500), .int (nI hi2 - 500), .int sp2, .int hh2, .int ib2])), (ta, .inl (cI, 1001, .inl f2)), (rb, .inr (19, [.ref mb, .ref tb, .int (nI a2), .int (nI c2 - 500), .int (nI lo2 - 500), .int (nI hi2 - 500), .int sp2, .int hh2, .int ib2])), (tb, .inl (cI, 1001, .inl f2))] := hD
    have hP9 := hP.sub (ws' := [(ra, .inr (19, [.ref ma, .ref ta, .int (nI a2), .int (nI c2 - 500), .int (nI lo2 - 500), .int (nI hi2 - 500), .int sp2, .int hh2, .int ib2])), (ta, .inl (cI, 1001, .inl f2)), (rb, .inr (19, [.ref mb, .ref tb, .int (nI a2), .int (nI c2 - 500), .int (nI lo2 - 500), .int (nI hi2 - 500), .int sp2, .int hh2, .int ib2])), (tb, .inl (cI, 1001, .inl f2))]) [0, 1, 2, 3] rfl
    have hD9 := hD.sub (ws' := [(ra, .inr (19, [.ref ma, .ref ta, .int (nI a2), .int (nI c2 - 500), .int (nI lo2 - 500), .int (nI hi2 - 500), .int sp2, .int hh2, .int ib2])), (ta, .inl (cI, 1001, .inl f2)), (rb, .inr (19, [.ref mb, .ref tb, .int (nI a2), .int (nI c2 - 500), .int (nI lo2 - 500), .int (nI hi2 - 500), .int sp2, .int hh2, .int ib2])), (tb, .inl (cI, 1001, .inl f2))]) [0, 1, 2, 3] (by decide) rfl
    have hK9 := hK.sub (tys' := [(cI, .int)]) [0] rfl
    exact W.vret hx hb hr (fun t ht hW => ⟨⟨(), rfl, trivial, ⟨by rw [ht]; exact hP9, va_K.moved hW.alike hK9, hD9⟩⟩, hS.F ht⟩) hS.2.2 dX14_become_99
  · refine lv_aload_n hx hb dX14_become_17 rfl (lv_at hl 0 rfl) ?_
    refine va_get (D := (dC, dI)) (ci := 19) (v := .ref ta) (C := RX14) (T := TX14) (N := 9) hx hb hts iWX14 hown hK hP 0 rfl rfl 1 (by decide) (hts (.fieldLink RX14 9 "BeaverhallModel$Run" "tape" "[I") (by decide +kernel)) (fun _ h9 => h9) rfl dX14_become_18 ?_
    refine lv_sipush (v := 500) hx hb dX14_become_21 (by decide) ?_
    refine lv_iload_n hx hb dX14_become_24 rfl (lv_at hl 2 rfl) ?_
    refine lv_iadd hx hb dX14_become_25 ?_
    refine lv_aload_n hx hb dX14_become_26 rfl (lv_at hl 1 rfl) ?_
    refine va_get (D := (dC, dI)) (ci := 19) (v := .ref tb) (C := RX14) (T := TX14) (N := 9) hx hb hts iWX14 hown hK hP 2 rfl rfl 1 (by decide) (hts (.fieldLink RX14 9 "BeaverhallModel$Run" "tape" "[I") (by decide +kernel)) (fun _ h9 => h9) rfl dX14_become_27 ?_
    refine lv_sipush (v := 500) hx hb dX14_become_30 (by decide) ?_
    refine lv_iload_n hx hb dX14_become_33 rfl (lv_at hl 2 rfl) ?_
    refine lv_iadd hx hb dX14_become_34 ?_
    refine va_iald hx hb hK hP 3 0 rfl rfl (cell_in (by have := hI.2.1; have := mt (cN_lt (a := hi2) (b := j_9) (by omega) (by omega)).mpr c14_2; omega)) dX14_become_35 ?_
    refine va_iast hx hb hK hP hD hS 1 0 rfl rfl (cell_in (by have := hI.2.1; have := mt (cN_lt (a := hi2) (b := j_9) (by omega) (by omega)).mpr c14_2; omega)) dX14_become_36 (fun H locs hP hD hS => ?_)
    obtain ⟨f_3, ef_3⟩ : ∃ z, z = (upd g_9 ((500 + (nI j_9 - 500))).toNatClampNeg (f2 ((500 + (nI j_9 - 500))).toNatClampNeg)) := ⟨_, rfl⟩
    have hP : va_P (dC, dI) vwCl [(ra, .inr (19, [.ref ma, .ref ta, .int 0, .int 0, .int 0, .int 0, .int 0, .int 0, .int 0])), (ta, .inl (cI, 1001, .inl f_3)), (rb, .inr (19, [.ref mb, .ref tb, .int (nI a2), .int (nI c2 - 500), .int (nI lo2 - 500), .int (nI hi2 - 500), .int sp2, .int hh2, .int ib2])), (tb, .inl (cI, 1001, .inl f2))] H := by rw [ef_3]; exact hP
    have hD : va_D A [(ra, .inr (19, [.ref ma, .ref ta, .int 0, .int 0, .int 0, .int 0, .int 0, .int 0, .int 0])), (ta, .inl (cI, 1001, .inl f_3)), (rb, .inr (19, [.ref mb, .ref tb, .int (nI a2), .int (nI c2 - 500), .int (nI lo2 - 500), .int (nI hi2 - 500), .int sp2, .int hh2, .int ib2])), (tb, .inl (cI, 1001, .inl f2))] := by rw [ef_3]; exact hD
    obtain ⟨y_4, ey_4⟩ : ∃ y : Int32, y = (nI j_9 - 500) + 1 := ⟨_, rfl⟩
    refine lv_iinc (v := y_4) (lv' := [(2, .int y_4), (0, .ref ra), (1, .ref rb)]) hx hb dX14_become_37 hl (k := 2) rfl (by rw [ey_4]; rfl) (by decide) rfl (fun ls hl => ?_)
    obtain rfl : y_4 = nI (j_9 + 1) - 500 := by rw [ey_4]; exact cN_succ _
    refine lv_goto (tgt := 9) hx hb dX14_become_40 (by decide) ?_
    exact ih9 ((j_9 + 1), f_3) ⟨by omega, by have := hI.2.1; have := mt (cN_lt (by omega) (by omega)).mpr c14_2; omega, by have h11 := hI.2.1; rw [ef_3, cell_cl (by omega), hI.2.2]; funext q; have := hI.1; by_cases hq : q = j_9 <;> simp only [upd, hq] <;> (try rw [if_pos (by omega)]) <;> (try rfl) <;> (by_cases hz : lo2 ≤ q ∧ q < j_9 <;> simp [hq, hz] <;> (try omega))⟩ (by have := mt (cN_lt (a := hi2) (b := j_9) (by omega) (by have := hI.2.1; omega)).mpr c14_2; show hi2 + 1 - (j_9 + 1) < hi2 + 1 - j_9; omega) _ _ (hP.sub [0, 1, 2, 3] rfl) (hD.sub [0, 1, 2, 3] (by decide) rfl) hS ls (lv_sub hl [1, 2, 0] rfl)
