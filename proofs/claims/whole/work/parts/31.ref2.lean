theorem dX14_init_0 : decode cX14_init 0 = .ok (.aload_n 0, 1) := by decide +kernel
theorem dX14_init_1 : decode cX14_init 1 = .ok (.invokespecial 3, 3) := by decide +kernel
theorem dX14_init_4 : decode cX14_init 4 = .ok (.aload_n 0, 1) := by decide +kernel
theorem dX14_init_5 : decode cX14_init 5 = .ok (.sipush 1001, 3) := by decide +kernel
theorem dX14_init_8 : decode cX14_init 8 = .ok (.newarray .int, 2) := by decide +kernel
theorem dX14_init_10 : decode cX14_init 10 = .ok (.putfield 9, 3) := by decide +kernel
theorem dX14_init_13 : decode cX14_init 13 = .ok (.aload_n 0, 1) := by decide +kernel
theorem dX14_init_14 : decode cX14_init 14 = .ok (.aload_n 1, 1) := by decide +kernel
theorem dX14_init_15 : decode cX14_init 15 = .ok (.putfield 15, 3) := by decide +kernel
theorem dX14_init_18 : decode cX14_init 18 = .ok (.return_, 1) := by decide +kernel
theorem dX14_begin_0 : decode cX14_begin 0 = .ok (.aload_n 0, 1) := by decide +kernel
theorem dX14_begin_1 : decode cX14_begin 1 = .ok (.getfield 19, 3) := by decide +kernel
theorem dX14_begin_4 : decode cX14_begin 4 = .ok (.istore_n 1, 1) := by decide +kernel
theorem dX14_begin_5 : decode cX14_begin 5 = .ok (.iload_n 1, 1) := by decide +kernel
theorem dX14_begin_6 : decode cX14_begin 6 = .ok (.aload_n 0, 1) := by decide +kernel
theorem dX14_begin_7 : decode cX14_begin 7 = .ok (.getfield 23, 3) := by decide +kernel
theorem dX14_begin_10 : decode cX14_begin 10 = .ok (.if_icmp .gt 20, 3) := by decide +kernel
theorem dX14_begin_30 : decode cX14_begin 30 = .ok (.aload_n 0, 1) := by decide +kernel
theorem dX14_begin_31 : decode cX14_begin 31 = .ok (.iconst 0, 1) := by decide +kernel
theorem dX14_begin_32 : decode cX14_begin 32 = .ok (.putfield 26, 3) := by decide +kernel
theorem dX14_begin_35 : decode cX14_begin 35 = .ok (.aload_n 0, 1) := by decide +kernel
theorem dX14_begin_36 : decode cX14_begin 36 = .ok (.iconst 0, 1) := by decide +kernel
theorem dX14_begin_37 : decode cX14_begin 37 = .ok (.putfield 29, 3) := by decide +kernel
theorem dX14_begin_40 : decode cX14_begin 40 = .ok (.aload_n 0, 1) := by decide +kernel
theorem dX14_begin_41 : decode cX14_begin 41 = .ok (.iconst 0, 1) := by decide +kernel
theorem dX14_begin_42 : decode cX14_begin 42 = .ok (.putfield 19, 3) := by decide +kernel
theorem dX14_begin_45 : decode cX14_begin 45 = .ok (.aload_n 0, 1) := by decide +kernel
theorem dX14_begin_46 : decode cX14_begin 46 = .ok (.iconst 0, 1) := by decide +kernel
theorem dX14_begin_47 : decode cX14_begin 47 = .ok (.putfield 23, 3) := by decide +kernel
theorem dX14_begin_50 : decode cX14_begin 50 = .ok (.aload_n 0, 1) := by decide +kernel
theorem dX14_begin_51 : decode cX14_begin 51 = .ok (.iconst 0, 1) := by decide +kernel
theorem dX14_begin_52 : decode cX14_begin 52 = .ok (.putfield 32, 3) := by decide +kernel
theorem dX14_begin_55 : decode cX14_begin 55 = .ok (.aload_n 0, 1) := by decide +kernel
theorem dX14_begin_56 : decode cX14_begin 56 = .ok (.iconst 0, 1) := by decide +kernel
theorem dX14_begin_57 : decode cX14_begin 57 = .ok (.putfield 35, 3) := by decide +kernel
theorem dX14_begin_60 : decode cX14_begin 60 = .ok (.aload_n 0, 1) := by decide +kernel
theorem dX14_begin_61 : decode cX14_begin 61 = .ok (.iconst 0, 1) := by decide +kernel
theorem dX14_begin_62 : decode cX14_begin 62 = .ok (.putfield 39, 3) := by decide +kernel
theorem dX14_begin_65 : decode cX14_begin 65 = .ok (.return_, 1) := by decide +kernel
theorem dX14_begin_13 : decode cX14_begin 13 = .ok (.aload_n 0, 1) := by decide +kernel
theorem dX14_begin_14 : decode cX14_begin 14 = .ok (.getfield 9, 3) := by decide +kernel
theorem dX14_begin_17 : decode cX14_begin 17 = .ok (.sipush 500, 3) := by decide +kernel
theorem dX14_begin_20 : decode cX14_begin 20 = .ok (.iload_n 1, 1) := by decide +kernel
theorem dX14_begin_21 : decode cX14_begin 21 = .ok (.iadd, 1) := by decide +kernel
theorem dX14_begin_22 : decode cX14_begin 22 = .ok (.iconst 0, 1) := by decide +kernel
theorem dX14_begin_23 : decode cX14_begin 23 = .ok (.iastore, 1) := by decide +kernel
theorem dX14_begin_24 : decode cX14_begin 24 = .ok (.iinc 1 1, 3) := by decide +kernel
theorem dX14_begin_27 : decode cX14_begin 27 = .ok (.goto (-22), 3) := by decide +kernel
theorem dX14_marks_0 : decode cX14_marks 0 = .ok (.iconst 0, 1) := by decide +kernel
theorem dX14_marks_1 : decode cX14_marks 1 = .ok (.istore_n 1, 1) := by decide +kernel
theorem dX14_marks_2 : decode cX14_marks 2 = .ok (.aload_n 0, 1) := by decide +kernel
theorem dX14_marks_3 : decode cX14_marks 3 = .ok (.getfield 19, 3) := by decide +kernel
theorem dX14_marks_6 : decode cX14_marks 6 = .ok (.istore_n 2, 1) := by decide +kernel
theorem dX14_marks_7 : decode cX14_marks 7 = .ok (.iload_n 2, 1) := by decide +kernel
theorem dX14_marks_8 : decode cX14_marks 8 = .ok (.aload_n 0, 1) := by decide +kernel
theorem dX14_marks_9 : decode cX14_marks 9 = .ok (.getfield 23, 3) := by decide +kernel
theorem dX14_marks_12 : decode cX14_marks 12 = .ok (.if_icmp .gt 30, 3) := by decide +kernel
theorem dX14_marks_42 : decode cX14_marks 42 = .ok (.iload_n 1, 1) := by decide +kernel
theorem dX14_marks_43 : decode cX14_marks 43 = .ok (.ireturn, 1) := by decide +kernel
theorem dX14_marks_15 : decode cX14_marks 15 = .ok (.iload_n 1, 1) := by decide +kernel
theorem dX14_marks_16 : decode cX14_marks 16 = .ok (.aload_n 0, 1) := by decide +kernel
theorem dX14_marks_17 : decode cX14_marks 17 = .ok (.getfield 9, 3) := by decide +kernel
theorem dX14_marks_20 : decode cX14_marks 20 = .ok (.sipush 500, 3) := by decide +kernel
theorem dX14_marks_23 : decode cX14_marks 23 = .ok (.iload_n 2, 1) := by decide +kernel
theorem dX14_marks_24 : decode cX14_marks 24 = .ok (.iadd, 1) := by decide +kernel
theorem dX14_marks_25 : decode cX14_marks 25 = .ok (.iaload, 1) := by decide +kernel
theorem dX14_marks_26 : decode cX14_marks 26 = .ok (.ifCond .ne 7, 3) := by decide +kernel
theorem dX14_marks_33 : decode cX14_marks 33 = .ok (.iconst 1, 1) := by decide +kernel
theorem dX14_marks_34 : decode cX14_marks 34 = .ok (.iadd, 1) := by decide +kernel
theorem dX14_marks_35 : decode cX14_marks 35 = .ok (.istore_n 1, 1) := by decide +kernel
theorem dX14_marks_36 : decode cX14_marks 36 = .ok (.iinc 2 1, 3) := by decide +kernel
theorem dX14_marks_39 : decode cX14_marks 39 = .ok (.goto (-32), 3) := by decide +kernel
theorem dX14_marks_29 : decode cX14_marks 29 = .ok (.iconst 0, 1) := by decide +kernel
theorem dX14_marks_30 : decode cX14_marks 30 = .ok (.goto 4, 3) := by decide +kernel
set_option maxHeartbeats 4000000 in
set_option maxRecDepth 100000 in
/-- X14_init -/
theorem c_X14_init (l : Launch) (dC : Nat → ClassId) (dI : Nat → Nat → Nat) (cI : ClassId) (ra ma : Nat) (sz : Nat) : Met l yX14_init wsX14_init ({ frames := 1, cells := 1, slots := 1001, locals := 12 }) (va_Pc [.ref ra, .ref ma] (cPC dC dI [(ra, .inr (19, [.null, .null, .int 0, .int 0, .int 0, .int 0, .int 0, .int 0, .int 0]))] [(cI, .int)] sz)) (va_Qv (fun (u : Nat) => True) (fun (u : Nat) t => cQB dC dI [(ra, .inr (19, [.ref ma, .ref u, .int 0, .int 0, .int 0, .int 0, .int 0, .int 0, .int 0])), (u, .inl (cI, 1001, .inl (fun _ => 0)))] [(cI, .int)] (va_A [(ra, .inr (19, [.null, .null, .int 0, .int 0, .int 0, .int 0, .int 0, .int 0, .int 0]))] sz) t) (va_A [(ra, .inr (19, [.null, .null, .int 0, .int 0, .int 0, .int 0, .int 0, .int 0, .int 0]))] sz)) 1 1001 (va_A [(ra, .inr (19, [.null, .null, .int 0, .int 0, .int 0, .int 0, .int 0, .int 0, .int 0]))] sz) := by
  refine Met.ofW (cc := cX14_init) (maxL := 2) (ret := none) (by decide) rfl ?_
  intro p e s m args below meth c s₁ B hml hv
  obtain ⟨rfl, hsz, hP, hK, hD0, hN⟩ := hv
  have hx := B.exec
  have hb := B.bytes
  have hr := B.returns
  have hts := atoms_spec (ws := wsX14_init) B.pre
  have hown : s.vm.findClass RX14 = some m.cls := findClass_of_methodNamed B.named
  have hlocks := B.notSynchronized
  have hin : meth.name = "<init>" := (name_of_methodNamed B.named B.method).1
  subst hsz
  have hD := hD0.self (sz := s.heap.size)
  generalize hAe : va_A [(ra, .inr (19, [.null, .null, .int 0, .int 0, .int 0, .int 0, .int 0, .int 0, .int 0]))] s.heap.size = A at hD ⊢
  have hA : ∀ q : Nat, s.heap.size ≤ q → A q := fun q h => by rw [← hAe]; exact Or.inr h
  have hS : va_S A s.heap s.heap [] := va_S.rf
  have hP : va_P (dC, dI) vwCl [(ra, .inr (19, [.null, .null, .int 0, .int 0, .int 0, .int 0, .int 0, .int 0, .int 0]))] s.heap := hP
  have hD : va_D A [(ra, .inr (19, [.null, .null, .int 0, .int 0, .int 0, .int 0, .int 0, .int 0, .int 0]))] := hD
  have hl := lv_entry ([.ref ra, .ref ma]) (n := 2) (Nat.le_of_ble_eq_true rfl)
  rw [lg_entry_eq]
  generalize (lg_sl ([.ref ra, .ref ma]) ++ List.replicate (2 - (lg_sl ([.ref ra, .ref ma])).length) Slot.unset).toArray = ls at hl ⊢
  have hl : lv_has ls 2 [(0, .ref ra), (1, .ref ma)] := hl
  have iWX14 : ∀ w ∈ u_ws RX14 TX14 9, w ∈ wsX14_init := by decide +kernel
  refine lv_aload_n hx hb dX14_init_0 rfl (lv_at hl 0 rfl) ?_
  refine W.objInit hx hb hown (hts (.methodLink RX14 3 Lib.objectInit) (by decide +kernel)) (hts (.instanceMethod Lib.objectInit) (by decide +kernel)) (hts (.code Lib.objectInit ⟨#[0xb1]⟩ 1 none) (by decide +kernel)) rfl (by rw [hml]; exact hl.1) rfl dX14_init_1 (Nat.le_of_ble_eq_true rfl) (Nat.le_of_ble_eq_true rfl) ?_
  refine W.eq (g2 := F0 m 4 ls []) rfl ?_
  refine lv_aload_n hx hb dX14_init_4 rfl (lv_at hl 0 rfl) ?_
  refine lv_sipush (v := 1001) hx hb dX14_init_5 (by decide) ?_
  refine va_newa (atype := .int) (ty := .int) (a0 := (1001, .inl (fun _ => 0))) (N' := 1001) hx hb (hts (.arrayClass .int) (by decide +kernel)) rfl hK hP hD hS hA (fun _ => rfl) (by decide) (by decide) (Nat.le_of_ble_eq_true rfl) (Nat.le_of_ble_eq_true rfl) (Nat.le_of_ble_eq_true rfl) dX14_init_8 (fun q_2 cA_1 H hK hP hD hS => ?_)
  have ecA_1 : cI = cA_1 := cA_one hK (i := 0) (j := 1) rfl rfl
  subst ecA_1
  have hK := hK.sub (tys' := [(cI, .int)]) [0] rfl
  have hP : va_P (dC, dI) vwCl [(ra, .inr (19, [.null, .null, .int 0, .int 0, .int 0, .int 0, .int 0, .int 0, .int 0])), (q_2, .inl (cI, 1001, .inl (fun _ => 0)))] H := hP
  have hD : va_D A [(ra, .inr (19, [.null, .null, .int 0, .int 0, .int 0, .int 0, .int 0, .int 0, .int 0])), (q_2, .inl (cI, 1001, .inl (fun _ => 0)))] := hD
  refine W.widen (k := 1) (n := 1001) (Nat.le_of_ble_eq_true rfl) (Nat.le_of_ble_eq_true rfl) ?_
  refine va_putF (D := (dC, dI)) (ci := 19) (v := .ref q_2) (ty := .array .int) (C := RX14) (T := TX14) (N := 9) hx hb hts iWX14 tyX14 tyX14_ok nmX14 hown hK hP hD hS 0 rfl rfl 1 (by decide) (hts (.fieldLink RX14 9 "BeaverhallModel$Run" "tape" "[I") (by decide +kernel)) (fun _ h9 => h9) rfl hin rfl (by decide +kernel) rfl rfl (Nat.le_of_ble_eq_true rfl) dX14_init_10 (fun H locs hP hD hS => ?_)
  have hP : va_P (dC, dI) vwCl [(ra, .inr (19, [.null, .ref q_2, .int 0, .int 0, .int 0, .int 0, .int 0, .int 0, .int 0])), (q_2, .inl (cI, 1001, .inl (fun _ => 0)))] H := hP
  have hD : va_D A [(ra, .inr (19, [.null, .ref q_2, .int 0, .int 0, .int 0, .int 0, .int 0, .int 0, .int 0])), (q_2, .inl (cI, 1001, .inl (fun _ => 0)))] := hD
  refine lv_aload_n hx hb dX14_init_13 rfl (lv_at hl 0 rfl) ?_
  refine lv_aload_n hx hb dX14_init_14 rfl (lv_at hl 1 rfl) ?_
  refine va_putF (D := (dC, dI)) (ci := 19) (v := .ref ma) (ty := .object "BeaverhallModel$Machine") (C := RX14) (T := TX14) (N := 9) hx hb hts iWX14 tyX14 tyX14_ok nmX14 hown hK hP hD hS 0 rfl rfl 0 (by decide) (hts (.fieldLink RX14 15 "BeaverhallModel$Run" "machine" "LBeaverhallModel$Machine;") (by decide +kernel)) (fun _ h9 => h9) rfl hin rfl (by decide +kernel) rfl rfl (Nat.le_of_ble_eq_true rfl) dX14_init_15 (fun H locs hP hD hS => ?_)
  have hP : va_P (dC, dI) vwCl [(ra, .inr (19, [.ref ma, .ref q_2, .int 0, .int 0, .int 0, .int 0, .int 0, .int 0, .int 0])), (q_2, .inl (cI, 1001, .inl (fun _ => 0)))] H := hP
  have hD : va_D A [(ra, .inr (19, [.ref ma, .ref q_2, .int 0, .int 0, .int 0, .int 0, .int 0, .int 0, .int 0])), (q_2, .inl (cI, 1001, .inl (fun _ => 0)))] := hD
  have hP9 := hP.sub (ws' := [(ra, .inr (19, [.ref ma, .ref q_2, .int 0, .int 0, .int 0, .int 0, .int 0, .int 0, .int 0])), (q_2, .inl (cI, 1001, .inl (fun _ => 0)))]) [0, 1] rfl
  have hD9 := hD.sub (ws' := [(ra, .inr (19, [.ref ma, .ref q_2, .int 0, .int 0, .int 0, .int 0, .int 0, .int 0, .int 0])), (q_2, .inl (cI, 1001, .inl (fun _ => 0)))]) [0, 1] (by decide) rfl
  have hK9 := hK.sub (tys' := [(cI, .int)]) [0] rfl
  exact W.vret hx hb hr (fun t ht hW => ⟨⟨q_2, rfl, trivial, ⟨by rw [ht]; exact hP9, va_K.moved hW.alike hK9, hD9⟩⟩, hS.F ht⟩) hS.2.2 dX14_init_18

set_option maxHeartbeats 4000000 in
set_option maxRecDepth 100000 in
/-- X14_begin -/
theorem c_X14_begin (l : Launch) (dC : Nat → ClassId) (dI : Nat → Nat → Nat) (cI : ClassId) (ma S G : Nat) (ra ta : Nat) (st ce lf rt sp hh ib : Int32) (f : Nat → Int32) (hR : okR S G (st, ce, lf, rt, sp, hh, ib, f)) (sz : Nat) : Met l yX14_begin wsX14_begin ({ frames := 0, cells := 0, slots := 0, locals := 0 }) (va_Pc [.ref ra] (cPC dC dI [(ra, .inr (19, [.ref ma, .ref ta, .int st, .int ce, .int lf, .int rt, .int sp, .int hh, .int ib])), (ta, .inl (cI, 1001, .inl f))] [(cI, .int)] sz)) (va_Qv (fun (u : Unit) => True) (fun (u : Unit) t => cQB dC dI [(ra, .inr (19, [.ref ma, .ref ta, .int 0, .int 0, .int 0, .int 0, .int 0, .int 0, .int 0])), (ta, .inl (cI, 1001, .inl (fun _ => 0)))] [(cI, .int)] (va_A [(ra, .inr (19, [.ref ma, .ref ta, .int st, .int ce, .int lf, .int rt, .int sp, .int hh, .int ib])), (ta, .inl (cI, 1001, .inl f))] sz) t) (va_A [(ra, .inr (19, [.ref ma, .ref ta, .int st, .int ce, .int lf, .int rt, .int sp, .int hh, .int ib])), (ta, .inl (cI, 1001, .inl f))] sz)) 0 0 (va_A [(ra, .inr (19, [.ref ma, .ref ta, .int st, .int ce, .int lf, .int rt, .int sp, .int hh, .int ib])), (ta, .inl (cI, 1001, .inl f))] sz) := by
  refine Met.ofW (cc := cX14_begin) (maxL := 2) (ret := none) (by decide) rfl ?_
  intro p e s m args below meth c s₁ B hml hv
  obtain ⟨rfl, hsz, hP, hK, hD0, hN⟩ := hv
  have hx := B.exec
  have hb := B.bytes
  have hr := B.returns
  have hts := atoms_spec (ws := wsX14_begin) B.pre
  have hown : s.vm.findClass RX14 = some m.cls := findClass_of_methodNamed B.named
  have hlocks := B.notSynchronized
  subst hsz
  have hD := hD0.self (sz := s.heap.size)
  generalize hAe : va_A [(ra, .inr (19, [.ref ma, .ref ta, .int st, .int ce, .int lf, .int rt, .int sp, .int hh, .int ib])), (ta, .inl (cI, 1001, .inl f))] s.heap.size = A at hD ⊢
  have hA : ∀ q : Nat, s.heap.size ≤ q → A q := fun q h => by rw [← hAe]; exact Or.inr h
  have hS : va_S A s.heap s.heap [] := va_S.rf
  have hP : va_P (dC, dI) vwCl [(ra, .inr (19, [.ref ma, .ref ta, .int st, .int ce, .int lf, .int rt, .int sp, .int hh, .int ib])), (ta, .inl (cI, 1001, .inl f))] s.heap := hP
  have hD : va_D A [(ra, .inr (19, [.ref ma, .ref ta, .int st, .int ce, .int lf, .int rt, .int sp, .int hh, .int ib])), (ta, .inl (cI, 1001, .inl f))] := hD
  have hl := lv_entry ([.ref ra]) (n := 2) (Nat.le_of_ble_eq_true rfl)
  rw [lg_entry_eq]
  generalize (lg_sl ([.ref ra]) ++ List.replicate (2 - (lg_sl ([.ref ra])).length) Slot.unset).toArray = ls at hl ⊢
  have hl : lv_has ls 2 [(0, .ref ra)] := hl
  obtain ⟨a, c0, lo, hi, rfl, rfl, rfl, rfl, h1, h2, h3, h4, h5, h6, h7, h8, h9, h10⟩ := hR
  have hP : va_P (dC, dI) vwCl [(ra, .inr (19, [.ref ma, .ref ta, .int (nI a), .int (nI c0 - 500), .int (nI lo - 500), .int (nI hi - 500), .int sp, .int hh, .int ib])), (ta, .inl (cI, 1001, .inl f))] s.heap := hP
  have hD : va_D A [(ra, .inr (19, [.ref ma, .ref ta, .int (nI a), .int (nI c0 - 500), .int (nI lo - 500), .int (nI hi - 500), .int sp, .int hh, .int ib])), (ta, .inl (cI, 1001, .inl f))] := hD
  have iWX14 : ∀ w ∈ u_ws RX14 TX14 9, w ∈ wsX14_begin := by decide +kernel
  refine lv_aload_n hx hb dX14_begin_0 rfl (lv_at hl 0 rfl) ?_
  refine va_get (D := (dC, dI)) (ci := 19) (v := .int (nI lo - 500)) (C := RX14) (T := TX14) (N := 9) hx hb hts iWX14 hown hK hP 0 rfl rfl 4 (by decide) (hts (.fieldLink RX14 19 "BeaverhallModel$Run" "left" "I") (by decide +kernel)) (fun _ h9 => h9) rfl dX14_begin_1 ?_
  refine lv_istore_n (lv' := [(1, .int (nI lo - 500)), (0, .ref ra)]) hx hb dX14_begin_4 rfl hl (by decide) rfl (fun ls hl => ?_)
  refine lp_go (σ := Nat × (Nat → Int32)) (fun x => match x with | (j_5, g_5) => lo ≤ j_5 ∧ j_5 ≤ hi + 1 ∧ g_5 = (fun q => if lo ≤ q ∧ q < j_5 then 0 else f q)) (fun x => match x with | (j_5, g_5) => hi + 1 - j_5) (fun x => [(ra, .inr (19, [.ref ma, .ref ta, .int (nI a), .int (nI c0 - 500), .int (nI lo - 500), .int (nI hi - 500), .int sp, .int hh, .int ib])), (ta, .inl (cI, 1001, .inl x.2))]) (fun x => [(0, .ref ra), (1, .int (nI x.1 - 500))]) (fun _ => []) (fun x hI ih5 H locs hP hD hS ls hl => ?_) (lo, f) ⟨Nat.le_refl _, by omega, by funext q; rw [if_neg (by omega)]⟩ (hP.sub [0, 1] rfl) (hD.sub [0, 1] (by decide) rfl) hS (lv_sub hl [1, 0] rfl)
  obtain ⟨j_5, g_5⟩ := x
  have hP : va_P (dC, dI) vwCl [(ra, .inr (19, [.ref ma, .ref ta, .int (nI a), .int (nI c0 - 500), .int (nI lo - 500), .int (nI hi - 500), .int sp, .int hh, .int ib])), (ta, .inl (cI, 1001, .inl g_5))] H := hP
  have hD : va_D A [(ra, .inr (19, [.ref ma, .ref ta, .int (nI a), .int (nI c0 - 500), .int (nI lo - 500), .int (nI hi - 500), .int sp, .int hh, .int ib])), (ta, .inl (cI, 1001, .inl g_5))] := hD
  have hl : lv_has ls 2 [(0, .ref ra), (1, .int (nI j_5 - 500))] := hl
  dsimp only at hI
  have ih5 := ih5
  refine lv_iload_n hx hb dX14_begin_5 rfl (lv_at hl 1 rfl) ?_
  refine lv_aload_n hx hb dX14_begin_6 rfl (lv_at hl 0 rfl) ?_
  refine va_get (D := (dC, dI)) (ci := 19) (v := .int (nI hi - 500)) (C := RX14) (T := TX14) (N := 9) hx hb hts iWX14 hown hK hP 0 rfl rfl 5 (by decide) (hts (.fieldLink RX14 23 "BeaverhallModel$Run" "right" "I") (by decide +kernel)) (fun _ h9 => h9) rfl dX14_begin_7 ?_
  refine lv_icmp_gt (tgt := 30) hx hb dX14_begin_10 (by decide) (fun c10_1 => ?_) (fun c10_1 => ?_)
  · have hg : g_5 = (fun _ => 0) := by
      have h11 := (cN_lt (a := hi) (b := j_5) (by omega) (by have := hI.2.1; omega)).mp c10_1
      rw [hI.2.2]; funext q; by_cases hq : lo ≤ q ∧ q < j_5
      · rw [if_pos hq]
      · rw [if_neg hq]; exact h10 q (by omega)
    subst hg
    refine lv_aload_n hx hb dX14_begin_30 rfl (lv_at hl 0 rfl) ?_
    refine lv_iconst (v := 0) hx hb dX14_begin_31 (by decide) ?_
    refine va_put (D := (dC, dI)) (ci := 19) (v := .int 0) (ty := .int) (C := RX14) (T := TX14) (N := 9) hx hb hts iWX14 tyX14 tyX14_ok nmX14 hown hK hP hD hS 0 rfl rfl 2 (by decide) (hts (.fieldLink RX14 26 "BeaverhallModel$Run" "state" "I") (by decide +kernel)) (fun _ h9 => h9) rfl (by decide +kernel) rfl rfl (Nat.le_of_ble_eq_true rfl) dX14_begin_32 (fun H locs hP hD hS => ?_)
    have hP : va_P (dC, dI) vwCl [(ra, .inr (19, [.ref ma, .ref ta, .int 0, .int (nI c0 - 500), .int (nI lo - 500), .int (nI hi - 500), .int sp, .int hh, .int ib])), (ta, .inl (cI, 1001, .inl (fun _ => 0)))] H := hP
    have hD : va_D A [(ra, .inr (19, [.ref ma, .ref ta, .int 0, .int (nI c0 - 500), .int (nI lo - 500), .int (nI hi - 500), .int sp, .int hh, .int ib])), (ta, .inl (cI, 1001, .inl (fun _ => 0)))] := hD
    refine lv_aload_n hx hb dX14_begin_35 rfl (lv_at hl 0 rfl) ?_
    refine lv_iconst (v := 0) hx hb dX14_begin_36 (by decide) ?_
    refine va_put (D := (dC, dI)) (ci := 19) (v := .int 0) (ty := .int) (C := RX14) (T := TX14) (N := 9) hx hb hts iWX14 tyX14 tyX14_ok nmX14 hown hK hP hD hS 0 rfl rfl 3 (by decide) (hts (.fieldLink RX14 29 "BeaverhallModel$Run" "cell" "I") (by decide +kernel)) (fun _ h9 => h9) rfl (by decide +kernel) rfl rfl (Nat.le_of_ble_eq_true rfl) dX14_begin_37 (fun H locs hP hD hS => ?_)
    have hP : va_P (dC, dI) vwCl [(ra, .inr (19, [.ref ma, .ref ta, .int 0, .int 0, .int (nI lo - 500), .int (nI hi - 500), .int sp, .int hh, .int ib])), (ta, .inl (cI, 1001, .inl (fun _ => 0)))] H := hP
    have hD : va_D A [(ra, .inr (19, [.ref ma, .ref ta, .int 0, .int 0, .int (nI lo - 500), .int (nI hi - 500), .int sp, .int hh, .int ib])), (ta, .inl (cI, 1001, .inl (fun _ => 0)))] := hD
    refine lv_aload_n hx hb dX14_begin_40 rfl (lv_at hl 0 rfl) ?_
    refine lv_iconst (v := 0) hx hb dX14_begin_41 (by decide) ?_
    refine va_put (D := (dC, dI)) (ci := 19) (v := .int 0) (ty := .int) (C := RX14) (T := TX14) (N := 9) hx hb hts iWX14 tyX14 tyX14_ok nmX14 hown hK hP hD hS 0 rfl rfl 4 (by decide) (hts (.fieldLink RX14 19 "BeaverhallModel$Run" "left" "I") (by decide +kernel)) (fun _ h9 => h9) rfl (by decide +kernel) rfl rfl (Nat.le_of_ble_eq_true rfl) dX14_begin_42 (fun H locs hP hD hS => ?_)
    have hP : va_P (dC, dI) vwCl [(ra, .inr (19, [.ref ma, .ref ta, .int 0, .int 0, .int 0, .int (nI hi - 500), .int sp, .int hh, .int ib])), (ta, .inl (cI, 1001, .inl (fun _ => 0)))] H := hP
    have hD : va_D A [(ra, .inr (19, [.ref ma, .ref ta, .int 0, .int 0, .int 0, .int (nI hi - 500), .int sp, .int hh, .int ib])), (ta, .inl (cI, 1001, .inl (fun _ => 0)))] := hD
    refine lv_aload_n hx hb dX14_begin_45 rfl (lv_at hl 0 rfl) ?_
    refine lv_iconst (v := 0) hx hb dX14_begin_46 (by decide) ?_
    refine va_put (D := (dC, dI)) (ci := 19) (v := .int 0) (ty := .int) (C := RX14) (T := TX14) (N := 9) hx hb hts iWX14 tyX14 tyX14_ok nmX14 hown hK hP hD hS 0 rfl rfl 5 (by decide) (hts (.fieldLink RX14 23 "BeaverhallModel$Run" "right" "I") (by decide +kernel)) (fun _ h9 => h9) rfl (by decide +kernel) rfl rfl (Nat.le_of_ble_eq_true rfl) dX14_begin_47 (fun H locs hP hD hS => ?_)
    have hP : va_P (dC, dI) vwCl [(ra, .inr (19, [.ref ma, .ref ta, .int 0, .int 0, .int 0, .int 0, .int sp, .int hh, .int ib])), (ta, .inl (cI, 1001, .inl (fun _ => 0)))] H := hP
    have hD : va_D A [(ra, .inr (19, [.ref ma, .ref ta, .int 0, .int 0, .int 0, .int 0, .int sp, .int hh, .int ib])), (ta, .inl (cI, 1001, .inl (fun _ => 0)))] := hD
    refine lv_aload_n hx hb dX14_begin_50 rfl (lv_at hl 0 rfl) ?_
    refine lv_iconst (v := 0) hx hb dX14_begin_51 (by decide) ?_
    refine va_put (D := (dC, dI)) (ci := 19) (v := .int 0) (ty := .int) (C := RX14) (T := TX14) (N := 9) hx hb hts iWX14 tyX14 tyX14_ok nmX14 hown hK hP hD hS 0 rfl rfl 6 (by decide) (hts (.fieldLink RX14 32 "BeaverhallModel$Run" "steps" "I") (by decide +kernel)) (fun _ h9 => h9) rfl (by decide +kernel) rfl rfl (Nat.le_of_ble_eq_true rfl) dX14_begin_52 (fun H locs hP hD hS => ?_)
    have hP : va_P (dC, dI) vwCl [(ra, .inr (19, [.ref ma, .ref ta, .int 0, .int 0, .int 0, .int 0, .int 0, .int hh, .int ib])), (ta, .inl (cI, 1001, .inl (fun _ => 0)))] H := hP
    have hD : va_D A [(ra, .inr (19, [.ref ma, .ref ta, .int 0, .int 0, .int 0, .int 0, .int 0, .int hh, .int ib])), (ta, .inl (cI, 1001, .inl (fun _ => 0)))] := hD
    refine lv_aload_n hx hb dX14_begin_55 rfl (lv_at hl 0 rfl) ?_
    refine lv_iconst (v := 0) hx hb dX14_begin_56 (by decide) ?_
    refine va_put (D := (dC, dI)) (ci := 19) (v := .int 0) (ty := .boolean) (C := RX14) (T := TX14) (N := 9) hx hb hts iWX14 tyX14 tyX14_ok nmX14 hown hK hP hD hS 0 rfl rfl 7 (by decide) (hts (.fieldLink RX14 35 "BeaverhallModel$Run" "hasHalted" "Z") (by decide +kernel)) (fun _ h9 => h9) rfl (by decide +kernel) rfl rfl (Nat.le_of_ble_eq_true rfl) dX14_begin_57 (fun H locs hP hD hS => ?_)
    have hP : va_P (dC, dI) vwCl [(ra, .inr (19, [.ref ma, .ref ta, .int 0, .int 0, .int 0, .int 0, .int 0, .int 0, .int ib])), (ta, .inl (cI, 1001, .inl (fun _ => 0)))] H := hP
    have hD : va_D A [(ra, .inr (19, [.ref ma, .ref ta, .int 0, .int 0, .int 0, .int 0, .int 0, .int 0, .int ib])), (ta, .inl (cI, 1001, .inl (fun _ => 0)))] := hD
    refine lv_aload_n hx hb dX14_begin_60 rfl (lv_at hl 0 rfl) ?_
    refine lv_iconst (v := 0) hx hb dX14_begin_61 (by decide) ?_
    refine va_put (D := (dC, dI)) (ci := 19) (v := .int 0) (ty := .boolean) (C := RX14) (T := TX14) (N := 9) hx hb hts iWX14 tyX14 tyX14_ok nmX14 hown hK hP hD hS 0 rfl rfl 8 (by decide) (hts (.fieldLink RX14 39 "BeaverhallModel$Run" "isBound" "Z") (by decide +kernel)) (fun _ h9 => h9) rfl (by decide +kernel) rfl rfl (Nat.le_of_ble_eq_true rfl) dX14_begin_62 (fun H locs hP hD hS => ?_)
    have hP : va_P (dC, dI) vwCl [(ra, .inr (19, [.ref ma, .ref ta, .int 0, .int 0, .int 0, .int 0, .int 0, .int 0, .int 0])), (ta, .inl (cI, 1001, .inl (fun _ => 0)))] H := hP
    have hD : va_D A [(ra, .inr (19, [.ref ma, .ref ta, .int 0, .int 0, .int 0, .int 0, .int 0, .int 0, .int 0])), (ta, .inl (cI, 1001, .inl (fun _ => 0)))] := hD
    have hP9 := hP.sub (ws' := [(ra, .inr (19, [.ref ma, .ref ta, .int 0, .int 0, .int 0, .int 0, .int 0, .int 0, .int 0])), (ta, .inl (cI, 1001, .inl (fun _ => 0)))]) [0, 1] rfl
    have hD9 := hD.sub (ws' := [(ra, .inr (19, [.ref ma, .ref ta, .int 0, .int 0, .int 0, .int 0, .int 0, .int 0, .int 0])), (ta, .inl (cI, 1001, .inl (fun _ => 0)))]) [0, 1] (by decide) rfl
    have hK9 := hK.sub (tys' := [(cI, .int)]) [0] rfl
    exact W.vret hx hb hr (fun t ht hW => ⟨⟨(), rfl, trivial, ⟨by rw [ht]; exact hP9, va_K.moved hW.alike hK9, hD9⟩⟩, hS.F ht⟩) hS.2.2 dX14_begin_65
  · refine lv_aload_n hx hb dX14_begin_13 rfl (lv_at hl 0 rfl) ?_
    refine va_get (D := (dC, dI)) (ci := 19) (v := .ref ta) (C := RX14) (T := TX14) (N := 9) hx hb hts iWX14 hown hK hP 0 rfl rfl 1 (by decide) (hts (.fieldLink RX14 9 "BeaverhallModel$Run" "tape" "[I") (by decide +kernel)) (fun _ h9 => h9) rfl dX14_begin_14 ?_
    refine lv_sipush (v := 500) hx hb dX14_begin_17 (by decide) ?_
    refine lv_iload_n hx hb dX14_begin_20 rfl (lv_at hl 1 rfl) ?_
    refine lv_iadd hx hb dX14_begin_21 ?_
    refine lv_iconst (v := 0) hx hb dX14_begin_22 (by decide) ?_
    refine va_iast hx hb hK hP hD hS 1 0 rfl rfl (cell_in (by have := mt (cN_lt (a := hi) (b := j_5) (by omega) (by have := hI.2.1; omega)).mpr c10_1; omega)) dX14_begin_23 (fun H locs hP hD hS => ?_)
    obtain ⟨f_2, ef_2⟩ : ∃ z, z = (upd g_5 ((500 + (nI j_5 - 500))).toNatClampNeg 0) := ⟨_, rfl⟩
    have hP : va_P (dC, dI) vwCl [(ra, .inr (19, [.ref ma, .ref ta, .int (nI a), .int (nI c0 - 500), .int (nI lo - 500), .int (nI hi - 500), .int sp, .int hh, .int ib])), (ta, .inl (cI, 1001, .inl f_2))] H := by rw [ef_2]; exact hP
    have hD : va_D A [(ra, .inr (19, [.ref ma, .ref ta, .int (nI a), .int (nI c0 - 500), .int (nI lo - 500), .int (nI hi - 500), .int sp, .int hh, .int ib])), (ta, .inl (cI, 1001, .inl f_2))] := by rw [ef_2]; exact hD
    obtain ⟨y_3, ey_3⟩ : ∃ y : Int32, y = (nI j_5 - 500) + 1 := ⟨_, rfl⟩
    refine lv_iinc (v := y_3) (lv' := [(1, .int y_3), (0, .ref ra)]) hx hb dX14_begin_24 hl (k := 1) rfl (by rw [ey_3]; rfl) (by decide) rfl (fun ls hl => ?_)
    obtain rfl : y_3 = nI (j_5 + 1) - 500 := by rw [ey_3]; exact cN_succ _
    refine lv_goto (tgt := 5) hx hb dX14_begin_27 (by decide) ?_
    exact ih5 ((j_5 + 1), f_2) ⟨by omega, by have := hI.2.1; have := mt (cN_lt (by omega) (by omega)).mpr c10_1; omega, by rw [ef_2, cell_cl (by have := hI.2.1; omega), hI.2.2]; funext q; have := hI.1; by_cases hq : q = j_5 <;> simp only [upd, hq] <;> (try rw [if_pos (by omega)]) <;> (try rfl) <;> (by_cases hz : lo ≤ q ∧ q < j_5 <;> simp [hq, hz] <;> (try omega))⟩ (by have := mt (cN_lt (a := hi) (b := j_5) (by omega) (by have := hI.2.1; omega)).mpr c10_1; show hi + 1 - (j_5 + 1) < hi + 1 - j_5; omega) _ _ (hP.sub [0, 1] rfl) (hD.sub [0, 1] (by decide) rfl) hS ls (lv_sub hl [1, 0] rfl)

set_option maxHeartbeats 4000000 in
set_option maxRecDepth 100000 in
/-- X14_marks -/
theorem c_X14_marks (l : Launch) (dC : Nat → ClassId) (dI : Nat → Nat → Nat) (cI : ClassId) (ma S G : Nat) (ra ta : Nat) (st ce lf rt sp hh ib : Int32) (f : Nat → Int32) (hR : okR S G (st, ce, lf, rt, sp, hh, ib, f)) (sz : Nat) : Met l yX14_marks wsX14_marks ({ frames := 0, cells := 0, slots := 0, locals := 0 }) (va_Pc [.ref ra] (cPC dC dI [(ra, .inr (19, [.ref ma, .ref ta, .int st, .int ce, .int lf, .int rt, .int sp, .int hh, .int ib])), (ta, .inl (cI, 1001, .inl f))] [(cI, .int)] sz)) (va_Qi (fun (r : Int32) (u : Unit) => r = marksR lf rt f) (fun (u : Unit) t => cQB dC dI [(ra, .inr (19, [.ref ma, .ref ta, .int st, .int ce, .int lf, .int rt, .int sp, .int hh, .int ib])), (ta, .inl (cI, 1001, .inl f))] [(cI, .int)] (va_A [(ra, .inr (19, [.ref ma, .ref ta, .int st, .int ce, .int lf, .int rt, .int sp, .int hh, .int ib])), (ta, .inl (cI, 1001, .inl f))] sz) t) (va_A [(ra, .inr (19, [.ref ma, .ref ta, .int st, .int ce, .int lf, .int rt, .int sp, .int hh, .int ib])), (ta, .inl (cI, 1001, .inl f))] sz)) 0 0 (va_A [(ra, .inr (19, [.ref ma, .ref ta, .int st, .int ce, .int lf, .int rt, .int sp, .int hh, .int ib])), (ta, .inl (cI, 1001, .inl f))] sz) := by
  refine Met.ofW (cc := cX14_marks) (maxL := 3) (ret := (some .int)) (by decide) rfl ?_
  intro p e s m args below meth c s₁ B hml hv
  obtain ⟨rfl, hsz, hP, hK, hD0, hN⟩ := hv
  have hx := B.exec
  have hb := B.bytes
  have hr := B.returns
  have hts := atoms_spec (ws := wsX14_marks) B.pre
  have hown : s.vm.findClass RX14 = some m.cls := findClass_of_methodNamed B.named
  have hlocks := B.notSynchronized
  subst hsz
  have hD := hD0.self (sz := s.heap.size)
  generalize hAe : va_A [(ra, .inr (19, [.ref ma, .ref ta, .int st, .int ce, .int lf, .int rt, .int sp, .int hh, .int ib])), (ta, .inl (cI, 1001, .inl f))] s.heap.size = A at hD ⊢
  have hA : ∀ q : Nat, s.heap.size ≤ q → A q := fun q h => by rw [← hAe]; exact Or.inr h
  have hS : va_S A s.heap s.heap [] := va_S.rf
  have hP : va_P (dC, dI) vwCl [(ra, .inr (19, [.ref ma, .ref ta, .int st, .int ce, .int lf, .int rt, .int sp, .int hh, .int ib])), (ta, .inl (cI, 1001, .inl f))] s.heap := hP
  have hD : va_D A [(ra, .inr (19, [.ref ma, .ref ta, .int st, .int ce, .int lf, .int rt, .int sp, .int hh, .int ib])), (ta, .inl (cI, 1001, .inl f))] := hD
  have hl := lv_entry ([.ref ra]) (n := 3) (Nat.le_of_ble_eq_true rfl)
  rw [lg_entry_eq]
  generalize (lg_sl ([.ref ra]) ++ List.replicate (3 - (lg_sl ([.ref ra])).length) Slot.unset).toArray = ls at hl ⊢
  have hl : lv_has ls 3 [(0, .ref ra)] := hl
  obtain ⟨a, c0, lo, hi, rfl, rfl, rfl, rfl, h1, h2, h3, h4, h5, h6, h7, h8, h9, h10⟩ := hR
  have hP : va_P (dC, dI) vwCl [(ra, .inr (19, [.ref ma, .ref ta, .int (nI a), .int (nI c0 - 500), .int (nI lo - 500), .int (nI hi - 500), .int sp, .int hh, .int ib])), (ta, .inl (cI, 1001, .inl f))] s.heap := hP
  have hD : va_D A [(ra, .inr (19, [.ref ma, .ref ta, .int (nI a), .int (nI c0 - 500), .int (nI lo - 500), .int (nI hi - 500), .int sp, .int hh, .int ib])), (ta, .inl (cI, 1001, .inl f))] := hD
  have iWX14 : ∀ w ∈ u_ws RX14 TX14 9, w ∈ wsX14_marks := by decide +kernel
  refine lv_iconst (v := 0) hx hb dX14_marks_0 (by decide) ?_
  refine lv_istore_n (lv' := [(1, .int 0), (0, .ref ra)]) hx hb dX14_marks_1 rfl hl (by decide) rfl (fun ls hl => ?_)
  refine lv_aload_n hx hb dX14_marks_2 rfl (lv_at hl 1 rfl) ?_
  refine va_get (D := (dC, dI)) (ci := 19) (v := .int (nI lo - 500)) (C := RX14) (T := TX14) (N := 9) hx hb hts iWX14 hown hK hP 0 rfl rfl 4 (by decide) (hts (.fieldLink RX14 19 "BeaverhallModel$Run" "left" "I") (by decide +kernel)) (fun _ h9 => h9) rfl dX14_marks_3 ?_
  refine lv_istore_n (lv' := [(2, .int (nI lo - 500)), (1, .int 0), (0, .ref ra)]) hx hb dX14_marks_6 rfl hl (by decide) rfl (fun ls hl => ?_)
  refine lp_go (σ := Nat × Int32) (fun x => match x with | (j_7, z_7) => lo ≤ j_7 ∧ j_7 ≤ hi + 1 ∧ z_7 = cntN f lo (j_7 - lo)) (fun x => match x with | (j_7, z_7) => hi + 1 - j_7) (fun x => [(ra, .inr (19, [.ref ma, .ref ta, .int (nI a), .int (nI c0 - 500), .int (nI lo - 500), .int (nI hi - 500), .int sp, .int hh, .int ib])), (ta, .inl (cI, 1001, .inl f))]) (fun x => [(0, .ref ra), (1, .int x.2), (2, .int (nI x.1 - 500))]) (fun _ => []) (fun x hI ih7 H locs hP hD hS ls hl => ?_) (lo, 0) ⟨Nat.le_refl _, by omega, by rw [Nat.sub_self]; rfl⟩ (hP.sub [0, 1] rfl) (hD.sub [0, 1] (by decide) rfl) hS (lv_sub hl [2, 1, 0] rfl)
  obtain ⟨j_7, z_7⟩ := x
  have hP : va_P (dC, dI) vwCl [(ra, .inr (19, [.ref ma, .ref ta, .int (nI a), .int (nI c0 - 500), .int (nI lo - 500), .int (nI hi - 500), .int sp, .int hh, .int ib])), (ta, .inl (cI, 1001, .inl f))] H := hP
  have hD : va_D A [(ra, .inr (19, [.ref ma, .ref ta, .int (nI a), .int (nI c0 - 500), .int (nI lo - 500), .int (nI hi - 500), .int sp, .int hh, .int ib])), (ta, .inl (cI, 1001, .inl f))] := hD
  have hl : lv_has ls 3 [(0, .ref ra), (1, .int z_7), (2, .int (nI j_7 - 500))] := hl
  dsimp only at hI
  have ih7 := ih7
  refine lv_iload_n hx hb dX14_marks_7 rfl (lv_at hl 2 rfl) ?_
  refine lv_aload_n hx hb dX14_marks_8 rfl (lv_at hl 0 rfl) ?_
  refine va_get (D := (dC, dI)) (ci := 19) (v := .int (nI hi - 500)) (C := RX14) (T := TX14) (N := 9) hx hb hts iWX14 hown hK hP 0 rfl rfl 5 (by decide) (hts (.fieldLink RX14 23 "BeaverhallModel$Run" "right" "I") (by decide +kernel)) (fun _ h9 => h9) rfl dX14_marks_9 ?_
  refine lv_icmp_gt (tgt := 42) hx hb dX14_marks_12 (by decide) (fun c12_1 => ?_) (fun c12_1 => ?_)
  · refine lv_iload_n hx hb dX14_marks_42 rfl (lv_at hl 1 rfl) ?_
    have hP9 := hP.sub (ws' := [(ra, .inr (19, [.ref ma, .ref ta, .int (nI a), .int (nI c0 - 500), .int (nI lo - 500), .int (nI hi - 500), .int sp, .int hh, .int ib])), (ta, .inl (cI, 1001, .inl f))]) [0, 1] rfl
    have hD9 := hD.sub (ws' := [(ra, .inr (19, [.ref ma, .ref ta, .int (nI a), .int (nI c0 - 500), .int (nI lo - 500), .int (nI hi - 500), .int sp, .int hh, .int ib])), (ta, .inl (cI, 1001, .inl f))]) [0, 1] (by decide) rfl
    have hK9 := hK.sub (tys' := [(cI, .int)]) [0] rfl
    exact W.iret (v := z_7) hx hb hr (fun t ht hW => ⟨⟨z_7, (), rfl, (by have := (cN_lt (a := hi) (b := j_7) (by omega) (by have := hI.2.1; omega)).mp c12_1; unfold marksR; rw [cell_cl (by omega), cell_cl (by omega), hI.2.2, show j_7 = hi + 1 from by have := hI.2.1; omega]), ⟨by rw [ht]; exact hP9, va_K.moved hW.alike hK9, hD9⟩⟩, hS.F ht⟩) hS.2.2 dX14_marks_43
  · refine lv_iload_n hx hb dX14_marks_15 rfl (lv_at hl 1 rfl) ?_
    refine lv_aload_n hx hb dX14_marks_16 rfl (lv_at hl 0 rfl) ?_
    refine va_get (D := (dC, dI)) (ci := 19) (v := .ref ta) (C := RX14) (T := TX14) (N := 9) hx hb hts iWX14 hown hK hP 0 rfl rfl 1 (by decide) (hts (.fieldLink RX14 9 "BeaverhallModel$Run" "tape" "[I") (by decide +kernel)) (fun _ h9 => h9) rfl dX14_marks_17 ?_
    refine lv_sipush (v := 500) hx hb dX14_marks_20 (by decide) ?_
    refine lv_iload_n hx hb dX14_marks_23 rfl (lv_at hl 2 rfl) ?_
    refine lv_iadd hx hb dX14_marks_24 ?_
    refine va_iald hx hb hK hP 1 0 rfl rfl (cell_in (by have := mt (cN_lt (a := hi) (b := j_7) (by omega) (by have := hI.2.1; omega)).mpr c12_1; omega)) dX14_marks_25 ?_
    refine lv_if_ne (tgt := 33) hx hb dX14_marks_26 (by decide) (fun c26_2 => ?_) (fun c26_2 => ?_)
    · refine lv_iconst (v := 1) hx hb dX14_marks_33 (by decide) ?_
      refine lv_iadd hx hb dX14_marks_34 ?_
      refine lv_topi (fun x_3 ex_3 => ?_)
      refine lv_istore_n (lv' := [(1, .int x_3), (0, .ref ra), (2, .int (nI j_7 - 500))]) hx hb dX14_marks_35 rfl hl (by decide) rfl (fun ls hl => ?_)
      obtain ⟨y_4, ey_4⟩ : ∃ y : Int32, y = (nI j_7 - 500) + 1 := ⟨_, rfl⟩
      refine lv_iinc (v := y_4) (lv' := [(2, .int y_4), (1, .int x_3), (0, .ref ra)]) hx hb dX14_marks_36 hl (k := 2) rfl (by rw [ey_4]; rfl) (by decide) rfl (fun ls hl => ?_)
      obtain rfl : y_4 = nI (j_7 + 1) - 500 := by rw [ey_4]; exact cN_succ _
      refine lv_goto (tgt := 7) hx hb dX14_marks_39 (by decide) ?_
      exact ih7 ((j_7 + 1), x_3) ⟨by omega, by have := hI.2.1; have := mt (cN_lt (by omega) (by omega)).mpr c12_1; omega, by rw [ex_3, hI.2.2, show j_7 + 1 - lo = (j_7 - lo) + 1 from by omega]; simp only [cntN]; rw [show lo + (j_7 - lo) = j_7 from by omega]; have hq := c26_2; rw [cell_cl (by have := hI.2.1; omega)] at hq; simp [hq]⟩ (by have := mt (cN_lt (a := hi) (b := j_7) (by omega) (by have := hI.2.1; omega)).mpr c12_1; show hi + 1 - (j_7 + 1) < hi + 1 - j_7; omega) _ _ (hP.sub [0, 1] rfl) (hD.sub [0, 1] (by decide) rfl) hS ls (lv_sub hl [2, 1, 0] rfl)
    · refine lv_iconst (v := 0) hx hb dX14_marks_29 (by decide) ?_
      refine lv_goto (tgt := 34) hx hb dX14_marks_30 (by decide) ?_
      refine lv_iadd hx hb dX14_marks_34 ?_
      refine lv_topi (fun x_5 ex_5 => ?_)
      refine lv_istore_n (lv' := [(1, .int x_5), (0, .ref ra), (2, .int (nI j_7 - 500))]) hx hb dX14_marks_35 rfl hl (by decide) rfl (fun ls hl => ?_)
      obtain ⟨y_6, ey_6⟩ : ∃ y : Int32, y = (nI j_7 - 500) + 1 := ⟨_, rfl⟩
      refine lv_iinc (v := y_6) (lv' := [(2, .int y_6), (1, .int x_5), (0, .ref ra)]) hx hb dX14_marks_36 hl (k := 2) rfl (by rw [ey_6]; rfl) (by decide) rfl (fun ls hl => ?_)
      obtain rfl : y_6 = nI (j_7 + 1) - 500 := by rw [ey_6]; exact cN_succ _
      refine lv_goto (tgt := 7) hx hb dX14_marks_39 (by decide) ?_
      exact ih7 ((j_7 + 1), x_5) ⟨by omega, by have := hI.2.1; have := mt (cN_lt (by omega) (by omega)).mpr c12_1; omega, by rw [ex_5, hI.2.2, show j_7 + 1 - lo = (j_7 - lo) + 1 from by omega]; simp only [cntN]; rw [show lo + (j_7 - lo) = j_7 from by omega]; have hq := c26_2; rw [cell_cl (by have := hI.2.1; omega)] at hq; simp [hq]⟩ (by have := mt (cN_lt (a := hi) (b := j_7) (by omega) (by have := hI.2.1; omega)).mpr c12_1; show hi + 1 - (j_7 + 1) < hi + 1 - j_7; omega) _ _ (hP.sub [0, 1] rfl) (hD.sub [0, 1] (by decide) rfl) hS ls (lv_sub hl [2, 1, 0] rfl)
