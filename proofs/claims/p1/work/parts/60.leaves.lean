theorem dX11_at_0 : decode cX11_at 0 = .ok (.iload_n 1, 1) := by decide +kernel
theorem dX11_at_1 : decode cX11_at 1 = .ok (.ifCond .lt 15, 3) := by decide +kernel
theorem dX11_at_16 : decode cX11_at 16 = .ok (.iconst 0, 1) := by decide +kernel
theorem dX11_at_17 : decode cX11_at 17 = .ok (.ireturn, 1) := by decide +kernel
theorem dX11_at_4 : decode cX11_at 4 = .ok (.iload_n 1, 1) := by decide +kernel
theorem dX11_at_5 : decode cX11_at 5 = .ok (.aload_n 0, 1) := by decide +kernel
theorem dX11_at_6 : decode cX11_at 6 = .ok (.arraylength, 1) := by decide +kernel
theorem dX11_at_7 : decode cX11_at 7 = .ok (.if_icmp .ge 9, 3) := by decide +kernel
theorem dX11_at_10 : decode cX11_at 10 = .ok (.aload_n 0, 1) := by decide +kernel
theorem dX11_at_11 : decode cX11_at 11 = .ok (.iload_n 1, 1) := by decide +kernel
theorem dX11_at_12 : decode cX11_at 12 = .ok (.iaload, 1) := by decide +kernel
theorem dX11_at_13 : decode cX11_at 13 = .ok (.goto 4, 3) := by decide +kernel
theorem dX11_put_0 : decode cX11_put 0 = .ok (.iload_n 1, 1) := by decide +kernel
theorem dX11_put_1 : decode cX11_put 1 = .ok (.ifCond .lt 13, 3) := by decide +kernel
theorem dX11_put_14 : decode cX11_put 14 = .ok (.return_, 1) := by decide +kernel
theorem dX11_put_4 : decode cX11_put 4 = .ok (.iload_n 1, 1) := by decide +kernel
theorem dX11_put_5 : decode cX11_put 5 = .ok (.aload_n 0, 1) := by decide +kernel
theorem dX11_put_6 : decode cX11_put 6 = .ok (.arraylength, 1) := by decide +kernel
theorem dX11_put_7 : decode cX11_put 7 = .ok (.if_icmp .ge 7, 3) := by decide +kernel
theorem dX11_put_10 : decode cX11_put 10 = .ok (.aload_n 0, 1) := by decide +kernel
theorem dX11_put_11 : decode cX11_put 11 = .ok (.iload_n 1, 1) := by decide +kernel
theorem dX11_put_12 : decode cX11_put 12 = .ok (.iload_n 2, 1) := by decide +kernel
theorem dX11_put_13 : decode cX11_put 13 = .ok (.iastore, 1) := by decide +kernel
theorem dX5_moveOf_0 : decode cX5_moveOf 0 = .ok (.iload_n 0, 1) := by decide +kernel
theorem dX5_moveOf_1 : decode cX5_moveOf 1 = .ok (.bipush 40, 2) := by decide +kernel
theorem dX5_moveOf_3 : decode cX5_moveOf 3 = .ok (.if_icmp .le 7, 3) := by decide +kernel
theorem dX5_moveOf_10 : decode cX5_moveOf 10 = .ok (.iconst (-1), 1) := by decide +kernel
theorem dX5_moveOf_11 : decode cX5_moveOf 11 = .ok (.ireturn, 1) := by decide +kernel
theorem dX5_moveOf_6 : decode cX5_moveOf 6 = .ok (.iconst 1, 1) := by decide +kernel
theorem dX5_moveOf_7 : decode cX5_moveOf 7 = .ok (.goto 4, 3) := by decide +kernel
theorem dX5_writeOf_0 : decode cX5_writeOf 0 = .ok (.iload_n 0, 1) := by decide +kernel
theorem dX5_writeOf_1 : decode cX5_writeOf 1 = .ok (.iconst 1, 1) := by decide +kernel
theorem dX5_writeOf_2 : decode cX5_writeOf 2 = .ok (.isub, 1) := by decide +kernel
theorem dX5_writeOf_3 : decode cX5_writeOf 3 = .ok (.bipush 40, 2) := by decide +kernel
theorem dX5_writeOf_5 : decode cX5_writeOf 5 = .ok (.irem, 1) := by decide +kernel
theorem dX5_writeOf_6 : decode cX5_writeOf 6 = .ok (.iconst 4, 1) := by decide +kernel
theorem dX5_writeOf_7 : decode cX5_writeOf 7 = .ok (.irem, 1) := by decide +kernel
theorem dX5_writeOf_8 : decode cX5_writeOf 8 = .ok (.ireturn, 1) := by decide +kernel
theorem dX5_nextOf_0 : decode cX5_nextOf 0 = .ok (.iload_n 0, 1) := by decide +kernel
theorem dX5_nextOf_1 : decode cX5_nextOf 1 = .ok (.iconst 1, 1) := by decide +kernel
theorem dX5_nextOf_2 : decode cX5_nextOf 2 = .ok (.isub, 1) := by decide +kernel
theorem dX5_nextOf_3 : decode cX5_nextOf 3 = .ok (.bipush 40, 2) := by decide +kernel
theorem dX5_nextOf_5 : decode cX5_nextOf 5 = .ok (.irem, 1) := by decide +kernel
theorem dX5_nextOf_6 : decode cX5_nextOf 6 = .ok (.iconst 4, 1) := by decide +kernel
theorem dX5_nextOf_7 : decode cX5_nextOf 7 = .ok (.idiv, 1) := by decide +kernel
theorem dX5_nextOf_8 : decode cX5_nextOf 8 = .ok (.ireturn, 1) := by decide +kernel
theorem dX5_coded_0 : decode cX5_coded 0 = .ok (.iconst 1, 1) := by decide +kernel
theorem dX5_coded_1 : decode cX5_coded 1 = .ok (.iload_n 0, 1) := by decide +kernel
theorem dX5_coded_2 : decode cX5_coded 2 = .ok (.iadd, 1) := by decide +kernel
theorem dX5_coded_3 : decode cX5_coded 3 = .ok (.iconst 4, 1) := by decide +kernel
theorem dX5_coded_4 : decode cX5_coded 4 = .ok (.iload_n 2, 1) := by decide +kernel
theorem dX5_coded_5 : decode cX5_coded 5 = .ok (.imul, 1) := by decide +kernel
theorem dX5_coded_6 : decode cX5_coded 6 = .ok (.iadd, 1) := by decide +kernel
theorem dX5_coded_7 : decode cX5_coded 7 = .ok (.iload_n 1, 1) := by decide +kernel
theorem dX5_coded_8 : decode cX5_coded 8 = .ok (.ifCond .eq 8, 3) := by decide +kernel
theorem dX5_coded_16 : decode cX5_coded 16 = .ok (.iconst 0, 1) := by decide +kernel
theorem dX5_coded_17 : decode cX5_coded 17 = .ok (.iadd, 1) := by decide +kernel
theorem dX5_coded_18 : decode cX5_coded 18 = .ok (.ireturn, 1) := by decide +kernel
theorem dX5_coded_11 : decode cX5_coded 11 = .ok (.bipush 40, 2) := by decide +kernel
theorem dX5_coded_13 : decode cX5_coded 13 = .ok (.goto 4, 3) := by decide +kernel
theorem dX7_signOf_0 : decode cX7_signOf 0 = .ok (.iload_n 1, 1) := by decide +kernel
theorem dX7_signOf_1 : decode cX7_signOf 1 = .ok (.sipush (-500), 3) := by decide +kernel
theorem dX7_signOf_4 : decode cX7_signOf 4 = .ok (.if_icmp .lt 23, 3) := by decide +kernel
theorem dX7_signOf_27 : decode cX7_signOf 27 = .ok (.iconst 0, 1) := by decide +kernel
theorem dX7_signOf_28 : decode cX7_signOf 28 = .ok (.ireturn, 1) := by decide +kernel
theorem dX7_signOf_7 : decode cX7_signOf 7 = .ok (.iload_n 1, 1) := by decide +kernel
theorem dX7_signOf_8 : decode cX7_signOf 8 = .ok (.sipush 500, 3) := by decide +kernel
theorem dX7_signOf_11 : decode cX7_signOf 11 = .ok (.if_icmp .gt 16, 3) := by decide +kernel
theorem dX7_signOf_14 : decode cX7_signOf 14 = .ok (.aload_n 0, 1) := by decide +kernel
theorem dX7_signOf_15 : decode cX7_signOf 15 = .ok (.getfield 31, 3) := by decide +kernel
theorem dX7_signOf_18 : decode cX7_signOf 18 = .ok (.iload_n 1, 1) := by decide +kernel
theorem dX7_signOf_19 : decode cX7_signOf 19 = .ok (.sipush 500, 3) := by decide +kernel
theorem dX7_signOf_22 : decode cX7_signOf 22 = .ok (.iadd, 1) := by decide +kernel
theorem dX7_signOf_23 : decode cX7_signOf 23 = .ok (.iaload, 1) := by decide +kernel
theorem dX7_signOf_24 : decode cX7_signOf 24 = .ok (.goto 4, 3) := by decide +kernel
theorem dX7_write_0 : decode cX7_write 0 = .ok (.iload_n 1, 1) := by decide +kernel
theorem dX7_write_1 : decode cX7_write 1 = .ok (.sipush (-500), 3) := by decide +kernel
theorem dX7_write_4 : decode cX7_write 4 = .ok (.if_icmp .lt 21, 3) := by decide +kernel
theorem dX7_write_25 : decode cX7_write 25 = .ok (.return_, 1) := by decide +kernel
theorem dX7_write_7 : decode cX7_write 7 = .ok (.iload_n 1, 1) := by decide +kernel
theorem dX7_write_8 : decode cX7_write 8 = .ok (.sipush 500, 3) := by decide +kernel
theorem dX7_write_11 : decode cX7_write 11 = .ok (.if_icmp .gt 14, 3) := by decide +kernel
theorem dX7_write_14 : decode cX7_write 14 = .ok (.aload_n 0, 1) := by decide +kernel
theorem dX7_write_15 : decode cX7_write 15 = .ok (.getfield 31, 3) := by decide +kernel
theorem dX7_write_18 : decode cX7_write 18 = .ok (.iload_n 1, 1) := by decide +kernel
theorem dX7_write_19 : decode cX7_write 19 = .ok (.sipush 500, 3) := by decide +kernel
theorem dX7_write_22 : decode cX7_write 22 = .ok (.iadd, 1) := by decide +kernel
theorem dX7_write_23 : decode cX7_write 23 = .ok (.iload_n 2, 1) := by decide +kernel
theorem dX7_write_24 : decode cX7_write 24 = .ok (.iastore, 1) := by decide +kernel
theorem dX5_hasPlace_0 : decode cX5_hasPlace 0 = .ok (.iload_n 1, 1) := by decide +kernel
theorem dX5_hasPlace_1 : decode cX5_hasPlace 1 = .ok (.ifCond .lt 27, 3) := by decide +kernel
theorem dX5_hasPlace_28 : decode cX5_hasPlace 28 = .ok (.iconst 0, 1) := by decide +kernel
theorem dX5_hasPlace_29 : decode cX5_hasPlace 29 = .ok (.ireturn, 1) := by decide +kernel
theorem dX5_hasPlace_4 : decode cX5_hasPlace 4 = .ok (.iload_n 1, 1) := by decide +kernel
theorem dX5_hasPlace_5 : decode cX5_hasPlace 5 = .ok (.aload_n 0, 1) := by decide +kernel
theorem dX5_hasPlace_6 : decode cX5_hasPlace 6 = .ok (.getfield 46, 3) := by decide +kernel
theorem dX5_hasPlace_9 : decode cX5_hasPlace 9 = .ok (.if_icmp .ge 19, 3) := by decide +kernel
theorem dX5_hasPlace_12 : decode cX5_hasPlace 12 = .ok (.iload_n 2, 1) := by decide +kernel
theorem dX5_hasPlace_13 : decode cX5_hasPlace 13 = .ok (.ifCond .lt 15, 3) := by decide +kernel
theorem dX5_hasPlace_16 : decode cX5_hasPlace 16 = .ok (.iload_n 2, 1) := by decide +kernel
theorem dX5_hasPlace_17 : decode cX5_hasPlace 17 = .ok (.aload_n 0, 1) := by decide +kernel
theorem dX5_hasPlace_18 : decode cX5_hasPlace 18 = .ok (.getfield 49, 3) := by decide +kernel
theorem dX5_hasPlace_21 : decode cX5_hasPlace 21 = .ok (.if_icmp .ge 7, 3) := by decide +kernel
theorem dX5_hasPlace_24 : decode cX5_hasPlace 24 = .ok (.iconst 1, 1) := by decide +kernel
theorem dX5_hasPlace_25 : decode cX5_hasPlace 25 = .ok (.goto 4, 3) := by decide +kernel
theorem dX5_orderFor_0 : decode cX5_orderFor 0 = .ok (.iload_n 1, 1) := by decide +kernel
theorem dX5_orderFor_1 : decode cX5_orderFor 1 = .ok (.ifCond .lt 27, 3) := by decide +kernel
theorem dX5_orderFor_28 : decode cX5_orderFor 28 = .ok (.iconst 0, 1) := by decide +kernel
theorem dX5_orderFor_29 : decode cX5_orderFor 29 = .ok (.istore_n 3, 1) := by decide +kernel
theorem dX5_orderFor_30 : decode cX5_orderFor 30 = .ok (.iload_n 1, 1) := by decide +kernel
theorem dX5_orderFor_31 : decode cX5_orderFor 31 = .ok (.iconst 4, 1) := by decide +kernel
theorem dX5_orderFor_32 : decode cX5_orderFor 32 = .ok (.imul, 1) := by decide +kernel
theorem dX5_orderFor_33 : decode cX5_orderFor 33 = .ok (.iload_n 2, 1) := by decide +kernel
theorem dX5_orderFor_34 : decode cX5_orderFor 34 = .ok (.iadd, 1) := by decide +kernel
theorem dX5_orderFor_35 : decode cX5_orderFor 35 = .ok (.istore 4, 2) := by decide +kernel
theorem dX5_orderFor_37 : decode cX5_orderFor 37 = .ok (.iload_n 3, 1) := by decide +kernel
theorem dX5_orderFor_38 : decode cX5_orderFor 38 = .ok (.ifCond .eq 23, 3) := by decide +kernel
theorem dX5_orderFor_61 : decode cX5_orderFor 61 = .ok (.iconst 0, 1) := by decide +kernel
theorem dX5_orderFor_62 : decode cX5_orderFor 62 = .ok (.ireturn, 1) := by decide +kernel
theorem dX5_orderFor_4 : decode cX5_orderFor 4 = .ok (.iload_n 1, 1) := by decide +kernel
theorem dX5_orderFor_5 : decode cX5_orderFor 5 = .ok (.aload_n 0, 1) := by decide +kernel
theorem dX5_orderFor_6 : decode cX5_orderFor 6 = .ok (.getfield 46, 3) := by decide +kernel
theorem dX5_orderFor_9 : decode cX5_orderFor 9 = .ok (.if_icmp .ge 19, 3) := by decide +kernel
theorem dX5_orderFor_12 : decode cX5_orderFor 12 = .ok (.iload_n 2, 1) := by decide +kernel
theorem dX5_orderFor_13 : decode cX5_orderFor 13 = .ok (.ifCond .lt 15, 3) := by decide +kernel
theorem dX5_orderFor_16 : decode cX5_orderFor 16 = .ok (.iload_n 2, 1) := by decide +kernel
theorem dX5_orderFor_17 : decode cX5_orderFor 17 = .ok (.aload_n 0, 1) := by decide +kernel
theorem dX5_orderFor_18 : decode cX5_orderFor 18 = .ok (.getfield 49, 3) := by decide +kernel
theorem dX5_orderFor_21 : decode cX5_orderFor 21 = .ok (.if_icmp .ge 7, 3) := by decide +kernel
theorem dX5_orderFor_24 : decode cX5_orderFor 24 = .ok (.iconst 1, 1) := by decide +kernel
theorem dX5_orderFor_25 : decode cX5_orderFor 25 = .ok (.goto 4, 3) := by decide +kernel
theorem dX5_orderFor_41 : decode cX5_orderFor 41 = .ok (.iload 4, 2) := by decide +kernel
theorem dX5_orderFor_43 : decode cX5_orderFor 43 = .ok (.aload_n 0, 1) := by decide +kernel
theorem dX5_orderFor_44 : decode cX5_orderFor 44 = .ok (.getfield 36, 3) := by decide +kernel
theorem dX5_orderFor_47 : decode cX5_orderFor 47 = .ok (.arraylength, 1) := by decide +kernel
theorem dX5_orderFor_48 : decode cX5_orderFor 48 = .ok (.if_icmp .ge 13, 3) := by decide +kernel
theorem dX5_orderFor_51 : decode cX5_orderFor 51 = .ok (.aload_n 0, 1) := by decide +kernel
theorem dX5_orderFor_52 : decode cX5_orderFor 52 = .ok (.getfield 36, 3) := by decide +kernel
theorem dX5_orderFor_55 : decode cX5_orderFor 55 = .ok (.iload 4, 2) := by decide +kernel
theorem dX5_orderFor_57 : decode cX5_orderFor 57 = .ok (.iaload, 1) := by decide +kernel
theorem dX5_orderFor_58 : decode cX5_orderFor 58 = .ok (.goto 4, 3) := by decide +kernel
set_option maxHeartbeats 4000000 in
set_option maxRecDepth 100000 in
/-- X11_at -/
theorem c_X11_at (l : Launch) (dC : Nat → ClassId) (dI : Nat → Nat → Nat) (cI : ClassId) (a n : Nat) (f : Nat → Int32) (i : Int32) (hn : n < 2 ^ 31) (sz : Nat) : Met l yX11_at wsX11_at ({ frames := 0, cells := 0, slots := 0, locals := 0 }) (va_Pc [.ref a, .int i] (cPC dC dI [(a, .inl (cI, n, .inl f))] [(cI, .int)] sz)) (va_Qi (fun (r : Int32) (u : Unit) => r = atJ f n i) (fun (u : Unit) t => cQB dC dI [(a, .inl (cI, n, .inl f))] [(cI, .int)] (va_A [(a, .inl (cI, n, .inl f))] sz) t) (va_A [(a, .inl (cI, n, .inl f))] sz)) 0 0 (va_A [(a, .inl (cI, n, .inl f))] sz) := by
  refine Met.ofW (cc := cX11_at) (maxL := 2) (ret := (some .int)) (by decide) rfl ?_
  intro p e s m args below meth c s₁ B hml hv
  obtain ⟨rfl, hsz, hP, hK, hD0, hN⟩ := hv
  have hx := B.exec
  have hb := B.bytes
  have hr := B.returns
  have hts := atoms_spec (ws := wsX11_at) B.pre
  have hown : s.vm.findClass RX11 = some m.cls := findClass_of_methodNamed B.named
  have hlocks := B.notSynchronized
  subst hsz
  have hD := hD0.self (sz := s.heap.size)
  generalize hAe : va_A [(a, .inl (cI, n, .inl f))] s.heap.size = A at hD ⊢
  have hA : ∀ q : Nat, s.heap.size ≤ q → A q := fun q h => by rw [← hAe]; exact Or.inr h
  have hS : va_S A s.heap s.heap [] := va_S.rf
  have hP : va_P (dC, dI) vwCl [(a, .inl (cI, n, .inl f))] s.heap := hP
  have hD : va_D A [(a, .inl (cI, n, .inl f))] := hD
  have hl := lv_entry ([.ref a, .int i]) (n := 2) (Nat.le_of_ble_eq_true rfl)
  rw [lg_entry_eq]
  generalize (lg_sl ([.ref a, .int i]) ++ List.replicate (2 - (lg_sl ([.ref a, .int i])).length) Slot.unset).toArray = ls at hl ⊢
  have hl : lv_has ls 2 [(0, .ref a), (1, .int i)] := hl
  refine lv_iload_n hx hb dX11_at_0 rfl (lv_at hl 1 rfl) ?_
  refine lv_if_lt (tgt := 16) hx hb dX11_at_1 (by decide) (fun c1_1 => ?_) (fun c1_1 => ?_)
  · refine lv_iconst (v := 0) hx hb dX11_at_16 (by decide) ?_
    have hP9 := hP.sub (ws' := [(a, .inl (cI, n, .inl f))]) [0] rfl
    have hD9 := hD.sub (ws' := [(a, .inl (cI, n, .inl f))]) [0] (by decide) rfl
    have hK9 := hK.sub (tys' := [(cI, .int)]) [0] rfl
    exact W.iret (v := 0) hx hb hr (fun t ht hW => ⟨⟨0, (), rfl, (by simp [atJ, c1_1]), ⟨by rw [ht]; exact hP9, va_K.moved hW.alike hK9, hD9⟩⟩, hS.F ht⟩) hS.2.2 dX11_at_17
  · refine lv_iload_n hx hb dX11_at_4 rfl (lv_at hl 1 rfl) ?_
    refine lv_aload_n hx hb dX11_at_5 rfl (lv_at hl 0 rfl) ?_
    refine va_alen hx hb hK hP 0 0 rfl rfl (v := Int32.ofNat n) (by rfl) dX11_at_6 ?_
    refine lv_icmp_ge (tgt := 16) hx hb dX11_at_7 (by decide) (fun c7_2 => ?_) (fun c7_2 => ?_)
    · refine lv_iconst (v := 0) hx hb dX11_at_16 (by decide) ?_
      have hP9 := hP.sub (ws' := [(a, .inl (cI, n, .inl f))]) [0] rfl
      have hD9 := hD.sub (ws' := [(a, .inl (cI, n, .inl f))]) [0] (by decide) rfl
      have hK9 := hK.sub (tys' := [(cI, .int)]) [0] rfl
      exact W.iret (v := 0) hx hb hr (fun t ht hW => ⟨⟨0, (), rfl, (by simp [atJ, c1_1, c7_2]), ⟨by rw [ht]; exact hP9, va_K.moved hW.alike hK9, hD9⟩⟩, hS.F ht⟩) hS.2.2 dX11_at_17
    · refine lv_aload_n hx hb dX11_at_10 rfl (lv_at hl 0 rfl) ?_
      refine lv_iload_n hx hb dX11_at_11 rfl (lv_at hl 1 rfl) ?_
      refine va_iald hx hb hK hP 0 0 rfl rfl (vpin_of hn c1_1 c7_2) dX11_at_12 ?_
      refine lv_goto (tgt := 17) hx hb dX11_at_13 (by decide) ?_
      have hP9 := hP.sub (ws' := [(a, .inl (cI, n, .inl f))]) [0] rfl
      have hD9 := hD.sub (ws' := [(a, .inl (cI, n, .inl f))]) [0] (by decide) rfl
      have hK9 := hK.sub (tys' := [(cI, .int)]) [0] rfl
      exact W.iret (v := f (i).toNatClampNeg) hx hb hr (fun t ht hW => ⟨⟨(f (i).toNatClampNeg), (), rfl, (by simp [atJ, c1_1, c7_2]), ⟨by rw [ht]; exact hP9, va_K.moved hW.alike hK9, hD9⟩⟩, hS.F ht⟩) hS.2.2 dX11_at_17

set_option maxHeartbeats 4000000 in
set_option maxRecDepth 100000 in
/-- X11_put -/
theorem c_X11_put (l : Launch) (dC : Nat → ClassId) (dI : Nat → Nat → Nat) (cI : ClassId) (a n : Nat) (f : Nat → Int32) (i x : Int32) (hn : n < 2 ^ 31) (sz : Nat) : Met l yX11_put wsX11_put ({ frames := 0, cells := 0, slots := 0, locals := 0 }) (va_Pc [.ref a, .int i, .int x] (cPC dC dI [(a, .inl (cI, n, .inl f))] [(cI, .int)] sz)) (va_Qv (fun (u : Nat → Int32) => u = putJ f n i x) (fun (u : Nat → Int32) t => cQB dC dI [(a, .inl (cI, n, .inl u))] [(cI, .int)] (va_A [(a, .inl (cI, n, .inl f))] sz) t) (va_A [(a, .inl (cI, n, .inl f))] sz)) 0 0 (va_A [(a, .inl (cI, n, .inl f))] sz) := by
  refine Met.ofW (cc := cX11_put) (maxL := 3) (ret := none) (by decide) rfl ?_
  intro p e s m args below meth c s₁ B hml hv
  obtain ⟨rfl, hsz, hP, hK, hD0, hN⟩ := hv
  have hx := B.exec
  have hb := B.bytes
  have hr := B.returns
  have hts := atoms_spec (ws := wsX11_put) B.pre
  have hown : s.vm.findClass RX11 = some m.cls := findClass_of_methodNamed B.named
  have hlocks := B.notSynchronized
  subst hsz
  have hD := hD0.self (sz := s.heap.size)
  generalize hAe : va_A [(a, .inl (cI, n, .inl f))] s.heap.size = A at hD ⊢
  have hA : ∀ q : Nat, s.heap.size ≤ q → A q := fun q h => by rw [← hAe]; exact Or.inr h
  have hS : va_S A s.heap s.heap [] := va_S.rf
  have hP : va_P (dC, dI) vwCl [(a, .inl (cI, n, .inl f))] s.heap := hP
  have hD : va_D A [(a, .inl (cI, n, .inl f))] := hD
  have hl := lv_entry ([.ref a, .int i, .int x]) (n := 3) (Nat.le_of_ble_eq_true rfl)
  rw [lg_entry_eq]
  generalize (lg_sl ([.ref a, .int i, .int x]) ++ List.replicate (3 - (lg_sl ([.ref a, .int i, .int x])).length) Slot.unset).toArray = ls at hl ⊢
  have hl : lv_has ls 3 [(0, .ref a), (1, .int i), (2, .int x)] := hl
  refine lv_iload_n hx hb dX11_put_0 rfl (lv_at hl 1 rfl) ?_
  refine lv_if_lt (tgt := 14) hx hb dX11_put_1 (by decide) (fun c1_1 => ?_) (fun c1_1 => ?_)
  · have hP9 := hP.sub (ws' := [(a, .inl (cI, n, .inl f))]) [0] rfl
    have hD9 := hD.sub (ws' := [(a, .inl (cI, n, .inl f))]) [0] (by decide) rfl
    have hK9 := hK.sub (tys' := [(cI, .int)]) [0] rfl
    exact W.vret hx hb hr (fun t ht hW => ⟨⟨f, rfl, (by simp [putJ, c1_1]), ⟨by rw [ht]; exact hP9, va_K.moved hW.alike hK9, hD9⟩⟩, hS.F ht⟩) hS.2.2 dX11_put_14
  · refine lv_iload_n hx hb dX11_put_4 rfl (lv_at hl 1 rfl) ?_
    refine lv_aload_n hx hb dX11_put_5 rfl (lv_at hl 0 rfl) ?_
    refine va_alen hx hb hK hP 0 0 rfl rfl (v := Int32.ofNat n) (by rfl) dX11_put_6 ?_
    refine lv_icmp_ge (tgt := 14) hx hb dX11_put_7 (by decide) (fun c7_2 => ?_) (fun c7_2 => ?_)
    · have hP9 := hP.sub (ws' := [(a, .inl (cI, n, .inl f))]) [0] rfl
      have hD9 := hD.sub (ws' := [(a, .inl (cI, n, .inl f))]) [0] (by decide) rfl
      have hK9 := hK.sub (tys' := [(cI, .int)]) [0] rfl
      exact W.vret hx hb hr (fun t ht hW => ⟨⟨f, rfl, (by simp [putJ, c1_1, c7_2]), ⟨by rw [ht]; exact hP9, va_K.moved hW.alike hK9, hD9⟩⟩, hS.F ht⟩) hS.2.2 dX11_put_14
    · refine lv_aload_n hx hb dX11_put_10 rfl (lv_at hl 0 rfl) ?_
      refine lv_iload_n hx hb dX11_put_11 rfl (lv_at hl 1 rfl) ?_
      refine lv_iload_n hx hb dX11_put_12 rfl (lv_at hl 2 rfl) ?_
      refine va_iast hx hb hK hP hD hS 0 0 rfl rfl (vpin_of hn c1_1 c7_2) dX11_put_13 (fun H locs hP hD hS => ?_)
      obtain ⟨f_3, ef_3⟩ : ∃ z, z = (upd f (i).toNatClampNeg x) := ⟨_, rfl⟩
      have hP : va_P (dC, dI) vwCl [(a, .inl (cI, n, .inl f_3))] H := by rw [ef_3]; exact hP
      have hD : va_D A [(a, .inl (cI, n, .inl f_3))] := by rw [ef_3]; exact hD
      have hP9 := hP.sub (ws' := [(a, .inl (cI, n, .inl f_3))]) [0] rfl
      have hD9 := hD.sub (ws' := [(a, .inl (cI, n, .inl f_3))]) [0] (by decide) rfl
      have hK9 := hK.sub (tys' := [(cI, .int)]) [0] rfl
      exact W.vret hx hb hr (fun t ht hW => ⟨⟨f_3, rfl, (by simp [putJ, ef_3, c1_1, c7_2]), ⟨by rw [ht]; exact hP9, va_K.moved hW.alike hK9, hD9⟩⟩, hS.F ht⟩) hS.2.2 dX11_put_14

set_option maxHeartbeats 4000000 in
set_option maxRecDepth 100000 in
/-- X5_moveOf -/
theorem c_X5_moveOf (l : Launch) (dC : Nat → ClassId) (dI : Nat → Nat → Nat) (od : Int32) (sz : Nat) : Met l yX5_moveOf wsX5_moveOf ({ frames := 0, cells := 0, slots := 0, locals := 0 }) (va_Pc [.int od] (cPC dC dI [] [] sz)) (va_Qi (fun (r : Int32) (u : Unit) => r = moveJ od) (fun (u : Unit) t => cQB dC dI [] [] (va_A [] sz) t) (va_A [] sz)) 0 0 (va_A [] sz) := by
  refine Met.ofW (cc := cX5_moveOf) (maxL := 1) (ret := (some .int)) (by decide) rfl ?_
  intro p e s m args below meth c s₁ B hml hv
  obtain ⟨rfl, hsz, hP, hK, hD0, hN⟩ := hv
  have hx := B.exec
  have hb := B.bytes
  have hr := B.returns
  have hts := atoms_spec (ws := wsX5_moveOf) B.pre
  have hown : s.vm.findClass RX5 = some m.cls := findClass_of_methodNamed B.named
  have hlocks := B.notSynchronized
  subst hsz
  have hD := hD0.self (sz := s.heap.size)
  generalize hAe : va_A [] s.heap.size = A at hD ⊢
  have hA : ∀ q : Nat, s.heap.size ≤ q → A q := fun q h => by rw [← hAe]; exact Or.inr h
  have hS : va_S A s.heap s.heap [] := va_S.rf
  have hP : va_P (dC, dI) vwCl [] s.heap := hP
  have hD : va_D A [] := hD
  have hl := lv_entry ([.int od]) (n := 1) (Nat.le_of_ble_eq_true rfl)
  rw [lg_entry_eq]
  generalize (lg_sl ([.int od]) ++ List.replicate (1 - (lg_sl ([.int od])).length) Slot.unset).toArray = ls at hl ⊢
  have hl : lv_has ls 1 [(0, .int od)] := hl
  refine lv_iload_n hx hb dX5_moveOf_0 rfl (lv_at hl 0 rfl) ?_
  refine lv_bipush (v := 40) hx hb dX5_moveOf_1 (by decide) ?_
  refine lv_icmp_le (tgt := 10) hx hb dX5_moveOf_3 (by decide) (fun c3_1 => ?_) (fun c3_1 => ?_)
  · refine lv_iconst (v := (-1)) hx hb dX5_moveOf_10 (by decide) ?_
    have hP9 := hP.sub (ws' := []) [] rfl
    have hD9 := hD.sub (ws' := []) [] (by decide) rfl
    have hK9 := hK.sub (tys' := []) [] rfl
    exact W.iret (v := (-1)) hx hb hr (fun t ht hW => ⟨⟨(-1), (), rfl, (by simp [moveJ, c3_1]), ⟨by rw [ht]; exact hP9, va_K.moved hW.alike hK9, hD9⟩⟩, hS.F ht⟩) hS.2.2 dX5_moveOf_11
  · refine lv_iconst (v := 1) hx hb dX5_moveOf_6 (by decide) ?_
    refine lv_goto (tgt := 11) hx hb dX5_moveOf_7 (by decide) ?_
    have hP9 := hP.sub (ws' := []) [] rfl
    have hD9 := hD.sub (ws' := []) [] (by decide) rfl
    have hK9 := hK.sub (tys' := []) [] rfl
    exact W.iret (v := 1) hx hb hr (fun t ht hW => ⟨⟨1, (), rfl, (by simp [moveJ, c3_1]), ⟨by rw [ht]; exact hP9, va_K.moved hW.alike hK9, hD9⟩⟩, hS.F ht⟩) hS.2.2 dX5_moveOf_11

set_option maxHeartbeats 4000000 in
set_option maxRecDepth 100000 in
/-- X5_writeOf -/
theorem c_X5_writeOf (l : Launch) (dC : Nat → ClassId) (dI : Nat → Nat → Nat) (od : Int32) (sz : Nat) : Met l yX5_writeOf wsX5_writeOf ({ frames := 0, cells := 0, slots := 0, locals := 0 }) (va_Pc [.int od] (cPC dC dI [] [] sz)) (va_Qi (fun (r : Int32) (u : Unit) => r = wrJ od) (fun (u : Unit) t => cQB dC dI [] [] (va_A [] sz) t) (va_A [] sz)) 0 0 (va_A [] sz) := by
  refine Met.ofW (cc := cX5_writeOf) (maxL := 1) (ret := (some .int)) (by decide) rfl ?_
  intro p e s m args below meth c s₁ B hml hv
  obtain ⟨rfl, hsz, hP, hK, hD0, hN⟩ := hv
  have hx := B.exec
  have hb := B.bytes
  have hr := B.returns
  have hts := atoms_spec (ws := wsX5_writeOf) B.pre
  have hown : s.vm.findClass RX5 = some m.cls := findClass_of_methodNamed B.named
  have hlocks := B.notSynchronized
  subst hsz
  have hD := hD0.self (sz := s.heap.size)
  generalize hAe : va_A [] s.heap.size = A at hD ⊢
  have hA : ∀ q : Nat, s.heap.size ≤ q → A q := fun q h => by rw [← hAe]; exact Or.inr h
  have hS : va_S A s.heap s.heap [] := va_S.rf
  have hP : va_P (dC, dI) vwCl [] s.heap := hP
  have hD : va_D A [] := hD
  have hl := lv_entry ([.int od]) (n := 1) (Nat.le_of_ble_eq_true rfl)
  rw [lg_entry_eq]
  generalize (lg_sl ([.int od]) ++ List.replicate (1 - (lg_sl ([.int od])).length) Slot.unset).toArray = ls at hl ⊢
  have hl : lv_has ls 1 [(0, .int od)] := hl
  refine lv_iload_n hx hb dX5_writeOf_0 rfl (lv_at hl 0 rfl) ?_
  refine lv_iconst (v := 1) hx hb dX5_writeOf_1 (by decide) ?_
  refine lv_isub hx hb dX5_writeOf_2 ?_
  refine lv_bipush (v := 40) hx hb dX5_writeOf_3 (by decide) ?_
  refine lv_irem hx hb dX5_writeOf_5 (by decide) ?_
  refine lv_iconst (v := 4) hx hb dX5_writeOf_6 (by decide) ?_
  refine lv_irem hx hb dX5_writeOf_7 (by decide) ?_
  have hP9 := hP.sub (ws' := []) [] rfl
  have hD9 := hD.sub (ws' := []) [] (by decide) rfl
  have hK9 := hK.sub (tys' := []) [] rfl
  exact W.iret (v := (((od - 1) - (od - 1) / 40 * 40) - ((od - 1) - (od - 1) / 40 * 40) / 4 * 4)) hx hb hr (fun t ht hW => ⟨⟨(((od - 1) - (od - 1) / 40 * 40) - ((od - 1) - (od - 1) / 40 * 40) / 4 * 4), (), rfl, rfl, ⟨by rw [ht]; exact hP9, va_K.moved hW.alike hK9, hD9⟩⟩, hS.F ht⟩) hS.2.2 dX5_writeOf_8

set_option maxHeartbeats 4000000 in
set_option maxRecDepth 100000 in
/-- X5_nextOf -/
theorem c_X5_nextOf (l : Launch) (dC : Nat → ClassId) (dI : Nat → Nat → Nat) (od : Int32) (sz : Nat) : Met l yX5_nextOf wsX5_nextOf ({ frames := 0, cells := 0, slots := 0, locals := 0 }) (va_Pc [.int od] (cPC dC dI [] [] sz)) (va_Qi (fun (r : Int32) (u : Unit) => r = nxJ od) (fun (u : Unit) t => cQB dC dI [] [] (va_A [] sz) t) (va_A [] sz)) 0 0 (va_A [] sz) := by
  refine Met.ofW (cc := cX5_nextOf) (maxL := 1) (ret := (some .int)) (by decide) rfl ?_
  intro p e s m args below meth c s₁ B hml hv
  obtain ⟨rfl, hsz, hP, hK, hD0, hN⟩ := hv
  have hx := B.exec
  have hb := B.bytes
  have hr := B.returns
  have hts := atoms_spec (ws := wsX5_nextOf) B.pre
  have hown : s.vm.findClass RX5 = some m.cls := findClass_of_methodNamed B.named
  have hlocks := B.notSynchronized
  subst hsz
  have hD := hD0.self (sz := s.heap.size)
  generalize hAe : va_A [] s.heap.size = A at hD ⊢
  have hA : ∀ q : Nat, s.heap.size ≤ q → A q := fun q h => by rw [← hAe]; exact Or.inr h
  have hS : va_S A s.heap s.heap [] := va_S.rf
  have hP : va_P (dC, dI) vwCl [] s.heap := hP
  have hD : va_D A [] := hD
  have hl := lv_entry ([.int od]) (n := 1) (Nat.le_of_ble_eq_true rfl)
  rw [lg_entry_eq]
  generalize (lg_sl ([.int od]) ++ List.replicate (1 - (lg_sl ([.int od])).length) Slot.unset).toArray = ls at hl ⊢
  have hl : lv_has ls 1 [(0, .int od)] := hl
  refine lv_iload_n hx hb dX5_nextOf_0 rfl (lv_at hl 0 rfl) ?_
  refine lv_iconst (v := 1) hx hb dX5_nextOf_1 (by decide) ?_
  refine lv_isub hx hb dX5_nextOf_2 ?_
  refine lv_bipush (v := 40) hx hb dX5_nextOf_3 (by decide) ?_
  refine lv_irem hx hb dX5_nextOf_5 (by decide) ?_
  refine lv_iconst (v := 4) hx hb dX5_nextOf_6 (by decide) ?_
  refine lv_idiv hx hb dX5_nextOf_7 (by decide) ?_
  have hP9 := hP.sub (ws' := []) [] rfl
  have hD9 := hD.sub (ws' := []) [] (by decide) rfl
  have hK9 := hK.sub (tys' := []) [] rfl
  exact W.iret (v := (((od - 1) - (od - 1) / 40 * 40) / 4)) hx hb hr (fun t ht hW => ⟨⟨(((od - 1) - (od - 1) / 40 * 40) / 4), (), rfl, rfl, ⟨by rw [ht]; exact hP9, va_K.moved hW.alike hK9, hD9⟩⟩, hS.F ht⟩) hS.2.2 dX5_nextOf_8

set_option maxHeartbeats 4000000 in
set_option maxRecDepth 100000 in
/-- X5_coded -/
theorem c_X5_coded (l : Launch) (dC : Nat → ClassId) (dI : Nat → Nat → Nat) (ww rr nn : Int32) (sz : Nat) : Met l yX5_coded wsX5_coded ({ frames := 0, cells := 0, slots := 0, locals := 0 }) (va_Pc [.int ww, .int rr, .int nn] (cPC dC dI [] [] sz)) (va_Qi (fun (r : Int32) (u : Unit) => r = codeJ ww rr nn) (fun (u : Unit) t => cQB dC dI [] [] (va_A [] sz) t) (va_A [] sz)) 0 0 (va_A [] sz) := by
  refine Met.ofW (cc := cX5_coded) (maxL := 3) (ret := (some .int)) (by decide) rfl ?_
  intro p e s m args below meth c s₁ B hml hv
  obtain ⟨rfl, hsz, hP, hK, hD0, hN⟩ := hv
  have hx := B.exec
  have hb := B.bytes
  have hr := B.returns
  have hts := atoms_spec (ws := wsX5_coded) B.pre
  have hown : s.vm.findClass RX5 = some m.cls := findClass_of_methodNamed B.named
  have hlocks := B.notSynchronized
  subst hsz
  have hD := hD0.self (sz := s.heap.size)
  generalize hAe : va_A [] s.heap.size = A at hD ⊢
  have hA : ∀ q : Nat, s.heap.size ≤ q → A q := fun q h => by rw [← hAe]; exact Or.inr h
  have hS : va_S A s.heap s.heap [] := va_S.rf
  have hP : va_P (dC, dI) vwCl [] s.heap := hP
  have hD : va_D A [] := hD
  have hl := lv_entry ([.int ww, .int rr, .int nn]) (n := 3) (Nat.le_of_ble_eq_true rfl)
  rw [lg_entry_eq]
  generalize (lg_sl ([.int ww, .int rr, .int nn]) ++ List.replicate (3 - (lg_sl ([.int ww, .int rr, .int nn])).length) Slot.unset).toArray = ls at hl ⊢
  have hl : lv_has ls 3 [(0, .int ww), (1, .int rr), (2, .int nn)] := hl
  refine lv_iconst (v := 1) hx hb dX5_coded_0 (by decide) ?_
  refine lv_iload_n hx hb dX5_coded_1 rfl (lv_at hl 0 rfl) ?_
  refine lv_iadd hx hb dX5_coded_2 ?_
  refine lv_iconst (v := 4) hx hb dX5_coded_3 (by decide) ?_
  refine lv_iload_n hx hb dX5_coded_4 rfl (lv_at hl 2 rfl) ?_
  refine lv_imul hx hb dX5_coded_5 ?_
  refine lv_iadd hx hb dX5_coded_6 ?_
  refine lv_iload_n hx hb dX5_coded_7 rfl (lv_at hl 1 rfl) ?_
  refine lv_if_eq (tgt := 16) hx hb dX5_coded_8 (by decide) (fun c8_1 => ?_) (fun c8_1 => ?_)
  · refine lv_iconst (v := 0) hx hb dX5_coded_16 (by decide) ?_
    refine lv_iadd hx hb dX5_coded_17 ?_
    have hP9 := hP.sub (ws' := []) [] rfl
    have hD9 := hD.sub (ws' := []) [] (by decide) rfl
    have hK9 := hK.sub (tys' := []) [] rfl
    exact W.iret (v := (((1 + ww) + (4 * nn)) + 0)) hx hb hr (fun t ht hW => ⟨⟨(((1 + ww) + (4 * nn)) + 0), (), rfl, (by simp [codeJ, c8_1]), ⟨by rw [ht]; exact hP9, va_K.moved hW.alike hK9, hD9⟩⟩, hS.F ht⟩) hS.2.2 dX5_coded_18
  · refine lv_bipush (v := 40) hx hb dX5_coded_11 (by decide) ?_
    refine lv_goto (tgt := 17) hx hb dX5_coded_13 (by decide) ?_
    refine lv_iadd hx hb dX5_coded_17 ?_
    have hP9 := hP.sub (ws' := []) [] rfl
    have hD9 := hD.sub (ws' := []) [] (by decide) rfl
    have hK9 := hK.sub (tys' := []) [] rfl
    exact W.iret (v := (((1 + ww) + (4 * nn)) + 40)) hx hb hr (fun t ht hW => ⟨⟨(((1 + ww) + (4 * nn)) + 40), (), rfl, (by simp [codeJ, c8_1]), ⟨by rw [ht]; exact hP9, va_K.moved hW.alike hK9, hD9⟩⟩, hS.F ht⟩) hS.2.2 dX5_coded_18

set_option maxHeartbeats 4000000 in
set_option maxRecDepth 100000 in
/-- X7_signOf -/
theorem c_X7_signOf (l : Launch) (dC : Nat → ClassId) (dI : Nat → Nat → Nat) (cI : ClassId) (ra ta : Nat) (st ce sp lm rm fa : Int32) (f : Nat → Int32) (w : Int32) (sz : Nat) : Met l yX7_signOf wsX7_signOf ({ frames := 0, cells := 0, slots := 0, locals := 0 }) (va_Pc [.ref ra, .int w] (cPC dC dI [(ra, .inr (12, [.int st, .int ce, .int sp, .int lm, .int rm, .int fa, .ref ta])), (ta, .inl (cI, 1001, .inl f))] [(cI, .int)] sz)) (va_Qi (fun (r : Int32) (u : Unit) => r = signJ f w) (fun (u : Unit) t => cQB dC dI [(ra, .inr (12, [.int st, .int ce, .int sp, .int lm, .int rm, .int fa, .ref ta])), (ta, .inl (cI, 1001, .inl f))] [(cI, .int)] (va_A [(ra, .inr (12, [.int st, .int ce, .int sp, .int lm, .int rm, .int fa, .ref ta])), (ta, .inl (cI, 1001, .inl f))] sz) t) (va_A [(ra, .inr (12, [.int st, .int ce, .int sp, .int lm, .int rm, .int fa, .ref ta])), (ta, .inl (cI, 1001, .inl f))] sz)) 0 0 (va_A [(ra, .inr (12, [.int st, .int ce, .int sp, .int lm, .int rm, .int fa, .ref ta])), (ta, .inl (cI, 1001, .inl f))] sz) := by
  refine Met.ofW (cc := cX7_signOf) (maxL := 2) (ret := (some .int)) (by decide) rfl ?_
  intro p e s m args below meth c s₁ B hml hv
  obtain ⟨rfl, hsz, hP, hK, hD0, hN⟩ := hv
  have hx := B.exec
  have hb := B.bytes
  have hr := B.returns
  have hts := atoms_spec (ws := wsX7_signOf) B.pre
  have hown : s.vm.findClass RX7 = some m.cls := findClass_of_methodNamed B.named
  have hlocks := B.notSynchronized
  subst hsz
  have hD := hD0.self (sz := s.heap.size)
  generalize hAe : va_A [(ra, .inr (12, [.int st, .int ce, .int sp, .int lm, .int rm, .int fa, .ref ta])), (ta, .inl (cI, 1001, .inl f))] s.heap.size = A at hD ⊢
  have hA : ∀ q : Nat, s.heap.size ≤ q → A q := fun q h => by rw [← hAe]; exact Or.inr h
  have hS : va_S A s.heap s.heap [] := va_S.rf
  have hP : va_P (dC, dI) vwCl [(ra, .inr (12, [.int st, .int ce, .int sp, .int lm, .int rm, .int fa, .ref ta])), (ta, .inl (cI, 1001, .inl f))] s.heap := hP
  have hD : va_D A [(ra, .inr (12, [.int st, .int ce, .int sp, .int lm, .int rm, .int fa, .ref ta])), (ta, .inl (cI, 1001, .inl f))] := hD
  have hl := lv_entry ([.ref ra, .int w]) (n := 2) (Nat.le_of_ble_eq_true rfl)
  rw [lg_entry_eq]
  generalize (lg_sl ([.ref ra, .int w]) ++ List.replicate (2 - (lg_sl ([.ref ra, .int w])).length) Slot.unset).toArray = ls at hl ⊢
  have hl : lv_has ls 2 [(0, .ref ra), (1, .int w)] := hl
  have iWX7 : ∀ w ∈ u_ws RX7 TX7 7, w ∈ wsX7_signOf := by decide +kernel
  refine lv_iload_n hx hb dX7_signOf_0 rfl (lv_at hl 1 rfl) ?_
  refine lv_sipush (v := (-500)) hx hb dX7_signOf_1 (by decide) ?_
  refine lv_icmp_lt (tgt := 27) hx hb dX7_signOf_4 (by decide) (fun c4_1 => ?_) (fun c4_1 => ?_)
  · refine lv_iconst (v := 0) hx hb dX7_signOf_27 (by decide) ?_
    have hP9 := hP.sub (ws' := [(ra, .inr (12, [.int st, .int ce, .int sp, .int lm, .int rm, .int fa, .ref ta])), (ta, .inl (cI, 1001, .inl f))]) [0, 1] rfl
    have hD9 := hD.sub (ws' := [(ra, .inr (12, [.int st, .int ce, .int sp, .int lm, .int rm, .int fa, .ref ta])), (ta, .inl (cI, 1001, .inl f))]) [0, 1] (by decide) rfl
    have hK9 := hK.sub (tys' := [(cI, .int)]) [0] rfl
    exact W.iret (v := 0) hx hb hr (fun t ht hW => ⟨⟨0, (), rfl, (by simp [signJ, c4_1]), ⟨by rw [ht]; exact hP9, va_K.moved hW.alike hK9, hD9⟩⟩, hS.F ht⟩) hS.2.2 dX7_signOf_28
  · refine lv_iload_n hx hb dX7_signOf_7 rfl (lv_at hl 1 rfl) ?_
    refine lv_sipush (v := 500) hx hb dX7_signOf_8 (by decide) ?_
    refine lv_icmp_gt (tgt := 27) hx hb dX7_signOf_11 (by decide) (fun c11_2 => ?_) (fun c11_2 => ?_)
    · refine lv_iconst (v := 0) hx hb dX7_signOf_27 (by decide) ?_
      have hP9 := hP.sub (ws' := [(ra, .inr (12, [.int st, .int ce, .int sp, .int lm, .int rm, .int fa, .ref ta])), (ta, .inl (cI, 1001, .inl f))]) [0, 1] rfl
      have hD9 := hD.sub (ws' := [(ra, .inr (12, [.int st, .int ce, .int sp, .int lm, .int rm, .int fa, .ref ta])), (ta, .inl (cI, 1001, .inl f))]) [0, 1] (by decide) rfl
      have hK9 := hK.sub (tys' := [(cI, .int)]) [0] rfl
      exact W.iret (v := 0) hx hb hr (fun t ht hW => ⟨⟨0, (), rfl, (by simp [signJ, c4_1, c11_2]), ⟨by rw [ht]; exact hP9, va_K.moved hW.alike hK9, hD9⟩⟩, hS.F ht⟩) hS.2.2 dX7_signOf_28
    · refine lv_aload_n hx hb dX7_signOf_14 rfl (lv_at hl 0 rfl) ?_
      refine va_get (D := (dC, dI)) (ci := 12) (v := .ref ta) (C := RX7) (T := TX7) (N := 7) hx hb hts iWX7 hown hK hP 0 rfl rfl 6 (by decide) (hts (.fieldLink RX7 31 "Beaverhall$Run" "tape" "[I") (by decide +kernel)) (fun _ h9 => h9) rfl dX7_signOf_15 ?_
      refine lv_iload_n hx hb dX7_signOf_18 rfl (lv_at hl 1 rfl) ?_
      refine lv_sipush (v := 500) hx hb dX7_signOf_19 (by decide) ?_
      refine lv_iadd hx hb dX7_signOf_22 ?_
      refine va_iald hx hb hK hP 1 0 rfl rfl (sign_in c4_1 c11_2) dX7_signOf_23 ?_
      refine lv_goto (tgt := 28) hx hb dX7_signOf_24 (by decide) ?_
      have hP9 := hP.sub (ws' := [(ra, .inr (12, [.int st, .int ce, .int sp, .int lm, .int rm, .int fa, .ref ta])), (ta, .inl (cI, 1001, .inl f))]) [0, 1] rfl
      have hD9 := hD.sub (ws' := [(ra, .inr (12, [.int st, .int ce, .int sp, .int lm, .int rm, .int fa, .ref ta])), (ta, .inl (cI, 1001, .inl f))]) [0, 1] (by decide) rfl
      have hK9 := hK.sub (tys' := [(cI, .int)]) [0] rfl
      exact W.iret (v := f ((w + 500)).toNatClampNeg) hx hb hr (fun t ht hW => ⟨⟨(f ((w + 500)).toNatClampNeg), (), rfl, (by simp [signJ, c4_1, c11_2]), ⟨by rw [ht]; exact hP9, va_K.moved hW.alike hK9, hD9⟩⟩, hS.F ht⟩) hS.2.2 dX7_signOf_28

set_option maxHeartbeats 4000000 in
set_option maxRecDepth 100000 in
/-- X7_write -/
theorem c_X7_write (l : Launch) (dC : Nat → ClassId) (dI : Nat → Nat → Nat) (cI : ClassId) (ra ta : Nat) (st ce sp lm rm fa : Int32) (f : Nat → Int32) (w x : Int32) (sz : Nat) : Met l yX7_write wsX7_write ({ frames := 0, cells := 0, slots := 0, locals := 0 }) (va_Pc [.ref ra, .int w, .int x] (cPC dC dI [(ra, .inr (12, [.int st, .int ce, .int sp, .int lm, .int rm, .int fa, .ref ta])), (ta, .inl (cI, 1001, .inl f))] [(cI, .int)] sz)) (va_Qv (fun (u : Nat → Int32) => u = writeJ f w x) (fun (u : Nat → Int32) t => cQB dC dI [(ra, .inr (12, [.int st, .int ce, .int sp, .int lm, .int rm, .int fa, .ref ta])), (ta, .inl (cI, 1001, .inl u))] [(cI, .int)] (va_A [(ra, .inr (12, [.int st, .int ce, .int sp, .int lm, .int rm, .int fa, .ref ta])), (ta, .inl (cI, 1001, .inl f))] sz) t) (va_A [(ra, .inr (12, [.int st, .int ce, .int sp, .int lm, .int rm, .int fa, .ref ta])), (ta, .inl (cI, 1001, .inl f))] sz)) 0 0 (va_A [(ra, .inr (12, [.int st, .int ce, .int sp, .int lm, .int rm, .int fa, .ref ta])), (ta, .inl (cI, 1001, .inl f))] sz) := by
  refine Met.ofW (cc := cX7_write) (maxL := 3) (ret := none) (by decide) rfl ?_
  intro p e s m args below meth c s₁ B hml hv
  obtain ⟨rfl, hsz, hP, hK, hD0, hN⟩ := hv
  have hx := B.exec
  have hb := B.bytes
  have hr := B.returns
  have hts := atoms_spec (ws := wsX7_write) B.pre
  have hown : s.vm.findClass RX7 = some m.cls := findClass_of_methodNamed B.named
  have hlocks := B.notSynchronized
  subst hsz
  have hD := hD0.self (sz := s.heap.size)
  generalize hAe : va_A [(ra, .inr (12, [.int st, .int ce, .int sp, .int lm, .int rm, .int fa, .ref ta])), (ta, .inl (cI, 1001, .inl f))] s.heap.size = A at hD ⊢
  have hA : ∀ q : Nat, s.heap.size ≤ q → A q := fun q h => by rw [← hAe]; exact Or.inr h
  have hS : va_S A s.heap s.heap [] := va_S.rf
  have hP : va_P (dC, dI) vwCl [(ra, .inr (12, [.int st, .int ce, .int sp, .int lm, .int rm, .int fa, .ref ta])), (ta, .inl (cI, 1001, .inl f))] s.heap := hP
  have hD : va_D A [(ra, .inr (12, [.int st, .int ce, .int sp, .int lm, .int rm, .int fa, .ref ta])), (ta, .inl (cI, 1001, .inl f))] := hD
  have hl := lv_entry ([.ref ra, .int w, .int x]) (n := 3) (Nat.le_of_ble_eq_true rfl)
  rw [lg_entry_eq]
  generalize (lg_sl ([.ref ra, .int w, .int x]) ++ List.replicate (3 - (lg_sl ([.ref ra, .int w, .int x])).length) Slot.unset).toArray = ls at hl ⊢
  have hl : lv_has ls 3 [(0, .ref ra), (1, .int w), (2, .int x)] := hl
  have iWX7 : ∀ w ∈ u_ws RX7 TX7 7, w ∈ wsX7_write := by decide +kernel
  refine lv_iload_n hx hb dX7_write_0 rfl (lv_at hl 1 rfl) ?_
  refine lv_sipush (v := (-500)) hx hb dX7_write_1 (by decide) ?_
  refine lv_icmp_lt (tgt := 25) hx hb dX7_write_4 (by decide) (fun c4_1 => ?_) (fun c4_1 => ?_)
  · have hP9 := hP.sub (ws' := [(ra, .inr (12, [.int st, .int ce, .int sp, .int lm, .int rm, .int fa, .ref ta])), (ta, .inl (cI, 1001, .inl f))]) [0, 1] rfl
    have hD9 := hD.sub (ws' := [(ra, .inr (12, [.int st, .int ce, .int sp, .int lm, .int rm, .int fa, .ref ta])), (ta, .inl (cI, 1001, .inl f))]) [0, 1] (by decide) rfl
    have hK9 := hK.sub (tys' := [(cI, .int)]) [0] rfl
    exact W.vret hx hb hr (fun t ht hW => ⟨⟨f, rfl, (by simp [writeJ, c4_1]), ⟨by rw [ht]; exact hP9, va_K.moved hW.alike hK9, hD9⟩⟩, hS.F ht⟩) hS.2.2 dX7_write_25
  · refine lv_iload_n hx hb dX7_write_7 rfl (lv_at hl 1 rfl) ?_
    refine lv_sipush (v := 500) hx hb dX7_write_8 (by decide) ?_
    refine lv_icmp_gt (tgt := 25) hx hb dX7_write_11 (by decide) (fun c11_2 => ?_) (fun c11_2 => ?_)
    · have hP9 := hP.sub (ws' := [(ra, .inr (12, [.int st, .int ce, .int sp, .int lm, .int rm, .int fa, .ref ta])), (ta, .inl (cI, 1001, .inl f))]) [0, 1] rfl
      have hD9 := hD.sub (ws' := [(ra, .inr (12, [.int st, .int ce, .int sp, .int lm, .int rm, .int fa, .ref ta])), (ta, .inl (cI, 1001, .inl f))]) [0, 1] (by decide) rfl
      have hK9 := hK.sub (tys' := [(cI, .int)]) [0] rfl
      exact W.vret hx hb hr (fun t ht hW => ⟨⟨f, rfl, (by simp [writeJ, c4_1, c11_2]), ⟨by rw [ht]; exact hP9, va_K.moved hW.alike hK9, hD9⟩⟩, hS.F ht⟩) hS.2.2 dX7_write_25
    · refine lv_aload_n hx hb dX7_write_14 rfl (lv_at hl 0 rfl) ?_
      refine va_get (D := (dC, dI)) (ci := 12) (v := .ref ta) (C := RX7) (T := TX7) (N := 7) hx hb hts iWX7 hown hK hP 0 rfl rfl 6 (by decide) (hts (.fieldLink RX7 31 "Beaverhall$Run" "tape" "[I") (by decide +kernel)) (fun _ h9 => h9) rfl dX7_write_15 ?_
      refine lv_iload_n hx hb dX7_write_18 rfl (lv_at hl 1 rfl) ?_
      refine lv_sipush (v := 500) hx hb dX7_write_19 (by decide) ?_
      refine lv_iadd hx hb dX7_write_22 ?_
      refine lv_iload_n hx hb dX7_write_23 rfl (lv_at hl 2 rfl) ?_
      refine va_iast hx hb hK hP hD hS 1 0 rfl rfl (sign_in c4_1 c11_2) dX7_write_24 (fun H locs hP hD hS => ?_)
      obtain ⟨f_3, ef_3⟩ : ∃ z, z = (upd f ((w + 500)).toNatClampNeg x) := ⟨_, rfl⟩
      have hP : va_P (dC, dI) vwCl [(ra, .inr (12, [.int st, .int ce, .int sp, .int lm, .int rm, .int fa, .ref ta])), (ta, .inl (cI, 1001, .inl f_3))] H := by rw [ef_3]; exact hP
      have hD : va_D A [(ra, .inr (12, [.int st, .int ce, .int sp, .int lm, .int rm, .int fa, .ref ta])), (ta, .inl (cI, 1001, .inl f_3))] := by rw [ef_3]; exact hD
      have hP9 := hP.sub (ws' := [(ra, .inr (12, [.int st, .int ce, .int sp, .int lm, .int rm, .int fa, .ref ta])), (ta, .inl (cI, 1001, .inl f_3))]) [0, 1] rfl
      have hD9 := hD.sub (ws' := [(ra, .inr (12, [.int st, .int ce, .int sp, .int lm, .int rm, .int fa, .ref ta])), (ta, .inl (cI, 1001, .inl f_3))]) [0, 1] (by decide) rfl
      have hK9 := hK.sub (tys' := [(cI, .int)]) [0] rfl
      exact W.vret hx hb hr (fun t ht hW => ⟨⟨f_3, rfl, (by (try subst ef_3); simp [writeJ, c4_1, c11_2]), ⟨by rw [ht]; exact hP9, va_K.moved hW.alike hK9, hD9⟩⟩, hS.F ht⟩) hS.2.2 dX7_write_25

set_option maxHeartbeats 4000000 in
set_option maxRecDepth 100000 in
/-- X5_hasPlace -/
theorem c_X5_hasPlace (l : Launch) (dC : Nat → ClassId) (dI : Nat → Nat → Nat) (cI : ClassId) (mm oo la hh : Nat) (he ss gg wr tl le fi se : Int32) (o : Nat → Int32) (hss : ss ≤ 6) (hgg : gg ≤ 4) (a b : Int32) (sz : Nat) : Met l yX5_hasPlace wsX5_hasPlace ({ frames := 0, cells := 0, slots := 0, locals := 0 }) (va_Pc [.ref mm, .int a, .int b] (cPC dC dI [(mm, .inr (10, [.int he, .int ss, .int gg, .ref la, .int wr, .int tl, .int le, .int fi, .int se, .ref oo, .ref hh])), (oo, .inl (cI, 24, .inl o))] [(cI, .int)] sz)) (va_Qi (fun (r : Int32) (u : Unit) => r = hasJ ss gg a b) (fun (u : Unit) t => cQB dC dI [(mm, .inr (10, [.int he, .int ss, .int gg, .ref la, .int wr, .int tl, .int le, .int fi, .int se, .ref oo, .ref hh])), (oo, .inl (cI, 24, .inl o))] [(cI, .int)] (va_A [(mm, .inr (10, [.int he, .int ss, .int gg, .ref la, .int wr, .int tl, .int le, .int fi, .int se, .ref oo, .ref hh])), (oo, .inl (cI, 24, .inl o))] sz) t) (va_A [(mm, .inr (10, [.int he, .int ss, .int gg, .ref la, .int wr, .int tl, .int le, .int fi, .int se, .ref oo, .ref hh])), (oo, .inl (cI, 24, .inl o))] sz)) 0 0 (va_A [(mm, .inr (10, [.int he, .int ss, .int gg, .ref la, .int wr, .int tl, .int le, .int fi, .int se, .ref oo, .ref hh])), (oo, .inl (cI, 24, .inl o))] sz) := by
  refine Met.ofW (cc := cX5_hasPlace) (maxL := 3) (ret := (some .boolean)) (by decide) rfl ?_
  intro p e s m args below meth c s₁ B hml hv
  obtain ⟨rfl, hsz, hP, hK, hD0, hN⟩ := hv
  have hx := B.exec
  have hb := B.bytes
  have hr := B.returns
  have hts := atoms_spec (ws := wsX5_hasPlace) B.pre
  have hown : s.vm.findClass RX5 = some m.cls := findClass_of_methodNamed B.named
  have hlocks := B.notSynchronized
  subst hsz
  have hD := hD0.self (sz := s.heap.size)
  generalize hAe : va_A [(mm, .inr (10, [.int he, .int ss, .int gg, .ref la, .int wr, .int tl, .int le, .int fi, .int se, .ref oo, .ref hh])), (oo, .inl (cI, 24, .inl o))] s.heap.size = A at hD ⊢
  have hA : ∀ q : Nat, s.heap.size ≤ q → A q := fun q h => by rw [← hAe]; exact Or.inr h
  have hS : va_S A s.heap s.heap [] := va_S.rf
  have hP : va_P (dC, dI) vwCl [(mm, .inr (10, [.int he, .int ss, .int gg, .ref la, .int wr, .int tl, .int le, .int fi, .int se, .ref oo, .ref hh])), (oo, .inl (cI, 24, .inl o))] s.heap := hP
  have hD : va_D A [(mm, .inr (10, [.int he, .int ss, .int gg, .ref la, .int wr, .int tl, .int le, .int fi, .int se, .ref oo, .ref hh])), (oo, .inl (cI, 24, .inl o))] := hD
  have hl := lv_entry ([.ref mm, .int a, .int b]) (n := 3) (Nat.le_of_ble_eq_true rfl)
  rw [lg_entry_eq]
  generalize (lg_sl ([.ref mm, .int a, .int b]) ++ List.replicate (3 - (lg_sl ([.ref mm, .int a, .int b])).length) Slot.unset).toArray = ls at hl ⊢
  have hl : lv_has ls 3 [(0, .ref mm), (1, .int a), (2, .int b)] := hl
  have iWX5 : ∀ w ∈ u_ws RX5 TX5 11, w ∈ wsX5_hasPlace := by decide +kernel
  refine lv_iload_n hx hb dX5_hasPlace_0 rfl (lv_at hl 1 rfl) ?_
  refine lv_if_lt (tgt := 28) hx hb dX5_hasPlace_1 (by decide) (fun c1_1 => ?_) (fun c1_1 => ?_)
  · refine lv_iconst (v := 0) hx hb dX5_hasPlace_28 (by decide) ?_
    have hP9 := hP.sub (ws' := [(mm, .inr (10, [.int he, .int ss, .int gg, .ref la, .int wr, .int tl, .int le, .int fi, .int se, .ref oo, .ref hh])), (oo, .inl (cI, 24, .inl o))]) [0, 1] rfl
    have hD9 := hD.sub (ws' := [(mm, .inr (10, [.int he, .int ss, .int gg, .ref la, .int wr, .int tl, .int le, .int fi, .int se, .ref oo, .ref hh])), (oo, .inl (cI, 24, .inl o))]) [0, 1] (by decide) rfl
    have hK9 := hK.sub (tys' := [(cI, .int)]) [0] rfl
    exact W.zret (v := 0) hx hb hr (by rfl) (fun t ht hW => ⟨⟨0, (), rfl, (by simp [hasJ, c1_1]), ⟨by rw [ht]; exact hP9, va_K.moved hW.alike hK9, hD9⟩⟩, hS.F ht⟩) hS.2.2 dX5_hasPlace_29
  · refine lv_iload_n hx hb dX5_hasPlace_4 rfl (lv_at hl 1 rfl) ?_
    refine lv_aload_n hx hb dX5_hasPlace_5 rfl (lv_at hl 0 rfl) ?_
    refine va_get (D := (dC, dI)) (ci := 10) (v := .int ss) (C := RX5) (T := TX5) (N := 11) hx hb hts iWX5 hown hK hP 0 rfl rfl 1 (by decide) (hts (.fieldLink RX5 46 "Beaverhall$Machine" "states" "I") (by decide +kernel)) (fun _ h9 => h9) rfl dX5_hasPlace_6 ?_
    refine lv_icmp_ge (tgt := 28) hx hb dX5_hasPlace_9 (by decide) (fun c9_2 => ?_) (fun c9_2 => ?_)
    · refine lv_iconst (v := 0) hx hb dX5_hasPlace_28 (by decide) ?_
      have hP9 := hP.sub (ws' := [(mm, .inr (10, [.int he, .int ss, .int gg, .ref la, .int wr, .int tl, .int le, .int fi, .int se, .ref oo, .ref hh])), (oo, .inl (cI, 24, .inl o))]) [0, 1] rfl
      have hD9 := hD.sub (ws' := [(mm, .inr (10, [.int he, .int ss, .int gg, .ref la, .int wr, .int tl, .int le, .int fi, .int se, .ref oo, .ref hh])), (oo, .inl (cI, 24, .inl o))]) [0, 1] (by decide) rfl
      have hK9 := hK.sub (tys' := [(cI, .int)]) [0] rfl
      exact W.zret (v := 0) hx hb hr (by rfl) (fun t ht hW => ⟨⟨0, (), rfl, (by simp [hasJ, c1_1, c9_2]), ⟨by rw [ht]; exact hP9, va_K.moved hW.alike hK9, hD9⟩⟩, hS.F ht⟩) hS.2.2 dX5_hasPlace_29
    · refine lv_iload_n hx hb dX5_hasPlace_12 rfl (lv_at hl 2 rfl) ?_
      refine lv_if_lt (tgt := 28) hx hb dX5_hasPlace_13 (by decide) (fun c13_3 => ?_) (fun c13_3 => ?_)
      · refine lv_iconst (v := 0) hx hb dX5_hasPlace_28 (by decide) ?_
        have hP9 := hP.sub (ws' := [(mm, .inr (10, [.int he, .int ss, .int gg, .ref la, .int wr, .int tl, .int le, .int fi, .int se, .ref oo, .ref hh])), (oo, .inl (cI, 24, .inl o))]) [0, 1] rfl
        have hD9 := hD.sub (ws' := [(mm, .inr (10, [.int he, .int ss, .int gg, .ref la, .int wr, .int tl, .int le, .int fi, .int se, .ref oo, .ref hh])), (oo, .inl (cI, 24, .inl o))]) [0, 1] (by decide) rfl
        have hK9 := hK.sub (tys' := [(cI, .int)]) [0] rfl
        exact W.zret (v := 0) hx hb hr (by rfl) (fun t ht hW => ⟨⟨0, (), rfl, (by simp [hasJ, c1_1, c9_2, c13_3]), ⟨by rw [ht]; exact hP9, va_K.moved hW.alike hK9, hD9⟩⟩, hS.F ht⟩) hS.2.2 dX5_hasPlace_29
      · refine lv_iload_n hx hb dX5_hasPlace_16 rfl (lv_at hl 2 rfl) ?_
        refine lv_aload_n hx hb dX5_hasPlace_17 rfl (lv_at hl 0 rfl) ?_
        refine va_get (D := (dC, dI)) (ci := 10) (v := .int gg) (C := RX5) (T := TX5) (N := 11) hx hb hts iWX5 hown hK hP 0 rfl rfl 2 (by decide) (hts (.fieldLink RX5 49 "Beaverhall$Machine" "signs" "I") (by decide +kernel)) (fun _ h9 => h9) rfl dX5_hasPlace_18 ?_
        refine lv_icmp_ge (tgt := 28) hx hb dX5_hasPlace_21 (by decide) (fun c21_4 => ?_) (fun c21_4 => ?_)
        · refine lv_iconst (v := 0) hx hb dX5_hasPlace_28 (by decide) ?_
          have hP9 := hP.sub (ws' := [(mm, .inr (10, [.int he, .int ss, .int gg, .ref la, .int wr, .int tl, .int le, .int fi, .int se, .ref oo, .ref hh])), (oo, .inl (cI, 24, .inl o))]) [0, 1] rfl
          have hD9 := hD.sub (ws' := [(mm, .inr (10, [.int he, .int ss, .int gg, .ref la, .int wr, .int tl, .int le, .int fi, .int se, .ref oo, .ref hh])), (oo, .inl (cI, 24, .inl o))]) [0, 1] (by decide) rfl
          have hK9 := hK.sub (tys' := [(cI, .int)]) [0] rfl
          exact W.zret (v := 0) hx hb hr (by rfl) (fun t ht hW => ⟨⟨0, (), rfl, (by simp [hasJ, c1_1, c9_2, c13_3, c21_4]), ⟨by rw [ht]; exact hP9, va_K.moved hW.alike hK9, hD9⟩⟩, hS.F ht⟩) hS.2.2 dX5_hasPlace_29
        · refine lv_iconst (v := 1) hx hb dX5_hasPlace_24 (by decide) ?_
          refine lv_goto (tgt := 29) hx hb dX5_hasPlace_25 (by decide) ?_
          have hP9 := hP.sub (ws' := [(mm, .inr (10, [.int he, .int ss, .int gg, .ref la, .int wr, .int tl, .int le, .int fi, .int se, .ref oo, .ref hh])), (oo, .inl (cI, 24, .inl o))]) [0, 1] rfl
          have hD9 := hD.sub (ws' := [(mm, .inr (10, [.int he, .int ss, .int gg, .ref la, .int wr, .int tl, .int le, .int fi, .int se, .ref oo, .ref hh])), (oo, .inl (cI, 24, .inl o))]) [0, 1] (by decide) rfl
          have hK9 := hK.sub (tys' := [(cI, .int)]) [0] rfl
          exact W.zret (v := 1) hx hb hr (by rfl) (fun t ht hW => ⟨⟨1, (), rfl, (by simp [hasJ, c1_1, c9_2, c13_3, c21_4]), ⟨by rw [ht]; exact hP9, va_K.moved hW.alike hK9, hD9⟩⟩, hS.F ht⟩) hS.2.2 dX5_hasPlace_29

set_option maxHeartbeats 4000000 in
set_option maxRecDepth 100000 in
/-- X5_orderFor -/
theorem c_X5_orderFor (l : Launch) (dC : Nat → ClassId) (dI : Nat → Nat → Nat) (cI : ClassId) (mm oo la hh : Nat) (he ss gg wr tl le fi se : Int32) (o : Nat → Int32) (hss : ss ≤ 6) (hgg : gg ≤ 4) (a b : Int32) (sz : Nat) : Met l yX5_orderFor wsX5_orderFor ({ frames := 0, cells := 0, slots := 0, locals := 0 }) (va_Pc [.ref mm, .int a, .int b] (cPC dC dI [(mm, .inr (10, [.int he, .int ss, .int gg, .ref la, .int wr, .int tl, .int le, .int fi, .int se, .ref oo, .ref hh])), (oo, .inl (cI, 24, .inl o))] [(cI, .int)] sz)) (va_Qi (fun (r : Int32) (u : Unit) => r = ordJ ss gg o a b) (fun (u : Unit) t => cQB dC dI [(mm, .inr (10, [.int he, .int ss, .int gg, .ref la, .int wr, .int tl, .int le, .int fi, .int se, .ref oo, .ref hh])), (oo, .inl (cI, 24, .inl o))] [(cI, .int)] (va_A [(mm, .inr (10, [.int he, .int ss, .int gg, .ref la, .int wr, .int tl, .int le, .int fi, .int se, .ref oo, .ref hh])), (oo, .inl (cI, 24, .inl o))] sz) t) (va_A [(mm, .inr (10, [.int he, .int ss, .int gg, .ref la, .int wr, .int tl, .int le, .int fi, .int se, .ref oo, .ref hh])), (oo, .inl (cI, 24, .inl o))] sz)) 0 0 (va_A [(mm, .inr (10, [.int he, .int ss, .int gg, .ref la, .int wr, .int tl, .int le, .int fi, .int se, .ref oo, .ref hh])), (oo, .inl (cI, 24, .inl o))] sz) := by
  refine Met.ofW (cc := cX5_orderFor) (maxL := 5) (ret := (some .int)) (by decide) rfl ?_
  intro p e s m args below meth c s₁ B hml hv
  obtain ⟨rfl, hsz, hP, hK, hD0, hN⟩ := hv
  have hx := B.exec
  have hb := B.bytes
  have hr := B.returns
  have hts := atoms_spec (ws := wsX5_orderFor) B.pre
  have hown : s.vm.findClass RX5 = some m.cls := findClass_of_methodNamed B.named
  have hlocks := B.notSynchronized
  subst hsz
  have hD := hD0.self (sz := s.heap.size)
  generalize hAe : va_A [(mm, .inr (10, [.int he, .int ss, .int gg, .ref la, .int wr, .int tl, .int le, .int fi, .int se, .ref oo, .ref hh])), (oo, .inl (cI, 24, .inl o))] s.heap.size = A at hD ⊢
  have hA : ∀ q : Nat, s.heap.size ≤ q → A q := fun q h => by rw [← hAe]; exact Or.inr h
  have hS : va_S A s.heap s.heap [] := va_S.rf
  have hP : va_P (dC, dI) vwCl [(mm, .inr (10, [.int he, .int ss, .int gg, .ref la, .int wr, .int tl, .int le, .int fi, .int se, .ref oo, .ref hh])), (oo, .inl (cI, 24, .inl o))] s.heap := hP
  have hD : va_D A [(mm, .inr (10, [.int he, .int ss, .int gg, .ref la, .int wr, .int tl, .int le, .int fi, .int se, .ref oo, .ref hh])), (oo, .inl (cI, 24, .inl o))] := hD
  have hl := lv_entry ([.ref mm, .int a, .int b]) (n := 5) (Nat.le_of_ble_eq_true rfl)
  rw [lg_entry_eq]
  generalize (lg_sl ([.ref mm, .int a, .int b]) ++ List.replicate (5 - (lg_sl ([.ref mm, .int a, .int b])).length) Slot.unset).toArray = ls at hl ⊢
  have hl : lv_has ls 5 [(0, .ref mm), (1, .int a), (2, .int b)] := hl
  have iWX5 : ∀ w ∈ u_ws RX5 TX5 11, w ∈ wsX5_orderFor := by decide +kernel
  refine lv_iload_n hx hb dX5_orderFor_0 rfl (lv_at hl 1 rfl) ?_
  refine lv_if_lt (tgt := 28) hx hb dX5_orderFor_1 (by decide) (fun c1_1 => ?_) (fun c1_1 => ?_)
  · refine lv_iconst (v := 0) hx hb dX5_orderFor_28 (by decide) ?_
    refine lv_istore_n (lv' := [(3, .int 0), (0, .ref mm), (1, .int a), (2, .int b)]) hx hb dX5_orderFor_29 rfl hl (by decide) rfl (fun ls hl => ?_)
    refine lv_iload_n hx hb dX5_orderFor_30 rfl (lv_at hl 2 rfl) ?_
    refine lv_iconst (v := 4) hx hb dX5_orderFor_31 (by decide) ?_
    refine lv_imul hx hb dX5_orderFor_32 ?_
    refine lv_iload_n hx hb dX5_orderFor_33 rfl (lv_at hl 3 rfl) ?_
    refine lv_iadd hx hb dX5_orderFor_34 ?_
    refine lv_topi (fun x_2 ex_2 => ?_)
    refine lv_istore (lv' := [(4, .int x_2), (3, .int 0), (0, .ref mm), (1, .int a), (2, .int b)]) hx hb dX5_orderFor_35 hl (by decide) rfl (fun ls hl => ?_)
    refine lv_iload_n hx hb dX5_orderFor_37 rfl (lv_at hl 1 rfl) ?_
    refine lv_if_eq (tgt := 61) hx hb dX5_orderFor_38 (by decide) (fun c38_3 => ?_) (fun c38_3 => ?_)
    · refine lv_iconst (v := 0) hx hb dX5_orderFor_61 (by decide) ?_
      have hP9 := hP.sub (ws' := [(mm, .inr (10, [.int he, .int ss, .int gg, .ref la, .int wr, .int tl, .int le, .int fi, .int se, .ref oo, .ref hh])), (oo, .inl (cI, 24, .inl o))]) [0, 1] rfl
      have hD9 := hD.sub (ws' := [(mm, .inr (10, [.int he, .int ss, .int gg, .ref la, .int wr, .int tl, .int le, .int fi, .int se, .ref oo, .ref hh])), (oo, .inl (cI, 24, .inl o))]) [0, 1] (by decide) rfl
      have hK9 := hK.sub (tys' := [(cI, .int)]) [0] rfl
      exact W.iret (v := 0) hx hb hr (fun t ht hW => ⟨⟨0, (), rfl, (by (try subst ex_2); simp [ordJ, c1_1, c38_3]), ⟨by rw [ht]; exact hP9, va_K.moved hW.alike hK9, hD9⟩⟩, hS.F ht⟩) hS.2.2 dX5_orderFor_62
    · exact (c38_3 (by decide)).elim
  · refine lv_iload_n hx hb dX5_orderFor_4 rfl (lv_at hl 1 rfl) ?_
    refine lv_aload_n hx hb dX5_orderFor_5 rfl (lv_at hl 0 rfl) ?_
    refine va_get (D := (dC, dI)) (ci := 10) (v := .int ss) (C := RX5) (T := TX5) (N := 11) hx hb hts iWX5 hown hK hP 0 rfl rfl 1 (by decide) (hts (.fieldLink RX5 46 "Beaverhall$Machine" "states" "I") (by decide +kernel)) (fun _ h9 => h9) rfl dX5_orderFor_6 ?_
    refine lv_icmp_ge (tgt := 28) hx hb dX5_orderFor_9 (by decide) (fun c9_4 => ?_) (fun c9_4 => ?_)
    · refine lv_iconst (v := 0) hx hb dX5_orderFor_28 (by decide) ?_
      refine lv_istore_n (lv' := [(3, .int 0), (0, .ref mm), (1, .int a), (2, .int b)]) hx hb dX5_orderFor_29 rfl hl (by decide) rfl (fun ls hl => ?_)
      refine lv_iload_n hx hb dX5_orderFor_30 rfl (lv_at hl 2 rfl) ?_
      refine lv_iconst (v := 4) hx hb dX5_orderFor_31 (by decide) ?_
      refine lv_imul hx hb dX5_orderFor_32 ?_
      refine lv_iload_n hx hb dX5_orderFor_33 rfl (lv_at hl 3 rfl) ?_
      refine lv_iadd hx hb dX5_orderFor_34 ?_
      refine lv_topi (fun x_5 ex_5 => ?_)
      refine lv_istore (lv' := [(4, .int x_5), (3, .int 0), (0, .ref mm), (1, .int a), (2, .int b)]) hx hb dX5_orderFor_35 hl (by decide) rfl (fun ls hl => ?_)
      refine lv_iload_n hx hb dX5_orderFor_37 rfl (lv_at hl 1 rfl) ?_
      refine lv_if_eq (tgt := 61) hx hb dX5_orderFor_38 (by decide) (fun c38_6 => ?_) (fun c38_6 => ?_)
      · refine lv_iconst (v := 0) hx hb dX5_orderFor_61 (by decide) ?_
        have hP9 := hP.sub (ws' := [(mm, .inr (10, [.int he, .int ss, .int gg, .ref la, .int wr, .int tl, .int le, .int fi, .int se, .ref oo, .ref hh])), (oo, .inl (cI, 24, .inl o))]) [0, 1] rfl
        have hD9 := hD.sub (ws' := [(mm, .inr (10, [.int he, .int ss, .int gg, .ref la, .int wr, .int tl, .int le, .int fi, .int se, .ref oo, .ref hh])), (oo, .inl (cI, 24, .inl o))]) [0, 1] (by decide) rfl
        have hK9 := hK.sub (tys' := [(cI, .int)]) [0] rfl
        exact W.iret (v := 0) hx hb hr (fun t ht hW => ⟨⟨0, (), rfl, (by (try subst ex_5); simp [ordJ, c1_1, c9_4, c38_6]), ⟨by rw [ht]; exact hP9, va_K.moved hW.alike hK9, hD9⟩⟩, hS.F ht⟩) hS.2.2 dX5_orderFor_62
      · exact (c38_6 (by decide)).elim
    · refine lv_iload_n hx hb dX5_orderFor_12 rfl (lv_at hl 2 rfl) ?_
      refine lv_if_lt (tgt := 28) hx hb dX5_orderFor_13 (by decide) (fun c13_7 => ?_) (fun c13_7 => ?_)
      · refine lv_iconst (v := 0) hx hb dX5_orderFor_28 (by decide) ?_
        refine lv_istore_n (lv' := [(3, .int 0), (0, .ref mm), (1, .int a), (2, .int b)]) hx hb dX5_orderFor_29 rfl hl (by decide) rfl (fun ls hl => ?_)
        refine lv_iload_n hx hb dX5_orderFor_30 rfl (lv_at hl 2 rfl) ?_
        refine lv_iconst (v := 4) hx hb dX5_orderFor_31 (by decide) ?_
        refine lv_imul hx hb dX5_orderFor_32 ?_
        refine lv_iload_n hx hb dX5_orderFor_33 rfl (lv_at hl 3 rfl) ?_
        refine lv_iadd hx hb dX5_orderFor_34 ?_
        refine lv_topi (fun x_8 ex_8 => ?_)
        refine lv_istore (lv' := [(4, .int x_8), (3, .int 0), (0, .ref mm), (1, .int a), (2, .int b)]) hx hb dX5_orderFor_35 hl (by decide) rfl (fun ls hl => ?_)
        refine lv_iload_n hx hb dX5_orderFor_37 rfl (lv_at hl 1 rfl) ?_
        refine lv_if_eq (tgt := 61) hx hb dX5_orderFor_38 (by decide) (fun c38_9 => ?_) (fun c38_9 => ?_)
        · refine lv_iconst (v := 0) hx hb dX5_orderFor_61 (by decide) ?_
          have hP9 := hP.sub (ws' := [(mm, .inr (10, [.int he, .int ss, .int gg, .ref la, .int wr, .int tl, .int le, .int fi, .int se, .ref oo, .ref hh])), (oo, .inl (cI, 24, .inl o))]) [0, 1] rfl
          have hD9 := hD.sub (ws' := [(mm, .inr (10, [.int he, .int ss, .int gg, .ref la, .int wr, .int tl, .int le, .int fi, .int se, .ref oo, .ref hh])), (oo, .inl (cI, 24, .inl o))]) [0, 1] (by decide) rfl
          have hK9 := hK.sub (tys' := [(cI, .int)]) [0] rfl
          exact W.iret (v := 0) hx hb hr (fun t ht hW => ⟨⟨0, (), rfl, (by (try subst ex_8); simp [ordJ, c1_1, c9_4, c13_7, c38_9]), ⟨by rw [ht]; exact hP9, va_K.moved hW.alike hK9, hD9⟩⟩, hS.F ht⟩) hS.2.2 dX5_orderFor_62
        · exact (c38_9 (by decide)).elim
      · refine lv_iload_n hx hb dX5_orderFor_16 rfl (lv_at hl 2 rfl) ?_
        refine lv_aload_n hx hb dX5_orderFor_17 rfl (lv_at hl 0 rfl) ?_
        refine va_get (D := (dC, dI)) (ci := 10) (v := .int gg) (C := RX5) (T := TX5) (N := 11) hx hb hts iWX5 hown hK hP 0 rfl rfl 2 (by decide) (hts (.fieldLink RX5 49 "Beaverhall$Machine" "signs" "I") (by decide +kernel)) (fun _ h9 => h9) rfl dX5_orderFor_18 ?_
        refine lv_icmp_ge (tgt := 28) hx hb dX5_orderFor_21 (by decide) (fun c21_10 => ?_) (fun c21_10 => ?_)
        · refine lv_iconst (v := 0) hx hb dX5_orderFor_28 (by decide) ?_
          refine lv_istore_n (lv' := [(3, .int 0), (0, .ref mm), (1, .int a), (2, .int b)]) hx hb dX5_orderFor_29 rfl hl (by decide) rfl (fun ls hl => ?_)
          refine lv_iload_n hx hb dX5_orderFor_30 rfl (lv_at hl 2 rfl) ?_
          refine lv_iconst (v := 4) hx hb dX5_orderFor_31 (by decide) ?_
          refine lv_imul hx hb dX5_orderFor_32 ?_
          refine lv_iload_n hx hb dX5_orderFor_33 rfl (lv_at hl 3 rfl) ?_
          refine lv_iadd hx hb dX5_orderFor_34 ?_
          refine lv_topi (fun x_11 ex_11 => ?_)
          refine lv_istore (lv' := [(4, .int x_11), (3, .int 0), (0, .ref mm), (1, .int a), (2, .int b)]) hx hb dX5_orderFor_35 hl (by decide) rfl (fun ls hl => ?_)
          refine lv_iload_n hx hb dX5_orderFor_37 rfl (lv_at hl 1 rfl) ?_
          refine lv_if_eq (tgt := 61) hx hb dX5_orderFor_38 (by decide) (fun c38_12 => ?_) (fun c38_12 => ?_)
          · refine lv_iconst (v := 0) hx hb dX5_orderFor_61 (by decide) ?_
            have hP9 := hP.sub (ws' := [(mm, .inr (10, [.int he, .int ss, .int gg, .ref la, .int wr, .int tl, .int le, .int fi, .int se, .ref oo, .ref hh])), (oo, .inl (cI, 24, .inl o))]) [0, 1] rfl
            have hD9 := hD.sub (ws' := [(mm, .inr (10, [.int he, .int ss, .int gg, .ref la, .int wr, .int tl, .int le, .int fi, .int se, .ref oo, .ref hh])), (oo, .inl (cI, 24, .inl o))]) [0, 1] (by decide) rfl
            have hK9 := hK.sub (tys' := [(cI, .int)]) [0] rfl
            exact W.iret (v := 0) hx hb hr (fun t ht hW => ⟨⟨0, (), rfl, (by (try subst ex_11); simp [ordJ, c1_1, c9_4, c13_7, c21_10, c38_12]), ⟨by rw [ht]; exact hP9, va_K.moved hW.alike hK9, hD9⟩⟩, hS.F ht⟩) hS.2.2 dX5_orderFor_62
          · exact (c38_12 (by decide)).elim
        · refine lv_iconst (v := 1) hx hb dX5_orderFor_24 (by decide) ?_
          refine lv_goto (tgt := 29) hx hb dX5_orderFor_25 (by decide) ?_
          refine lv_istore_n (lv' := [(3, .int 1), (0, .ref mm), (1, .int a), (2, .int b)]) hx hb dX5_orderFor_29 rfl hl (by decide) rfl (fun ls hl => ?_)
          refine lv_iload_n hx hb dX5_orderFor_30 rfl (lv_at hl 2 rfl) ?_
          refine lv_iconst (v := 4) hx hb dX5_orderFor_31 (by decide) ?_
          refine lv_imul hx hb dX5_orderFor_32 ?_
          refine lv_iload_n hx hb dX5_orderFor_33 rfl (lv_at hl 3 rfl) ?_
          refine lv_iadd hx hb dX5_orderFor_34 ?_
          refine lv_topi (fun x_13 ex_13 => ?_)
          refine lv_istore (lv' := [(4, .int x_13), (3, .int 1), (0, .ref mm), (1, .int a), (2, .int b)]) hx hb dX5_orderFor_35 hl (by decide) rfl (fun ls hl => ?_)
          refine lv_iload_n hx hb dX5_orderFor_37 rfl (lv_at hl 1 rfl) ?_
          refine lv_if_eq (tgt := 61) hx hb dX5_orderFor_38 (by decide) (fun c38_14 => ?_) (fun c38_14 => ?_)
          · exact absurd c38_14 (by decide)
          · refine lv_iload hx hb dX5_orderFor_41 (lv_at hl 0 rfl) ?_
            refine lv_aload_n hx hb dX5_orderFor_43 rfl (lv_at hl 2 rfl) ?_
            refine va_get (D := (dC, dI)) (ci := 10) (v := .ref oo) (C := RX5) (T := TX5) (N := 11) hx hb hts iWX5 hown hK hP 0 rfl rfl 9 (by decide) (hts (.fieldLink RX5 36 "Beaverhall$Machine" "orders" "[I") (by decide +kernel)) (fun _ h9 => h9) rfl dX5_orderFor_44 ?_
            refine va_alen hx hb hK hP 1 0 rfl rfl (v := 24) (by rfl) dX5_orderFor_47 ?_
            refine lv_icmp_ge (tgt := 61) hx hb dX5_orderFor_48 (by decide) (fun c48_15 => ?_) (fun c48_15 => ?_)
            · refine lv_iconst (v := 0) hx hb dX5_orderFor_61 (by decide) ?_
              have hP9 := hP.sub (ws' := [(mm, .inr (10, [.int he, .int ss, .int gg, .ref la, .int wr, .int tl, .int le, .int fi, .int se, .ref oo, .ref hh])), (oo, .inl (cI, 24, .inl o))]) [0, 1] rfl
              have hD9 := hD.sub (ws' := [(mm, .inr (10, [.int he, .int ss, .int gg, .ref la, .int wr, .int tl, .int le, .int fi, .int se, .ref oo, .ref hh])), (oo, .inl (cI, 24, .inl o))]) [0, 1] (by decide) rfl
              have hK9 := hK.sub (tys' := [(cI, .int)]) [0] rfl
              exact W.iret (v := 0) hx hb hr (fun t ht hW => ⟨⟨0, (), rfl, (by (try subst ex_13); simp [ordJ, c1_1, c9_4, c13_7, c21_10, c38_14, c48_15]), ⟨by rw [ht]; exact hP9, va_K.moved hW.alike hK9, hD9⟩⟩, hS.F ht⟩) hS.2.2 dX5_orderFor_62
            · refine lv_aload_n hx hb dX5_orderFor_51 rfl (lv_at hl 2 rfl) ?_
              refine va_get (D := (dC, dI)) (ci := 10) (v := .ref oo) (C := RX5) (T := TX5) (N := 11) hx hb hts iWX5 hown hK hP 0 rfl rfl 9 (by decide) (hts (.fieldLink RX5 36 "Beaverhall$Machine" "orders" "[I") (by decide +kernel)) (fun _ h9 => h9) rfl dX5_orderFor_52 ?_
              refine lv_iload hx hb dX5_orderFor_55 (lv_at hl 0 rfl) ?_
              refine va_iald hx hb hK hP 1 0 rfl rfl (by subst ex_13; exact ord_in hss hgg c1_1 c9_4 c13_7 c21_10) dX5_orderFor_57 ?_
              refine lv_goto (tgt := 62) hx hb dX5_orderFor_58 (by decide) ?_
              have hP9 := hP.sub (ws' := [(mm, .inr (10, [.int he, .int ss, .int gg, .ref la, .int wr, .int tl, .int le, .int fi, .int se, .ref oo, .ref hh])), (oo, .inl (cI, 24, .inl o))]) [0, 1] rfl
              have hD9 := hD.sub (ws' := [(mm, .inr (10, [.int he, .int ss, .int gg, .ref la, .int wr, .int tl, .int le, .int fi, .int se, .ref oo, .ref hh])), (oo, .inl (cI, 24, .inl o))]) [0, 1] (by decide) rfl
              have hK9 := hK.sub (tys' := [(cI, .int)]) [0] rfl
              exact W.iret (v := o (x_13).toNatClampNeg) hx hb hr (fun t ht hW => ⟨⟨(o (x_13).toNatClampNeg), (), rfl, (by (try subst ex_13); simp [ordJ, c1_1, c9_4, c13_7, c21_10, c38_14, c48_15]), ⟨by rw [ht]; exact hP9, va_K.moved hW.alike hK9, hD9⟩⟩, hS.F ht⟩) hS.2.2 dX5_orderFor_62
