theorem dX15_isCarried_0 : decode cX15_isCarried 0 = .ok (.aload_n 3, 1) := by decide +kernel
set_option maxRecDepth 20000 in
theorem ggX15_isCarried_X14_begin : GoodIn wsX15_isCarried wsX14_begin := goodIn_ca (goodIn_r _ [9, 10, 11, 12, 13, 14, 15, 16, 17, 50, 51, 52, 53, 54, 55, 56, 57, 58] rfl (by decide +kernel)) (goodIn_sub (fun _ h => List.mem_cons_of_mem _ (List.mem_append_right _ h)) (by decide +kernel))
set_option maxRecDepth 20000 in
theorem gX15_isCarried_X14_begin : GoodIn wsX15_isCarried (wsV RX15 47 RX14 yX14_begin wsX14_begin) := goodIn_app (goodIn_of _ (by decide +kernel)) ggX15_isCarried_X14_begin
theorem dX15_isCarried_1 : decode cX15_isCarried 1 = .ok (.invokevirtual 47, 3) := by decide +kernel
theorem dX15_isCarried_4 : decode cX15_isCarried 4 = .ok (.aload 4, 2) := by decide +kernel
theorem dX15_isCarried_6 : decode cX15_isCarried 6 = .ok (.invokevirtual 47, 3) := by decide +kernel
theorem dX15_isCarried_9 : decode cX15_isCarried 9 = .ok (.aload_n 3, 1) := by decide +kernel
theorem dX15_isCarried_10 : decode cX15_isCarried 10 = .ok (.iload_n 1, 1) := by decide +kernel
set_option maxRecDepth 20000 in
theorem ggX15_isCarried_X15_isRecord : GoodIn wsX15_isCarried wsX15_isRecord := goodIn_ca (goodIn_r _ [21, 22, 23, 24, 8, 25, 16, 14, 26, 17, 12, 13, 15, 10, 27, 2, 3, 4, 11, 28, 29, 30, 31, 32, 33, 34, 35, 36, 37, 38, 39, 40, 41, 42, 43, 44, 50, 51, 52, 53, 54, 55, 56, 57, 58, 59, 60, 61, 62, 63, 64, 65, 66, 67, 68, 69, 70] rfl (by decide +kernel)) (goodIn_sub (fun _ h => List.mem_cons_of_mem _ (List.mem_append_right _ h)) (by decide +kernel))
set_option maxRecDepth 20000 in
theorem gX15_isCarried_X15_isRecord : GoodIn wsX15_isCarried (va_wsS RX15 51 yX15_isRecord wsX15_isRecord) := goodIn_app (goodIn_of _ (by decide +kernel)) ggX15_isCarried_X15_isRecord
theorem dX15_isCarried_11 : decode cX15_isCarried 11 = .ok (.invokestatic 51, 3) := by decide +kernel
theorem dX15_isCarried_14 : decode cX15_isCarried 14 = .ok (.ifCond .ne 5, 3) := by decide +kernel
theorem dX15_isCarried_19 : decode cX15_isCarried 19 = .ok (.aload 4, 2) := by decide +kernel
theorem dX15_isCarried_21 : decode cX15_isCarried 21 = .ok (.aload_n 3, 1) := by decide +kernel
set_option maxRecDepth 20000 in
theorem ggX15_isCarried_X14_become : GoodIn wsX15_isCarried wsX14_become := goodIn_ca (goodIn_r _ [48, 10, 11, 12, 13, 14, 15, 16, 17, 49, 6, 7, 8, 9, 50, 51, 52, 53, 54, 55, 56, 57, 58] rfl (by decide +kernel)) (goodIn_sub (fun _ h => List.mem_cons_of_mem _ (List.mem_append_right _ h)) (by decide +kernel))
set_option maxRecDepth 20000 in
theorem gX15_isCarried_X14_become : GoodIn wsX15_isCarried (wsV RX15 35 RX14 yX14_become wsX14_become) := goodIn_app (goodIn_of _ (by decide +kernel)) ggX15_isCarried_X14_become
theorem dX15_isCarried_22 : decode cX15_isCarried 22 = .ok (.invokevirtual 35, 3) := by decide +kernel
theorem dX15_isCarried_25 : decode cX15_isCarried 25 = .ok (.aload 4, 2) := by decide +kernel
theorem dX15_isCarried_27 : decode cX15_isCarried 27 = .ok (.getfield 55, 3) := by decide +kernel
theorem dX15_isCarried_30 : decode cX15_isCarried 30 = .ok (.istore 5, 2) := by decide +kernel
theorem dX15_isCarried_32 : decode cX15_isCarried 32 = .ok (.aload 4, 2) := by decide +kernel
theorem dX15_isCarried_34 : decode cX15_isCarried 34 = .ok (.getfield 58, 3) := by decide +kernel
theorem dX15_isCarried_37 : decode cX15_isCarried 37 = .ok (.istore 6, 2) := by decide +kernel
theorem dX15_isCarried_39 : decode cX15_isCarried 39 = .ok (.iconst 0, 1) := by decide +kernel
theorem dX15_isCarried_40 : decode cX15_isCarried 40 = .ok (.istore 7, 2) := by decide +kernel
theorem dX15_isCarried_42 : decode cX15_isCarried 42 = .ok (.aload 4, 2) := by decide +kernel
theorem dX15_isCarried_44 : decode cX15_isCarried 44 = .ok (.getfield 24, 3) := by decide +kernel
theorem dX15_isCarried_47 : decode cX15_isCarried 47 = .ok (.iload_n 2, 1) := by decide +kernel
theorem dX15_isCarried_48 : decode cX15_isCarried 48 = .ok (.if_icmp .ge 52, 3) := by decide +kernel
theorem dX15_isCarried_100 : decode cX15_isCarried 100 = .ok (.iload 7, 2) := by decide +kernel
theorem dX15_isCarried_102 : decode cX15_isCarried 102 = .ok (.ifCond .eq 15, 3) := by decide +kernel
theorem dX15_isCarried_117 : decode cX15_isCarried 117 = .ok (.iconst 0, 1) := by decide +kernel
theorem dX15_isCarried_118 : decode cX15_isCarried 118 = .ok (.ireturn, 1) := by decide +kernel
theorem dX15_isCarried_105 : decode cX15_isCarried 105 = .ok (.aload 4, 2) := by decide +kernel
theorem dX15_isCarried_107 : decode cX15_isCarried 107 = .ok (.getfield 67, 3) := by decide +kernel
theorem dX15_isCarried_110 : decode cX15_isCarried 110 = .ok (.aload_n 3, 1) := by decide +kernel
theorem dX15_isCarried_111 : decode cX15_isCarried 111 = .ok (.getfield 67, 3) := by decide +kernel
theorem dX15_isCarried_114 : decode cX15_isCarried 114 = .ok (.if_icmp .eq 5, 3) := by decide +kernel
theorem dX15_isCarried_119 : decode cX15_isCarried 119 = .ok (.iconst 0, 1) := by decide +kernel
theorem dX15_isCarried_120 : decode cX15_isCarried 120 = .ok (.istore 8, 2) := by decide +kernel
theorem dX15_isCarried_122 : decode cX15_isCarried 122 = .ok (.iload 8, 2) := by decide +kernel
theorem dX15_isCarried_124 : decode cX15_isCarried 124 = .ok (.aload_n 3, 1) := by decide +kernel
theorem dX15_isCarried_125 : decode cX15_isCarried 125 = .ok (.getfield 55, 3) := by decide +kernel
theorem dX15_isCarried_128 : decode cX15_isCarried 128 = .ok (.iload 5, 2) := by decide +kernel
theorem dX15_isCarried_130 : decode cX15_isCarried 130 = .ok (.isub, 1) := by decide +kernel
theorem dX15_isCarried_131 : decode cX15_isCarried 131 = .ok (.if_icmp .gt 48, 3) := by decide +kernel
theorem dX15_isCarried_179 : decode cX15_isCarried 179 = .ok (.iconst 1, 1) := by decide +kernel
theorem dX15_isCarried_180 : decode cX15_isCarried 180 = .ok (.ireturn, 1) := by decide +kernel
theorem dX15_isCarried_134 : decode cX15_isCarried 134 = .ok (.aload_n 3, 1) := by decide +kernel
theorem dX15_isCarried_135 : decode cX15_isCarried 135 = .ok (.getfield 70, 3) := by decide +kernel
theorem dX15_isCarried_138 : decode cX15_isCarried 138 = .ok (.sipush 500, 3) := by decide +kernel
theorem dX15_isCarried_141 : decode cX15_isCarried 141 = .ok (.aload_n 3, 1) := by decide +kernel
theorem dX15_isCarried_142 : decode cX15_isCarried 142 = .ok (.getfield 55, 3) := by decide +kernel
theorem dX15_isCarried_145 : decode cX15_isCarried 145 = .ok (.iadd, 1) := by decide +kernel
theorem dX15_isCarried_146 : decode cX15_isCarried 146 = .ok (.iload 8, 2) := by decide +kernel
theorem dX15_isCarried_148 : decode cX15_isCarried 148 = .ok (.isub, 1) := by decide +kernel
theorem dX15_isCarried_149 : decode cX15_isCarried 149 = .ok (.iaload, 1) := by decide +kernel
theorem dX15_isCarried_150 : decode cX15_isCarried 150 = .ok (.aload 4, 2) := by decide +kernel
theorem dX15_isCarried_152 : decode cX15_isCarried 152 = .ok (.getfield 70, 3) := by decide +kernel
theorem dX15_isCarried_155 : decode cX15_isCarried 155 = .ok (.sipush 500, 3) := by decide +kernel
theorem dX15_isCarried_158 : decode cX15_isCarried 158 = .ok (.aload 4, 2) := by decide +kernel
theorem dX15_isCarried_160 : decode cX15_isCarried 160 = .ok (.getfield 55, 3) := by decide +kernel
theorem dX15_isCarried_163 : decode cX15_isCarried 163 = .ok (.iadd, 1) := by decide +kernel
theorem dX15_isCarried_164 : decode cX15_isCarried 164 = .ok (.iload 8, 2) := by decide +kernel
theorem dX15_isCarried_166 : decode cX15_isCarried 166 = .ok (.isub, 1) := by decide +kernel
theorem dX15_isCarried_167 : decode cX15_isCarried 167 = .ok (.iaload, 1) := by decide +kernel
theorem dX15_isCarried_168 : decode cX15_isCarried 168 = .ok (.if_icmp .eq 5, 3) := by decide +kernel
theorem dX15_isCarried_173 : decode cX15_isCarried 173 = .ok (.iinc 8 1, 3) := by decide +kernel
theorem dX15_isCarried_176 : decode cX15_isCarried 176 = .ok (.goto (-54), 3) := by decide +kernel
theorem dX15_isCarried_171 : decode cX15_isCarried 171 = .ok (.iconst 0, 1) := by decide +kernel
theorem dX15_isCarried_172 : decode cX15_isCarried 172 = .ok (.ireturn, 1) := by decide +kernel
theorem dX15_isCarried_51 : decode cX15_isCarried 51 = .ok (.aload 4, 2) := by decide +kernel
theorem dX15_isCarried_53 : decode cX15_isCarried 53 = .ok (.getfield 58, 3) := by decide +kernel
theorem dX15_isCarried_56 : decode cX15_isCarried 56 = .ok (.istore 6, 2) := by decide +kernel
theorem dX15_isCarried_58 : decode cX15_isCarried 58 = .ok (.aload 4, 2) := by decide +kernel
set_option maxRecDepth 20000 in
theorem ggX15_isCarried_X14_step : GoodIn wsX15_isCarried wsX14_step := goodIn_ca (goodIn_r _ [25, 16, 14, 26, 17, 12, 13, 15, 10, 27, 2, 3, 4, 11, 28, 29, 30, 31, 32, 33, 8, 34, 35, 36, 37, 38, 39, 40, 41, 42, 43, 44, 50, 51, 52, 53, 54, 55, 56, 57, 58, 59, 60, 61, 62, 63, 64, 65, 66, 67, 68, 69, 70] rfl (by decide +kernel)) (goodIn_sub (fun _ h => List.mem_cons_of_mem _ (List.mem_append_right _ h)) (by decide +kernel))
set_option maxRecDepth 20000 in
theorem gX15_isCarried_X14_step : GoodIn wsX15_isCarried (wsV RX15 39 RX14 yX14_step wsX14_step) := goodIn_app (goodIn_of _ (by decide +kernel)) ggX15_isCarried_X14_step
theorem dX15_isCarried_60 : decode cX15_isCarried 60 = .ok (.invokevirtual 39, 3) := by decide +kernel
theorem dX15_isCarried_63 : decode cX15_isCarried 63 = .ok (.ifCond .ne 5, 3) := by decide +kernel
theorem dX15_isCarried_68 : decode cX15_isCarried 68 = .ok (.iload 5, 2) := by decide +kernel
theorem dX15_isCarried_70 : decode cX15_isCarried 70 = .ok (.aload 4, 2) := by decide +kernel
theorem dX15_isCarried_72 : decode cX15_isCarried 72 = .ok (.getfield 55, 3) := by decide +kernel
theorem dX15_isCarried_75 : decode cX15_isCarried 75 = .ok (.invokestatic 61, 3) := by decide +kernel
theorem dX15_isCarried_78 : decode cX15_isCarried 78 = .ok (.istore 5, 2) := by decide +kernel
theorem dX15_isCarried_80 : decode cX15_isCarried 80 = .ok (.aload 4, 2) := by decide +kernel
theorem dX15_isCarried_82 : decode cX15_isCarried 82 = .ok (.getfield 55, 3) := by decide +kernel
theorem dX15_isCarried_85 : decode cX15_isCarried 85 = .ok (.iload 6, 2) := by decide +kernel
theorem dX15_isCarried_87 : decode cX15_isCarried 87 = .ok (.if_icmp .le 7, 3) := by decide +kernel
theorem dX15_isCarried_94 : decode cX15_isCarried 94 = .ok (.iconst 0, 1) := by decide +kernel
theorem dX15_isCarried_95 : decode cX15_isCarried 95 = .ok (.istore 7, 2) := by decide +kernel
theorem dX15_isCarried_97 : decode cX15_isCarried 97 = .ok (.goto (-55), 3) := by decide +kernel
theorem dX15_isCarried_90 : decode cX15_isCarried 90 = .ok (.iconst 1, 1) := by decide +kernel
theorem dX15_isCarried_91 : decode cX15_isCarried 91 = .ok (.goto 4, 3) := by decide +kernel
theorem dX15_isCarried_17 : decode cX15_isCarried 17 = .ok (.iconst 0, 1) := by decide +kernel
theorem dX15_isCarried_18 : decode cX15_isCarried 18 = .ok (.ireturn, 1) := by decide +kernel
set_option maxHeartbeats 4000000 in
set_option maxRecDepth 100000 in
/-- X15_isCarried -/
theorem c_X15_isCarried (l : Launch) (dC : Nat → ClassId) (dI : Nat → Nat → Nat) (cI : ClassId) (ma wa va na tz n S G : Nat) (my de aa bb : Int32) (w mv nx : Nat → Int32) (hM : okM S G n w mv nx) (ra ta : Nat) (st ce lf rt sp hh ib : Int32) (f : Nat → Int32) (rb tb : Nat) (st2 ce2 lf2 rt2 sp2 hh2 ib2 : Int32) (f2 : Nat → Int32) (hR : okR S G (st, ce, lf, rt, sp, hh, ib, f)) (hR2 : okR S G (st2, ce2, lf2, rt2, sp2, hh2, ib2, f2)) (a b : Nat) (hab : a < b) (hb2 : b < 2 ^ 31) (hal : alvR (nI G) w mv nx b) (sz : Nat) : Met l yX15_isCarried wsX15_isCarried ({ frames := 6, cells := 0, slots := 0, locals := 160 }) (va_Pc [.ref ma, .int (nI a), .int (nI b), .ref ra, .ref rb] (cPC dC dI [(ma, .inr (18, [.int 0, .int (nI S), .int (nI G), .ref wa, .ref va, .ref na, .int my, .null, .int de, .int aa, .int bb, .ref tz])), (wa, .inl (cI, n, .inl w)), (va, .inl (cI, n, .inl mv)), (na, .inl (cI, n, .inl nx)), (ra, .inr (19, [.ref ma, .ref ta, .int st, .int ce, .int lf, .int rt, .int sp, .int hh, .int ib])), (ta, .inl (cI, 1001, .inl f)), (rb, .inr (19, [.ref ma, .ref tb, .int st2, .int ce2, .int lf2, .int rt2, .int sp2, .int hh2, .int ib2])), (tb, .inl (cI, 1001, .inl f2))] [(cI, .int)] sz)) (va_Qi (fun (r : Int32) (u : RunT × RunT) => ((r = 1 ∧ carP (nI G) w mv nx a b) ∨ (r = 0 ∧ ¬ carP (nI G) w mv nx a b)) ∧ okR S G u.1 ∧ okR S G u.2) (fun (u : RunT × RunT) t => cQB dC dI [(ma, .inr (18, [.int 0, .int (nI S), .int (nI G), .ref wa, .ref va, .ref na, .int my, .null, .int de, .int aa, .int bb, .ref tz])), (wa, .inl (cI, n, .inl w)), (va, .inl (cI, n, .inl mv)), (na, .inl (cI, n, .inl nx)), (ra, .inr (19, [.ref ma, .ref ta, .int u.1.1, .int u.1.2.1, .int u.1.2.2.1, .int u.1.2.2.2.1, .int u.1.2.2.2.2.1, .int u.1.2.2.2.2.2.1, .int u.1.2.2.2.2.2.2.1])), (ta, .inl (cI, 1001, .inl u.1.2.2.2.2.2.2.2)), (rb, .inr (19, [.ref ma, .ref tb, .int u.2.1, .int u.2.2.1, .int u.2.2.2.1, .int u.2.2.2.2.1, .int u.2.2.2.2.2.1, .int u.2.2.2.2.2.2.1, .int u.2.2.2.2.2.2.2.1])), (tb, .inl (cI, 1001, .inl u.2.2.2.2.2.2.2.2))] [(cI, .int)] (va_A [(ma, .inr (18, [.int 0, .int (nI S), .int (nI G), .ref wa, .ref va, .ref na, .int my, .null, .int de, .int aa, .int bb, .ref tz])), (wa, .inl (cI, n, .inl w)), (va, .inl (cI, n, .inl mv)), (na, .inl (cI, n, .inl nx)), (ra, .inr (19, [.ref ma, .ref ta, .int st, .int ce, .int lf, .int rt, .int sp, .int hh, .int ib])), (ta, .inl (cI, 1001, .inl f)), (rb, .inr (19, [.ref ma, .ref tb, .int st2, .int ce2, .int lf2, .int rt2, .int sp2, .int hh2, .int ib2])), (tb, .inl (cI, 1001, .inl f2))] sz) t) (va_A [(ma, .inr (18, [.int 0, .int (nI S), .int (nI G), .ref wa, .ref va, .ref na, .int my, .null, .int de, .int aa, .int bb, .ref tz])), (wa, .inl (cI, n, .inl w)), (va, .inl (cI, n, .inl mv)), (na, .inl (cI, n, .inl nx)), (ra, .inr (19, [.ref ma, .ref ta, .int st, .int ce, .int lf, .int rt, .int sp, .int hh, .int ib])), (ta, .inl (cI, 1001, .inl f)), (rb, .inr (19, [.ref ma, .ref tb, .int st2, .int ce2, .int lf2, .int rt2, .int sp2, .int hh2, .int ib2])), (tb, .inl (cI, 1001, .inl f2))] sz)) 0 0 (va_A [(ma, .inr (18, [.int 0, .int (nI S), .int (nI G), .ref wa, .ref va, .ref na, .int my, .null, .int de, .int aa, .int bb, .ref tz])), (wa, .inl (cI, n, .inl w)), (va, .inl (cI, n, .inl mv)), (na, .inl (cI, n, .inl nx)), (ra, .inr (19, [.ref ma, .ref ta, .int st, .int ce, .int lf, .int rt, .int sp, .int hh, .int ib])), (ta, .inl (cI, 1001, .inl f)), (rb, .inr (19, [.ref ma, .ref tb, .int st2, .int ce2, .int lf2, .int rt2, .int sp2, .int hh2, .int ib2])), (tb, .inl (cI, 1001, .inl f2))] sz) := by
  refine Met.ofW (cc := cX15_isCarried) (maxL := 9) (ret := (some .boolean)) (by decide) rfl ?_
  intro p e s m args below meth c s₁ B hml hv
  obtain ⟨rfl, hsz, hP, hK, hD0, hN⟩ := hv
  have hx := B.exec
  have hb := B.bytes
  have hr := B.returns
  have hts := atoms_spec (ws := wsX15_isCarried) B.pre
  have hown : s.vm.findClass RX15 = some m.cls := findClass_of_methodNamed B.named
  have hlocks := B.notSynchronized
  subst hsz
  have hD := hD0.self (sz := s.heap.size)
  generalize hAe : va_A [(ma, .inr (18, [.int 0, .int (nI S), .int (nI G), .ref wa, .ref va, .ref na, .int my, .null, .int de, .int aa, .int bb, .ref tz])), (wa, .inl (cI, n, .inl w)), (va, .inl (cI, n, .inl mv)), (na, .inl (cI, n, .inl nx)), (ra, .inr (19, [.ref ma, .ref ta, .int st, .int ce, .int lf, .int rt, .int sp, .int hh, .int ib])), (ta, .inl (cI, 1001, .inl f)), (rb, .inr (19, [.ref ma, .ref tb, .int st2, .int ce2, .int lf2, .int rt2, .int sp2, .int hh2, .int ib2])), (tb, .inl (cI, 1001, .inl f2))] s.heap.size = A at hD ⊢
  have hA : ∀ q : Nat, s.heap.size ≤ q → A q := fun q h => by rw [← hAe]; exact Or.inr h
  have hS : va_S A s.heap s.heap [] := va_S.rf
  have hP : va_P (dC, dI) vwCl [(ma, .inr (18, [.int 0, .int (nI S), .int (nI G), .ref wa, .ref va, .ref na, .int my, .null, .int de, .int aa, .int bb, .ref tz])), (wa, .inl (cI, n, .inl w)), (va, .inl (cI, n, .inl mv)), (na, .inl (cI, n, .inl nx)), (ra, .inr (19, [.ref ma, .ref ta, .int st, .int ce, .int lf, .int rt, .int sp, .int hh, .int ib])), (ta, .inl (cI, 1001, .inl f)), (rb, .inr (19, [.ref ma, .ref tb, .int st2, .int ce2, .int lf2, .int rt2, .int sp2, .int hh2, .int ib2])), (tb, .inl (cI, 1001, .inl f2))] s.heap := hP
  have hD : va_D A [(ma, .inr (18, [.int 0, .int (nI S), .int (nI G), .ref wa, .ref va, .ref na, .int my, .null, .int de, .int aa, .int bb, .ref tz])), (wa, .inl (cI, n, .inl w)), (va, .inl (cI, n, .inl mv)), (na, .inl (cI, n, .inl nx)), (ra, .inr (19, [.ref ma, .ref ta, .int st, .int ce, .int lf, .int rt, .int sp, .int hh, .int ib])), (ta, .inl (cI, 1001, .inl f)), (rb, .inr (19, [.ref ma, .ref tb, .int st2, .int ce2, .int lf2, .int rt2, .int sp2, .int hh2, .int ib2])), (tb, .inl (cI, 1001, .inl f2))] := hD
  have hl := lv_entry ([.ref ma, .int (nI a), .int (nI b), .ref ra, .ref rb]) (n := 9) (Nat.le_of_ble_eq_true rfl)
  rw [lg_entry_eq]
  generalize (lg_sl ([.ref ma, .int (nI a), .int (nI b), .ref ra, .ref rb]) ++ List.replicate (9 - (lg_sl ([.ref ma, .int (nI a), .int (nI b), .ref ra, .ref rb])).length) Slot.unset).toArray = ls at hl ⊢
  have hl : lv_has ls 9 [(0, .ref ma), (1, .int (nI a)), (2, .int (nI b)), (3, .ref ra), (4, .ref rb)] := hl
  have iWX14 : ∀ w ∈ u_ws RX14 TX14 9, w ∈ wsX15_isCarried := by decide +kernel
  refine lv_aload_n hx hb dX15_isCarried_0 rfl (lv_at hl 3 rfl) ?_
  have hPc := hP.sub (ws' := [(ra, .inr (19, [.ref ma, .ref ta, .int st, .int ce, .int lf, .int rt, .int sp, .int hh, .int ib])), (ta, .inl (cI, 1001, .inl f))]) [4, 5] rfl
  have hDc := hD.sub (ws' := [(ra, .inr (19, [.ref ma, .ref ta, .int st, .int ce, .int lf, .int rt, .int sp, .int hh, .int ib])), (ta, .inl (cI, 1001, .inl f))]) [4, 5] (by decide) rfl
  have hKc := hK.sub (tys' := [(cI, .int)]) [0] rfl
  have hFc := va_free (wc := [(ra, .inr (19, [.ref ma, .ref ta, .int st, .int ce, .int lf, .int rt, .int sp, .int hh, .int ib])), (ta, .inl (cI, 1001, .inl f))]) hD hS hA [4, 5] rfl
  refine va_callv (va_runV (As := []) (rest := []) ⟨hx, hb, hml, hown, hts⟩ (c_X14_begin l dC dI cI ma S G ra ta st ce lf rt sp hh ib f hR s.heap.size) (cwV 0 hts gX15_isCarried_X14_begin rfl rfl rfl (by decide +kernel) ⟨Nat.le_of_ble_eq_true rfl, Nat.le_of_ble_eq_true rfl⟩) (pcV hPc hDc hKc hN (ci := 19) (q0 := 0) rfl rfl) rfl rfl hl.1 rfl (lv_room (Nat.le_of_ble_eq_true rfl)) dX15_isCarried_1 ⟨Nat.le_of_ble_eq_true rfl, Nat.le_of_ble_eq_true rfl⟩) hS (fun q _ h => hFc q h) hFc (fun u t H1 locs ht hvm hw_1 hB hz1 hk1 hS => ?_)
  obtain ⟨hP1, hK1, hD1⟩ := hB
  rw [ht] at hP1
  try dsimp only at hw_1
  obtain ⟨hP, hD⟩ := va_join (wr := [(ma, .inr (18, [.int 0, .int (nI S), .int (nI G), .ref wa, .ref va, .ref na, .int my, .null, .int de, .int aa, .int bb, .ref tz])), (wa, .inl (cI, n, .inl w)), (va, .inl (cI, n, .inl mv)), (na, .inl (cI, n, .inl nx)), (rb, .inr (19, [.ref ma, .ref tb, .int st2, .int ce2, .int lf2, .int rt2, .int sp2, .int hh2, .int ib2])), (tb, .inl (cI, 1001, .inl f2))]) (w1 := [(ra, .inr (19, [.ref ma, .ref ta, .int 0, .int 0, .int 0, .int 0, .int 0, .int 0, .int 0])), (ta, .inl (cI, 1001, .inl (fun _ => 0)))]) hP hD [4, 5] [0, 1, 2, 3, 6, 7] rfl rfl (by decide) (by decide) hk1 hFc hP1 hD1
  generalize H1 = H at hP hS ⊢
  have hP : va_P (dC, dI) vwCl [(ma, .inr (18, [.int 0, .int (nI S), .int (nI G), .ref wa, .ref va, .ref na, .int my, .null, .int de, .int aa, .int bb, .ref tz])), (wa, .inl (cI, n, .inl w)), (va, .inl (cI, n, .inl mv)), (na, .inl (cI, n, .inl nx)), (rb, .inr (19, [.ref ma, .ref tb, .int st2, .int ce2, .int lf2, .int rt2, .int sp2, .int hh2, .int ib2])), (tb, .inl (cI, 1001, .inl f2)), (ra, .inr (19, [.ref ma, .ref ta, .int 0, .int 0, .int 0, .int 0, .int 0, .int 0, .int 0])), (ta, .inl (cI, 1001, .inl (fun _ => 0)))] H := hP
  have hD : va_D A [(ma, .inr (18, [.int 0, .int (nI S), .int (nI G), .ref wa, .ref va, .ref na, .int my, .null, .int de, .int aa, .int bb, .ref tz])), (wa, .inl (cI, n, .inl w)), (va, .inl (cI, n, .inl mv)), (na, .inl (cI, n, .inl nx)), (rb, .inr (19, [.ref ma, .ref tb, .int st2, .int ce2, .int lf2, .int rt2, .int sp2, .int hh2, .int ib2])), (tb, .inl (cI, 1001, .inl f2)), (ra, .inr (19, [.ref ma, .ref ta, .int 0, .int 0, .int 0, .int 0, .int 0, .int 0, .int 0])), (ta, .inl (cI, 1001, .inl (fun _ => 0)))] := hD
  refine lv_aload hx hb dX15_isCarried_4 (lv_at hl 4 rfl) ?_
  have hPc := hP.sub (ws' := [(rb, .inr (19, [.ref ma, .ref tb, .int st2, .int ce2, .int lf2, .int rt2, .int sp2, .int hh2, .int ib2])), (tb, .inl (cI, 1001, .inl f2))]) [4, 5] rfl
  have hDc := hD.sub (ws' := [(rb, .inr (19, [.ref ma, .ref tb, .int st2, .int ce2, .int lf2, .int rt2, .int sp2, .int hh2, .int ib2])), (tb, .inl (cI, 1001, .inl f2))]) [4, 5] (by decide) rfl
  have hKc := hK.sub (tys' := [(cI, .int)]) [0] rfl
  have hFc := va_free (wc := [(rb, .inr (19, [.ref ma, .ref tb, .int st2, .int ce2, .int lf2, .int rt2, .int sp2, .int hh2, .int ib2])), (tb, .inl (cI, 1001, .inl f2))]) hD hS hA [4, 5] rfl
  refine va_callv (va_runV (As := []) (rest := []) ⟨hx, hb, hml, hown, hts⟩ (c_X14_begin l dC dI cI ma S G rb tb st2 ce2 lf2 rt2 sp2 hh2 ib2 f2 hR2 H.size) (cwV 0 hts gX15_isCarried_X14_begin rfl rfl rfl (by decide +kernel) ⟨Nat.le_of_ble_eq_true rfl, Nat.le_of_ble_eq_true rfl⟩) (pcV hPc hDc hKc hN (ci := 19) (q0 := 0) rfl rfl) rfl rfl hl.1 rfl (lv_room (Nat.le_of_ble_eq_true rfl)) dX15_isCarried_6 ⟨Nat.le_of_ble_eq_true rfl, Nat.le_of_ble_eq_true rfl⟩) hS (fun q _ h => hFc q h) hFc (fun u t H1 locs ht hvm hw_2 hB hz1 hk1 hS => ?_)
  obtain ⟨hP1, hK1, hD1⟩ := hB
  rw [ht] at hP1
  try dsimp only at hw_2
  obtain ⟨hP, hD⟩ := va_join (wr := [(ma, .inr (18, [.int 0, .int (nI S), .int (nI G), .ref wa, .ref va, .ref na, .int my, .null, .int de, .int aa, .int bb, .ref tz])), (wa, .inl (cI, n, .inl w)), (va, .inl (cI, n, .inl mv)), (na, .inl (cI, n, .inl nx)), (ra, .inr (19, [.ref ma, .ref ta, .int 0, .int 0, .int 0, .int 0, .int 0, .int 0, .int 0])), (ta, .inl (cI, 1001, .inl (fun _ => 0)))]) (w1 := [(rb, .inr (19, [.ref ma, .ref tb, .int 0, .int 0, .int 0, .int 0, .int 0, .int 0, .int 0])), (tb, .inl (cI, 1001, .inl (fun _ => 0)))]) hP hD [4, 5] [0, 1, 2, 3, 6, 7] rfl rfl (by decide) (by decide) hk1 hFc hP1 hD1
  generalize H1 = H at hP hS ⊢
  have hP : va_P (dC, dI) vwCl [(ma, .inr (18, [.int 0, .int (nI S), .int (nI G), .ref wa, .ref va, .ref na, .int my, .null, .int de, .int aa, .int bb, .ref tz])), (wa, .inl (cI, n, .inl w)), (va, .inl (cI, n, .inl mv)), (na, .inl (cI, n, .inl nx)), (ra, .inr (19, [.ref ma, .ref ta, .int 0, .int 0, .int 0, .int 0, .int 0, .int 0, .int 0])), (ta, .inl (cI, 1001, .inl (fun _ => 0))), (rb, .inr (19, [.ref ma, .ref tb, .int 0, .int 0, .int 0, .int 0, .int 0, .int 0, .int 0])), (tb, .inl (cI, 1001, .inl (fun _ => 0)))] H := hP
  have hD : va_D A [(ma, .inr (18, [.int 0, .int (nI S), .int (nI G), .ref wa, .ref va, .ref na, .int my, .null, .int de, .int aa, .int bb, .ref tz])), (wa, .inl (cI, n, .inl w)), (va, .inl (cI, n, .inl mv)), (na, .inl (cI, n, .inl nx)), (ra, .inr (19, [.ref ma, .ref ta, .int 0, .int 0, .int 0, .int 0, .int 0, .int 0, .int 0])), (ta, .inl (cI, 1001, .inl (fun _ => 0))), (rb, .inr (19, [.ref ma, .ref tb, .int 0, .int 0, .int 0, .int 0, .int 0, .int 0, .int 0])), (tb, .inl (cI, 1001, .inl (fun _ => 0)))] := hD
  refine lv_aload_n hx hb dX15_isCarried_9 rfl (lv_at hl 3 rfl) ?_
  refine lv_iload_n hx hb dX15_isCarried_10 rfl (lv_at hl 1 rfl) ?_
  have hPc := hP.sub (ws' := [(ma, .inr (18, [.int 0, .int (nI S), .int (nI G), .ref wa, .ref va, .ref na, .int my, .null, .int de, .int aa, .int bb, .ref tz])), (wa, .inl (cI, n, .inl w)), (va, .inl (cI, n, .inl mv)), (na, .inl (cI, n, .inl nx)), (ra, .inr (19, [.ref ma, .ref ta, .int 0, .int 0, .int 0, .int 0, .int 0, .int 0, .int 0])), (ta, .inl (cI, 1001, .inl (fun _ => 0)))]) [0, 1, 2, 3, 4, 5] rfl
  have hDc := hD.sub (ws' := [(ma, .inr (18, [.int 0, .int (nI S), .int (nI G), .ref wa, .ref va, .ref na, .int my, .null, .int de, .int aa, .int bb, .ref tz])), (wa, .inl (cI, n, .inl w)), (va, .inl (cI, n, .inl mv)), (na, .inl (cI, n, .inl nx)), (ra, .inr (19, [.ref ma, .ref ta, .int 0, .int 0, .int 0, .int 0, .int 0, .int 0, .int 0])), (ta, .inl (cI, 1001, .inl (fun _ => 0)))]) [0, 1, 2, 3, 4, 5] (by decide) rfl
  have hKc := hK.sub (tys' := [(cI, .int)]) [0] rfl
  have hFc := va_free (wc := [(ma, .inr (18, [.int 0, .int (nI S), .int (nI G), .ref wa, .ref va, .ref na, .int my, .null, .int de, .int aa, .int bb, .ref tz])), (wa, .inl (cI, n, .inl w)), (va, .inl (cI, n, .inl mv)), (na, .inl (cI, n, .inl nx)), (ra, .inr (19, [.ref ma, .ref ta, .int 0, .int 0, .int 0, .int 0, .int 0, .int 0, .int 0])), (ta, .inl (cI, 1001, .inl (fun _ => 0)))]) hD hS hA [0, 1, 2, 3, 4, 5] rfl
  refine va_calli (va_runS (As := [.ref ra, .int (nI a)]) (rest := []) ⟨hx, hb, hml, hown, hts⟩ (c_X15_isRecord l dC dI cI ma wa va na tz n S G my de aa bb w mv nx hM ra ta a (by omega) (alvR_le hal (Nat.le_of_lt hab)) H.size) (va_cwS 2 hts gX15_isCarried_X15_isRecord rfl rfl rfl (by decide +kernel) ⟨Nat.le_of_ble_eq_true rfl, Nat.le_of_ble_eq_true rfl⟩) (pcS hPc hDc hKc hN) rfl rfl hl.1 rfl (lv_room (Nat.le_of_ble_eq_true rfl)) dX15_isCarried_11 ⟨Nat.le_of_ble_eq_true rfl, Nat.le_of_ble_eq_true rfl⟩) hS (fun q _ h => hFc q h) hFc (fun r_11 u t H1 locs ht hvm hw_12 hB hz1 hk1 hS => ?_)
  obtain ⟨st_3, ce_4, lf_5, rt_6, sp_7, hh_8, ib_9, f_10⟩ := u
  obtain ⟨hP1, hK1, hD1⟩ := hB
  rw [ht] at hP1
  try dsimp only at hw_12
  obtain ⟨hP, hD⟩ := va_join (wr := [(rb, .inr (19, [.ref ma, .ref tb, .int 0, .int 0, .int 0, .int 0, .int 0, .int 0, .int 0])), (tb, .inl (cI, 1001, .inl (fun _ => 0)))]) (w1 := [(ma, .inr (18, [.int 0, .int (nI S), .int (nI G), .ref wa, .ref va, .ref na, .int my, .null, .int de, .int aa, .int bb, .ref tz])), (wa, .inl (cI, n, .inl w)), (va, .inl (cI, n, .inl mv)), (na, .inl (cI, n, .inl nx)), (ra, .inr (19, [.ref ma, .ref ta, .int st_3, .int ce_4, .int lf_5, .int rt_6, .int sp_7, .int hh_8, .int ib_9])), (ta, .inl (cI, 1001, .inl f_10))]) hP hD [0, 1, 2, 3, 4, 5] [6, 7] rfl rfl (by decide) (by decide) hk1 hFc hP1 hD1
  generalize H1 = H at hP hS ⊢
  have hP : va_P (dC, dI) vwCl [(rb, .inr (19, [.ref ma, .ref tb, .int 0, .int 0, .int 0, .int 0, .int 0, .int 0, .int 0])), (tb, .inl (cI, 1001, .inl (fun _ => 0))), (ma, .inr (18, [.int 0, .int (nI S), .int (nI G), .ref wa, .ref va, .ref na, .int my, .null, .int de, .int aa, .int bb, .ref tz])), (wa, .inl (cI, n, .inl w)), (va, .inl (cI, n, .inl mv)), (na, .inl (cI, n, .inl nx)), (ra, .inr (19, [.ref ma, .ref ta, .int st_3, .int ce_4, .int lf_5, .int rt_6, .int sp_7, .int hh_8, .int ib_9])), (ta, .inl (cI, 1001, .inl f_10))] H := hP
  have hD : va_D A [(rb, .inr (19, [.ref ma, .ref tb, .int 0, .int 0, .int 0, .int 0, .int 0, .int 0, .int 0])), (tb, .inl (cI, 1001, .inl (fun _ => 0))), (ma, .inr (18, [.int 0, .int (nI S), .int (nI G), .ref wa, .ref va, .ref na, .int my, .null, .int de, .int aa, .int bb, .ref tz])), (wa, .inl (cI, n, .inl w)), (va, .inl (cI, n, .inl mv)), (na, .inl (cI, n, .inl nx)), (ra, .inr (19, [.ref ma, .ref ta, .int st_3, .int ce_4, .int lf_5, .int rt_6, .int sp_7, .int hh_8, .int ib_9])), (ta, .inl (cI, 1001, .inl f_10))] := hD
  have hsE := hw_12.1
  refine lv_if_ne (tgt := 19) hx hb dX15_isCarried_14 (by decide) (fun c14_13 => ?_) (fun c14_13 => ?_)
  · have hc14 := c14_13
    refine lv_aload hx hb dX15_isCarried_19 (lv_at hl 4 rfl) ?_
    refine lv_aload_n hx hb dX15_isCarried_21 rfl (lv_at hl 3 rfl) ?_
    have hPc := hP.sub (ws' := [(rb, .inr (19, [.ref ma, .ref tb, .int 0, .int 0, .int 0, .int 0, .int 0, .int 0, .int 0])), (tb, .inl (cI, 1001, .inl (fun _ => 0))), (ra, .inr (19, [.ref ma, .ref ta, .int st_3, .int ce_4, .int lf_5, .int rt_6, .int sp_7, .int hh_8, .int ib_9])), (ta, .inl (cI, 1001, .inl f_10))]) [0, 1, 6, 7] rfl
    have hDc := hD.sub (ws' := [(rb, .inr (19, [.ref ma, .ref tb, .int 0, .int 0, .int 0, .int 0, .int 0, .int 0, .int 0])), (tb, .inl (cI, 1001, .inl (fun _ => 0))), (ra, .inr (19, [.ref ma, .ref ta, .int st_3, .int ce_4, .int lf_5, .int rt_6, .int sp_7, .int hh_8, .int ib_9])), (ta, .inl (cI, 1001, .inl f_10))]) [0, 1, 6, 7] (by decide) rfl
    have hKc := hK.sub (tys' := [(cI, .int)]) [0] rfl
    have hFc := va_free (wc := [(rb, .inr (19, [.ref ma, .ref tb, .int 0, .int 0, .int 0, .int 0, .int 0, .int 0, .int 0])), (tb, .inl (cI, 1001, .inl (fun _ => 0))), (ra, .inr (19, [.ref ma, .ref ta, .int st_3, .int ce_4, .int lf_5, .int rt_6, .int sp_7, .int hh_8, .int ib_9])), (ta, .inl (cI, 1001, .inl f_10))]) hD hS hA [0, 1, 6, 7] rfl
    refine va_callv (va_runV (As := [.ref ra]) (rest := []) ⟨hx, hb, hml, hown, hts⟩ (c_X14_become l dC dI cI ma S G S G rb tb 0 0 0 0 0 0 0 (fun _ => 0) ra ta ma st_3 ce_4 lf_5 rt_6 sp_7 hh_8 ib_9 f_10 (okR_zero hM.2.1 hM.2.2.2.1) (by rw [hsE]; exact seqR_ok hM _) H.size) (cwV 1 hts gX15_isCarried_X14_become rfl rfl rfl (by decide +kernel) ⟨Nat.le_of_ble_eq_true rfl, Nat.le_of_ble_eq_true rfl⟩) (pcV hPc hDc hKc hN (ci := 19) (q0 := 0) rfl rfl) rfl rfl hl.1 rfl (lv_room (Nat.le_of_ble_eq_true rfl)) dX15_isCarried_22 ⟨Nat.le_of_ble_eq_true rfl, Nat.le_of_ble_eq_true rfl⟩) hS (fun q _ h => hFc q h) hFc (fun u t H1 locs ht hvm hw_14 hB hz1 hk1 hS => ?_)
    obtain ⟨hP1, hK1, hD1⟩ := hB
    rw [ht] at hP1
    try dsimp only at hw_14
    obtain ⟨hP, hD⟩ := va_join (wr := [(ma, .inr (18, [.int 0, .int (nI S), .int (nI G), .ref wa, .ref va, .ref na, .int my, .null, .int de, .int aa, .int bb, .ref tz])), (wa, .inl (cI, n, .inl w)), (va, .inl (cI, n, .inl mv)), (na, .inl (cI, n, .inl nx))]) (w1 := [(rb, .inr (19, [.ref ma, .ref tb, .int st_3, .int ce_4, .int lf_5, .int rt_6, .int sp_7, .int hh_8, .int ib_9])), (tb, .inl (cI, 1001, .inl f_10)), (ra, .inr (19, [.ref ma, .ref ta, .int st_3, .int ce_4, .int lf_5, .int rt_6, .int sp_7, .int hh_8, .int ib_9])), (ta, .inl (cI, 1001, .inl f_10))]) hP hD [0, 1, 6, 7] [2, 3, 4, 5] rfl rfl (by decide) (by decide) hk1 hFc hP1 hD1
    generalize H1 = H at hP hS ⊢
    have hP : va_P (dC, dI) vwCl [(ma, .inr (18, [.int 0, .int (nI S), .int (nI G), .ref wa, .ref va, .ref na, .int my, .null, .int de, .int aa, .int bb, .ref tz])), (wa, .inl (cI, n, .inl w)), (va, .inl (cI, n, .inl mv)), (na, .inl (cI, n, .inl nx)), (rb, .inr (19, [.ref ma, .ref tb, .int st_3, .int ce_4, .int lf_5, .int rt_6, .int sp_7, .int hh_8, .int ib_9])), (tb, .inl (cI, 1001, .inl f_10)), (ra, .inr (19, [.ref ma, .ref ta, .int st_3, .int ce_4, .int lf_5, .int rt_6, .int sp_7, .int hh_8, .int ib_9])), (ta, .inl (cI, 1001, .inl f_10))] H := hP
    have hD : va_D A [(ma, .inr (18, [.int 0, .int (nI S), .int (nI G), .ref wa, .ref va, .ref na, .int my, .null, .int de, .int aa, .int bb, .ref tz])), (wa, .inl (cI, n, .inl w)), (va, .inl (cI, n, .inl mv)), (na, .inl (cI, n, .inl nx)), (rb, .inr (19, [.ref ma, .ref tb, .int st_3, .int ce_4, .int lf_5, .int rt_6, .int sp_7, .int hh_8, .int ib_9])), (tb, .inl (cI, 1001, .inl f_10)), (ra, .inr (19, [.ref ma, .ref ta, .int st_3, .int ce_4, .int lf_5, .int rt_6, .int sp_7, .int hh_8, .int ib_9])), (ta, .inl (cI, 1001, .inl f_10))] := hD
    refine lv_aload hx hb dX15_isCarried_25 (lv_at hl 4 rfl) ?_
    refine va_getN (D := (dC, dI)) (ci := 19) (v := .int ce_4) (C := RX14) (T := TX14) (N := 9) hx hb hts iWX14 hown hK hP 4 rfl rfl 3 (by decide) (va_Nw.use rfl (hN (.fieldLinkNest RX15 55 "BeaverhallModel$Run" "cell" "I" "BeaverhallModel") (by decide +kernel))) (fun _ h9 => h9) rfl dX15_isCarried_27 ?_
    refine lv_istore (lv' := [(5, .int ce_4), (0, .ref ma), (1, .int (nI a)), (2, .int (nI b)), (3, .ref ra), (4, .ref rb)]) hx hb dX15_isCarried_30 hl (by decide) rfl (fun ls hl => ?_)
    refine lv_aload hx hb dX15_isCarried_32 (lv_at hl 5 rfl) ?_
    refine va_getN (D := (dC, dI)) (ci := 19) (v := .int rt_6) (C := RX14) (T := TX14) (N := 9) hx hb hts iWX14 hown hK hP 4 rfl rfl 5 (by decide) (va_Nw.use rfl (hN (.fieldLinkNest RX15 58 "BeaverhallModel$Run" "right" "I" "BeaverhallModel") (by decide +kernel))) (fun _ h9 => h9) rfl dX15_isCarried_34 ?_
    refine lv_istore (lv' := [(6, .int rt_6), (5, .int ce_4), (0, .ref ma), (1, .int (nI a)), (2, .int (nI b)), (3, .ref ra), (4, .ref rb)]) hx hb dX15_isCarried_37 hl (by decide) rfl (fun ls hl => ?_)
    refine lv_iconst (v := 0) hx hb dX15_isCarried_39 (by decide) ?_
    refine lv_istore (lv' := [(7, .int 0), (6, .int rt_6), (5, .int ce_4), (0, .ref ma), (1, .int (nI a)), (2, .int (nI b)), (3, .ref ra), (4, .ref rb)]) hx hb dX15_isCarried_40 hl (by decide) rfl (fun ls hl => ?_)
    refine lp_go (σ := Int32 × Int32 × Int32 × Nat × Int32 × Int32 × Int32 × Int32 × Int32 × Int32 × Int32 × (Nat → Int32)) (fun x => match x with | (le_42, mo_42, z_42, i_42, st2_42, ce2_42, lf2_42, rt2_42, sp2_42, hh2_42, ib2_42, f2_42) => a ≤ i_42 ∧ i_42 ≤ b ∧ (st2_42, ce2_42, lf2_42, rt2_42, sp2_42, hh2_42, ib2_42, f2_42) = seqR (nI G) w mv nx i_42 ∧ le_42 = nI (leastN (nI G) w mv nx a (i_42 - a)) - 500 ∧ ((z_42 = 1 ∧ a < i_42 ∧ recP (nI G) w mv nx i_42) ∨ (z_42 = 0 ∧ (i_42 = a ∨ ¬ recP (nI G) w mv nx i_42)))) (fun x => match x with | (le_42, mo_42, z_42, i_42, st2_42, ce2_42, lf2_42, rt2_42, sp2_42, hh2_42, ib2_42, f2_42) => b - i_42) (fun x => [(ma, .inr (18, [.int 0, .int (nI S), .int (nI G), .ref wa, .ref va, .ref na, .int my, .null, .int de, .int aa, .int bb, .ref tz])), (wa, .inl (cI, n, .inl w)), (va, .inl (cI, n, .inl mv)), (na, .inl (cI, n, .inl nx)), (ra, .inr (19, [.ref ma, .ref ta, .int st_3, .int ce_4, .int lf_5, .int rt_6, .int sp_7, .int hh_8, .int ib_9])), (ta, .inl (cI, 1001, .inl f_10)), (rb, .inr (19, [.ref ma, .ref tb, .int x.2.2.2.2.1, .int x.2.2.2.2.2.1, .int x.2.2.2.2.2.2.1, .int x.2.2.2.2.2.2.2.1, .int x.2.2.2.2.2.2.2.2.1, .int x.2.2.2.2.2.2.2.2.2.1, .int x.2.2.2.2.2.2.2.2.2.2.1])), (tb, .inl (cI, 1001, .inl x.2.2.2.2.2.2.2.2.2.2.2))]) (fun x => [(3, .ref ra), (4, .ref rb), (1, .int (nI a)), (2, .int (nI b)), (5, .int x.1), (6, .int x.2.1), (7, .int x.2.2.1)]) (fun _ => []) (fun x hI ih42 H locs hP hD hS ls hl => ?_) (ce_4, rt_6, 0, a, st_3, ce_4, lf_5, rt_6, sp_7, hh_8, ib_9, f_10) ⟨Nat.le_refl _, Nat.le_of_lt hab, hsE, by rw [Nat.sub_self]; show _ = nI (cellN (nI G) w mv nx a) - 500; rw [← seqR_ce hM a, ← hsE], Or.inr ⟨rfl, Or.inl rfl⟩⟩ (hP.sub [0, 1, 2, 3, 6, 7, 4, 5] rfl) (hD.sub [0, 1, 2, 3, 6, 7, 4, 5] (by decide) rfl) hS (lv_sub hl [6, 7, 4, 5, 2, 1, 0] rfl)
    obtain ⟨le_42, mo_42, z_42, i_42, st2_42, ce2_42, lf2_42, rt2_42, sp2_42, hh2_42, ib2_42, f2_42⟩ := x
    have hP : va_P (dC, dI) vwCl [(ma, .inr (18, [.int 0, .int (nI S), .int (nI G), .ref wa, .ref va, .ref na, .int my, .null, .int de, .int aa, .int bb, .ref tz])), (wa, .inl (cI, n, .inl w)), (va, .inl (cI, n, .inl mv)), (na, .inl (cI, n, .inl nx)), (ra, .inr (19, [.ref ma, .ref ta, .int st_3, .int ce_4, .int lf_5, .int rt_6, .int sp_7, .int hh_8, .int ib_9])), (ta, .inl (cI, 1001, .inl f_10)), (rb, .inr (19, [.ref ma, .ref tb, .int st2_42, .int ce2_42, .int lf2_42, .int rt2_42, .int sp2_42, .int hh2_42, .int ib2_42])), (tb, .inl (cI, 1001, .inl f2_42))] H := hP
    have hD : va_D A [(ma, .inr (18, [.int 0, .int (nI S), .int (nI G), .ref wa, .ref va, .ref na, .int my, .null, .int de, .int aa, .int bb, .ref tz])), (wa, .inl (cI, n, .inl w)), (va, .inl (cI, n, .inl mv)), (na, .inl (cI, n, .inl nx)), (ra, .inr (19, [.ref ma, .ref ta, .int st_3, .int ce_4, .int lf_5, .int rt_6, .int sp_7, .int hh_8, .int ib_9])), (ta, .inl (cI, 1001, .inl f_10)), (rb, .inr (19, [.ref ma, .ref tb, .int st2_42, .int ce2_42, .int lf2_42, .int rt2_42, .int sp2_42, .int hh2_42, .int ib2_42])), (tb, .inl (cI, 1001, .inl f2_42))] := hD
    have hl : lv_has ls 9 [(3, .ref ra), (4, .ref rb), (1, .int (nI a)), (2, .int (nI b)), (5, .int le_42), (6, .int mo_42), (7, .int z_42)] := hl
    try dsimp only at hI
    have ih42 := ih42
    refine lv_aload hx hb dX15_isCarried_42 (lv_at hl 1 rfl) ?_
    refine va_getN (D := (dC, dI)) (ci := 19) (v := .int sp2_42) (C := RX14) (T := TX14) (N := 9) hx hb hts iWX14 hown hK hP 6 rfl rfl 6 (by decide) (va_Nw.use rfl (hN (.fieldLinkNest RX15 24 "BeaverhallModel$Run" "steps" "I" "BeaverhallModel") (by decide +kernel))) (fun _ h9 => h9) rfl dX15_isCarried_44 ?_
    refine lv_iload_n hx hb dX15_isCarried_47 rfl (lv_at hl 3 rfl) ?_
    refine lv_icmp_ge (tgt := 100) hx hb dX15_isCarried_48 (by decide) (fun c48_15 => ?_) (fun c48_15 => ?_)
    · have hsp2 := (seqR_al (alvR_le hal hI.2.1)).1
      rw [← hI.2.2.1] at hsp2
      dsimp only at hsp2
      have hib : i_42 = b := nI_end hb2 hI.2.1 (by rw [← hsp2]; exact c48_15)
      subst hib
      refine lv_iload hx hb dX15_isCarried_100 (lv_at hl 6 rfl) ?_
      refine lv_if_eq (tgt := 117) hx hb dX15_isCarried_102 (by decide) (fun c102_16 => ?_) (fun c102_16 => ?_)
      · refine lv_iconst (v := 0) hx hb dX15_isCarried_117 (by decide) ?_
        have hP9 := hP.sub (ws' := [(ma, .inr (18, [.int 0, .int (nI S), .int (nI G), .ref wa, .ref va, .ref na, .int my, .null, .int de, .int aa, .int bb, .ref tz])), (wa, .inl (cI, n, .inl w)), (va, .inl (cI, n, .inl mv)), (na, .inl (cI, n, .inl nx)), (ra, .inr (19, [.ref ma, .ref ta, .int st_3, .int ce_4, .int lf_5, .int rt_6, .int sp_7, .int hh_8, .int ib_9])), (ta, .inl (cI, 1001, .inl f_10)), (rb, .inr (19, [.ref ma, .ref tb, .int st2_42, .int ce2_42, .int lf2_42, .int rt2_42, .int sp2_42, .int hh2_42, .int ib2_42])), (tb, .inl (cI, 1001, .inl f2_42))]) [0, 1, 2, 3, 4, 5, 6, 7] rfl
        have hD9 := hD.sub (ws' := [(ma, .inr (18, [.int 0, .int (nI S), .int (nI G), .ref wa, .ref va, .ref na, .int my, .null, .int de, .int aa, .int bb, .ref tz])), (wa, .inl (cI, n, .inl w)), (va, .inl (cI, n, .inl mv)), (na, .inl (cI, n, .inl nx)), (ra, .inr (19, [.ref ma, .ref ta, .int st_3, .int ce_4, .int lf_5, .int rt_6, .int sp_7, .int hh_8, .int ib_9])), (ta, .inl (cI, 1001, .inl f_10)), (rb, .inr (19, [.ref ma, .ref tb, .int st2_42, .int ce2_42, .int lf2_42, .int rt2_42, .int sp2_42, .int hh2_42, .int ib2_42])), (tb, .inl (cI, 1001, .inl f2_42))]) [0, 1, 2, 3, 4, 5, 6, 7] (by decide) rfl
        have hK9 := hK.sub (tys' := [(cI, .int)]) [0] rfl
        exact W.zret (v := 0) hx hb hr (by rfl) (fun t ht hW => ⟨⟨0, ((st_3, ce_4, lf_5, rt_6, sp_7, hh_8, ib_9, f_10), (st2_42, ce2_42, lf2_42, rt2_42, sp2_42, hh2_42, ib2_42, f2_42)), rfl, ⟨Or.inr ⟨rfl, fun h => (hI.2.2.2.2.elim (fun q => absurd (q.1.symm.trans c102_16) (by decide)) (fun q => q.2.elim (fun z => absurd z (by omega)) id)) h.2.1⟩, by rw [hsE]; exact seqR_ok hM _, by rw [hI.2.2.1]; exact seqR_ok hM _⟩, ⟨by rw [ht]; exact hP9, va_K.moved hW.alike hK9, hD9⟩⟩, hS.F ht⟩) hS.2.2 dX15_isCarried_118
      · refine lv_aload hx hb dX15_isCarried_105 (lv_at hl 1 rfl) ?_
        refine va_getN (D := (dC, dI)) (ci := 19) (v := .int st2_42) (C := RX14) (T := TX14) (N := 9) hx hb hts iWX14 hown hK hP 6 rfl rfl 2 (by decide) (va_Nw.use rfl (hN (.fieldLinkNest RX15 67 "BeaverhallModel$Run" "state" "I" "BeaverhallModel") (by decide +kernel))) (fun _ h9 => h9) rfl dX15_isCarried_107 ?_
        refine lv_aload_n hx hb dX15_isCarried_110 rfl (lv_at hl 0 rfl) ?_
        refine va_getN (D := (dC, dI)) (ci := 19) (v := .int st_3) (C := RX14) (T := TX14) (N := 9) hx hb hts iWX14 hown hK hP 4 rfl rfl 2 (by decide) (va_Nw.use rfl (hN (.fieldLinkNest RX15 67 "BeaverhallModel$Run" "state" "I" "BeaverhallModel") (by decide +kernel))) (fun _ h9 => h9) rfl dX15_isCarried_111 ?_
        refine lv_icmp_eq (tgt := 119) hx hb dX15_isCarried_114 (by decide) (fun c114_17 => ?_) (fun c114_17 => ?_)
        · have hste : (seqR (nI G) w mv nx i_42).1 = (seqR (nI G) w mv nx a).1 := by rw [← hsE, ← hI.2.2.1]; exact c114_17
          have hA := seqR_hi hM a
          have hB := seqR_hi hM i_42
          have hrb : recP (nI G) w mv nx i_42 := hI.2.2.2.2.elim (fun h => h.2.2) (fun h => absurd h.1 c102_16)
          have hlt := recP_lt hM hab hrb
          have hll := leastN_le (nI G) w mv nx a (i_42 - a)
          have hce : ce_4 = nI (cellN (nI G) w mv nx a) - 500 := by rw [← seqR_ce hM a, ← hsE]
          have hcb : ce2_42 = nI (cellN (nI G) w mv nx i_42) - 500 := by rw [← seqR_ce hM i_42, ← hI.2.2.1]
          have hDD : ce_4 - le_42 = nI (cellN (nI G) w mv nx a - leastN (nI G) w mv nx a (i_42 - a)) := by rw [hce, hI.2.2.2.1, cN_sub hll]
          have hta : tapeN (nI G) w mv nx a = f_10 := by show (seqR (nI G) w mv nx a).2.2.2.2.2.2.2 = _; rw [← hsE]
          have htb : tapeN (nI G) w mv nx i_42 = f2_42 := by show (seqR (nI G) w mv nx i_42).2.2.2.2.2.2.2 = _; rw [← hI.2.2.1]
          have hII := hI
          refine lv_iconst (v := 0) hx hb dX15_isCarried_119 (by decide) ?_
          refine lv_istore (lv' := [(8, .int 0), (3, .ref ra), (4, .ref rb), (1, .int (nI a)), (2, .int (nI i_42)), (5, .int le_42), (6, .int mo_42), (7, .int z_42)]) hx hb dX15_isCarried_120 hl (by decide) rfl (fun ls hl => ?_)
          refine lp_go (σ := Nat) (fun k_122 => k_122 ≤ cellN (nI G) w mv nx a - leastN (nI G) w mv nx a (i_42 - a) + 1 ∧ ∀ q, q < k_122 → tapeN (nI G) w mv nx a (cellN (nI G) w mv nx a - q) = tapeN (nI G) w mv nx i_42 (cellN (nI G) w mv nx i_42 - q)) (fun k_122 => cellN (nI G) w mv nx a - leastN (nI G) w mv nx a (i_42 - a) + 1 - k_122) (fun x => [(ma, .inr (18, [.int 0, .int (nI S), .int (nI G), .ref wa, .ref va, .ref na, .int my, .null, .int de, .int aa, .int bb, .ref tz])), (wa, .inl (cI, n, .inl w)), (va, .inl (cI, n, .inl mv)), (na, .inl (cI, n, .inl nx)), (ra, .inr (19, [.ref ma, .ref ta, .int st_3, .int ce_4, .int lf_5, .int rt_6, .int sp_7, .int hh_8, .int ib_9])), (ta, .inl (cI, 1001, .inl f_10)), (rb, .inr (19, [.ref ma, .ref tb, .int st2_42, .int ce2_42, .int lf2_42, .int rt2_42, .int sp2_42, .int hh2_42, .int ib2_42])), (tb, .inl (cI, 1001, .inl f2_42))]) (fun x => [(3, .ref ra), (4, .ref rb), (5, .int le_42), (8, .int (nI x))]) (fun _ => []) (fun x hI ih122 H locs hP hD hS ls hl => ?_) 0 ⟨Nat.zero_le _, fun q hq => absurd hq (Nat.not_lt_zero q)⟩ (hP.sub [0, 1, 2, 3, 4, 5, 6, 7] rfl) (hD.sub [0, 1, 2, 3, 4, 5, 6, 7] (by decide) rfl) hS (lv_sub hl [1, 2, 5, 0] rfl)
          obtain ⟨k_122, ex9⟩ : ∃ z, z = x := ⟨_, rfl⟩
          subst ex9
          have hP : va_P (dC, dI) vwCl [(ma, .inr (18, [.int 0, .int (nI S), .int (nI G), .ref wa, .ref va, .ref na, .int my, .null, .int de, .int aa, .int bb, .ref tz])), (wa, .inl (cI, n, .inl w)), (va, .inl (cI, n, .inl mv)), (na, .inl (cI, n, .inl nx)), (ra, .inr (19, [.ref ma, .ref ta, .int st_3, .int ce_4, .int lf_5, .int rt_6, .int sp_7, .int hh_8, .int ib_9])), (ta, .inl (cI, 1001, .inl f_10)), (rb, .inr (19, [.ref ma, .ref tb, .int st2_42, .int ce2_42, .int lf2_42, .int rt2_42, .int sp2_42, .int hh2_42, .int ib2_42])), (tb, .inl (cI, 1001, .inl f2_42))] H := hP
          have hD : va_D A [(ma, .inr (18, [.int 0, .int (nI S), .int (nI G), .ref wa, .ref va, .ref na, .int my, .null, .int de, .int aa, .int bb, .ref tz])), (wa, .inl (cI, n, .inl w)), (va, .inl (cI, n, .inl mv)), (na, .inl (cI, n, .inl nx)), (ra, .inr (19, [.ref ma, .ref ta, .int st_3, .int ce_4, .int lf_5, .int rt_6, .int sp_7, .int hh_8, .int ib_9])), (ta, .inl (cI, 1001, .inl f_10)), (rb, .inr (19, [.ref ma, .ref tb, .int st2_42, .int ce2_42, .int lf2_42, .int rt2_42, .int sp2_42, .int hh2_42, .int ib2_42])), (tb, .inl (cI, 1001, .inl f2_42))] := hD
          have hl : lv_has ls 9 [(3, .ref ra), (4, .ref rb), (5, .int le_42), (8, .int (nI k_122))] := hl
          try dsimp only at hI
          have ih122 := ih122
          refine lv_iload hx hb dX15_isCarried_122 (lv_at hl 3 rfl) ?_
          refine lv_aload_n hx hb dX15_isCarried_124 rfl (lv_at hl 0 rfl) ?_
          refine va_getN (D := (dC, dI)) (ci := 19) (v := .int ce_4) (C := RX14) (T := TX14) (N := 9) hx hb hts iWX14 hown hK hP 4 rfl rfl 3 (by decide) (va_Nw.use rfl (hN (.fieldLinkNest RX15 55 "BeaverhallModel$Run" "cell" "I" "BeaverhallModel") (by decide +kernel))) (fun _ h9 => h9) rfl dX15_isCarried_125 ?_
          refine lv_iload hx hb dX15_isCarried_128 (lv_at hl 2 rfl) ?_
          refine lv_isub hx hb dX15_isCarried_130 ?_
          refine lv_icmp_gt (tgt := 179) hx hb dX15_isCarried_131 (by decide) (fun c131_18 => ?_) (fun c131_18 => ?_)
          · refine lv_iconst (v := 1) hx hb dX15_isCarried_179 (by decide) ?_
            have hP9 := hP.sub (ws' := [(ma, .inr (18, [.int 0, .int (nI S), .int (nI G), .ref wa, .ref va, .ref na, .int my, .null, .int de, .int aa, .int bb, .ref tz])), (wa, .inl (cI, n, .inl w)), (va, .inl (cI, n, .inl mv)), (na, .inl (cI, n, .inl nx)), (ra, .inr (19, [.ref ma, .ref ta, .int st_3, .int ce_4, .int lf_5, .int rt_6, .int sp_7, .int hh_8, .int ib_9])), (ta, .inl (cI, 1001, .inl f_10)), (rb, .inr (19, [.ref ma, .ref tb, .int st2_42, .int ce2_42, .int lf2_42, .int rt2_42, .int sp2_42, .int hh2_42, .int ib2_42])), (tb, .inl (cI, 1001, .inl f2_42))]) [0, 1, 2, 3, 4, 5, 6, 7] rfl
            have hD9 := hD.sub (ws' := [(ma, .inr (18, [.int 0, .int (nI S), .int (nI G), .ref wa, .ref va, .ref na, .int my, .null, .int de, .int aa, .int bb, .ref tz])), (wa, .inl (cI, n, .inl w)), (va, .inl (cI, n, .inl mv)), (na, .inl (cI, n, .inl nx)), (ra, .inr (19, [.ref ma, .ref ta, .int st_3, .int ce_4, .int lf_5, .int rt_6, .int sp_7, .int hh_8, .int ib_9])), (ta, .inl (cI, 1001, .inl f_10)), (rb, .inr (19, [.ref ma, .ref tb, .int st2_42, .int ce2_42, .int lf2_42, .int rt2_42, .int sp2_42, .int hh2_42, .int ib2_42])), (tb, .inl (cI, 1001, .inl f2_42))]) [0, 1, 2, 3, 4, 5, 6, 7] (by decide) rfl
            have hK9 := hK.sub (tys' := [(cI, .int)]) [0] rfl
            exact W.zret (v := 1) hx hb hr (by rfl) (fun t ht hW => ⟨⟨1, ((st_3, ce_4, lf_5, rt_6, sp_7, hh_8, ib_9, f_10), (st2_42, ce2_42, lf2_42, rt2_42, sp2_42, hh2_42, ib2_42, f2_42)), rfl, ⟨Or.inl ⟨rfl, hw_12.2.elim (fun q => q.2) (fun q => absurd q.1 hc14), hrb, hste, fun k hk => hI.2 k (by have h9 := c131_18; rw [hDD, nI_ltI (by omega) (by omega)] at h9; omega)⟩, by rw [hsE]; exact seqR_ok hM _, by rw [hII.2.2.1]; exact seqR_ok hM _⟩, ⟨by rw [ht]; exact hP9, va_K.moved hW.alike hK9, hD9⟩⟩, hS.F ht⟩) hS.2.2 dX15_isCarried_180
          · refine lv_aload_n hx hb dX15_isCarried_134 rfl (lv_at hl 0 rfl) ?_
            refine va_getN (D := (dC, dI)) (ci := 19) (v := .ref ta) (C := RX14) (T := TX14) (N := 9) hx hb hts iWX14 hown hK hP 4 rfl rfl 1 (by decide) (va_Nw.use rfl (hN (.fieldLinkNest RX15 70 "BeaverhallModel$Run" "tape" "[I" "BeaverhallModel") (by decide +kernel))) (fun _ h9 => h9) rfl dX15_isCarried_135 ?_
            refine lv_sipush (v := 500) hx hb dX15_isCarried_138 (by decide) ?_
            refine lv_aload_n hx hb dX15_isCarried_141 rfl (lv_at hl 0 rfl) ?_
            refine va_getN (D := (dC, dI)) (ci := 19) (v := .int ce_4) (C := RX14) (T := TX14) (N := 9) hx hb hts iWX14 hown hK hP 4 rfl rfl 3 (by decide) (va_Nw.use rfl (hN (.fieldLinkNest RX15 55 "BeaverhallModel$Run" "cell" "I" "BeaverhallModel") (by decide +kernel))) (fun _ h9 => h9) rfl dX15_isCarried_142 ?_
            refine lv_iadd hx hb dX15_isCarried_145 ?_
            refine lv_iload hx hb dX15_isCarried_146 (lv_at hl 3 rfl) ?_
            refine lv_isub hx hb dX15_isCarried_148 ?_
            refine va_iald hx hb hK hP 5 0 rfl rfl (by have h8 := (show k_122 ≤ cellN (nI G) w mv nx a - leastN (nI G) w mv nx a (i_42 - a) from by have h9 := c131_18; rw [hDD, nI_ltI (by omega) (by omega)] at h9; omega); (first | rw [hce, cell_sub (by omega)] | rw [hcb, cell_sub (by omega)]); exact vp_in_nI (by omega) (by omega)) dX15_isCarried_149 ?_
            refine lv_aload hx hb dX15_isCarried_150 (lv_at hl 1 rfl) ?_
            refine va_getN (D := (dC, dI)) (ci := 19) (v := .ref tb) (C := RX14) (T := TX14) (N := 9) hx hb hts iWX14 hown hK hP 6 rfl rfl 1 (by decide) (va_Nw.use rfl (hN (.fieldLinkNest RX15 70 "BeaverhallModel$Run" "tape" "[I" "BeaverhallModel") (by decide +kernel))) (fun _ h9 => h9) rfl dX15_isCarried_152 ?_
            refine lv_sipush (v := 500) hx hb dX15_isCarried_155 (by decide) ?_
            refine lv_aload hx hb dX15_isCarried_158 (lv_at hl 1 rfl) ?_
            refine va_getN (D := (dC, dI)) (ci := 19) (v := .int ce2_42) (C := RX14) (T := TX14) (N := 9) hx hb hts iWX14 hown hK hP 6 rfl rfl 3 (by decide) (va_Nw.use rfl (hN (.fieldLinkNest RX15 55 "BeaverhallModel$Run" "cell" "I" "BeaverhallModel") (by decide +kernel))) (fun _ h9 => h9) rfl dX15_isCarried_160 ?_
            refine lv_iadd hx hb dX15_isCarried_163 ?_
            refine lv_iload hx hb dX15_isCarried_164 (lv_at hl 3 rfl) ?_
            refine lv_isub hx hb dX15_isCarried_166 ?_
            refine va_iald hx hb hK hP 7 0 rfl rfl (by have h8 := (show k_122 ≤ cellN (nI G) w mv nx a - leastN (nI G) w mv nx a (i_42 - a) from by have h9 := c131_18; rw [hDD, nI_ltI (by omega) (by omega)] at h9; omega); (first | rw [hce, cell_sub (by omega)] | rw [hcb, cell_sub (by omega)]); exact vp_in_nI (by omega) (by omega)) dX15_isCarried_167 ?_
            refine lv_icmp_eq (tgt := 173) hx hb dX15_isCarried_168 (by decide) (fun c168_19 => ?_) (fun c168_19 => ?_)
            · obtain ⟨y_20, ey_20⟩ : ∃ y : Int32, y = (nI k_122) + 1 := ⟨_, rfl⟩
              refine lv_iinc (v := y_20) (lv' := [(8, .int y_20), (3, .ref ra), (4, .ref rb), (5, .int le_42)]) hx hb dX15_isCarried_173 hl (k := 3) rfl (by rw [ey_20]; rfl) (by decide) rfl (fun ls hl => ?_)
              obtain rfl : y_20 = nI (k_122 + 1) := by rw [ey_20]; exact nI_1 _
              refine lv_goto (tgt := 122) hx hb dX15_isCarried_176 (by decide) ?_
              exact ih122 (k_122 + 1) ⟨by have := (show k_122 ≤ cellN (nI G) w mv nx a - leastN (nI G) w mv nx a (i_42 - a) from by have h9 := c131_18; rw [hDD, nI_ltI (by omega) (by omega)] at h9; omega); omega, fun q hq => (Nat.lt_or_ge q k_122).elim (fun h => hI.2 q h) (fun h => by have hq2 : q = k_122 := (by omega); rw [hq2, hta, htb]; have h7 := c168_19; have h8 := (show k_122 ≤ cellN (nI G) w mv nx a - leastN (nI G) w mv nx a (i_42 - a) from by have h9 := c131_18; rw [hDD, nI_ltI (by omega) (by omega)] at h9; omega); rw [hce, hcb, cell_sub (by omega), cell_sub (by omega)] at h7; rw [nI_clamp (by omega), nI_clamp (by omega)] at h7; exact h7)⟩ (by have := (show k_122 ≤ cellN (nI G) w mv nx a - leastN (nI G) w mv nx a (i_42 - a) from by have h9 := c131_18; rw [hDD, nI_ltI (by omega) (by omega)] at h9; omega); show cellN (nI G) w mv nx a - leastN (nI G) w mv nx a (i_42 - a) + 1 - (k_122 + 1) < cellN (nI G) w mv nx a - leastN (nI G) w mv nx a (i_42 - a) + 1 - k_122; omega) _ _ (hP.sub [0, 1, 2, 3, 4, 5, 6, 7] rfl) (hD.sub [0, 1, 2, 3, 4, 5, 6, 7] (by decide) rfl) hS ls (lv_sub hl [1, 2, 3, 0] rfl)
            · refine lv_iconst (v := 0) hx hb dX15_isCarried_171 (by decide) ?_
              have hP9 := hP.sub (ws' := [(ma, .inr (18, [.int 0, .int (nI S), .int (nI G), .ref wa, .ref va, .ref na, .int my, .null, .int de, .int aa, .int bb, .ref tz])), (wa, .inl (cI, n, .inl w)), (va, .inl (cI, n, .inl mv)), (na, .inl (cI, n, .inl nx)), (ra, .inr (19, [.ref ma, .ref ta, .int st_3, .int ce_4, .int lf_5, .int rt_6, .int sp_7, .int hh_8, .int ib_9])), (ta, .inl (cI, 1001, .inl f_10)), (rb, .inr (19, [.ref ma, .ref tb, .int st2_42, .int ce2_42, .int lf2_42, .int rt2_42, .int sp2_42, .int hh2_42, .int ib2_42])), (tb, .inl (cI, 1001, .inl f2_42))]) [0, 1, 2, 3, 4, 5, 6, 7] rfl
              have hD9 := hD.sub (ws' := [(ma, .inr (18, [.int 0, .int (nI S), .int (nI G), .ref wa, .ref va, .ref na, .int my, .null, .int de, .int aa, .int bb, .ref tz])), (wa, .inl (cI, n, .inl w)), (va, .inl (cI, n, .inl mv)), (na, .inl (cI, n, .inl nx)), (ra, .inr (19, [.ref ma, .ref ta, .int st_3, .int ce_4, .int lf_5, .int rt_6, .int sp_7, .int hh_8, .int ib_9])), (ta, .inl (cI, 1001, .inl f_10)), (rb, .inr (19, [.ref ma, .ref tb, .int st2_42, .int ce2_42, .int lf2_42, .int rt2_42, .int sp2_42, .int hh2_42, .int ib2_42])), (tb, .inl (cI, 1001, .inl f2_42))]) [0, 1, 2, 3, 4, 5, 6, 7] (by decide) rfl
              have hK9 := hK.sub (tys' := [(cI, .int)]) [0] rfl
              exact W.zret (v := 0) hx hb hr (by rfl) (fun t ht hW => ⟨⟨0, ((st_3, ce_4, lf_5, rt_6, sp_7, hh_8, ib_9, f_10), (st2_42, ce2_42, lf2_42, rt2_42, sp2_42, hh2_42, ib2_42, f2_42)), rfl, ⟨Or.inr ⟨rfl, fun h => by have h5 := c168_19; have h8 := (show k_122 ≤ cellN (nI G) w mv nx a - leastN (nI G) w mv nx a (i_42 - a) from by have h9 := c131_18; rw [hDD, nI_ltI (by omega) (by omega)] at h9; omega); have h6 := h.2.2.2 k_122 h8; rw [hta, htb] at h6; rw [hce, hcb, cell_sub (by omega), cell_sub (by omega), nI_clamp (by omega), nI_clamp (by omega)] at h5; exact h5 h6⟩, by rw [hsE]; exact seqR_ok hM _, by rw [hII.2.2.1]; exact seqR_ok hM _⟩, ⟨by rw [ht]; exact hP9, va_K.moved hW.alike hK9, hD9⟩⟩, hS.F ht⟩) hS.2.2 dX15_isCarried_172
        · refine lv_iconst (v := 0) hx hb dX15_isCarried_117 (by decide) ?_
          have hP9 := hP.sub (ws' := [(ma, .inr (18, [.int 0, .int (nI S), .int (nI G), .ref wa, .ref va, .ref na, .int my, .null, .int de, .int aa, .int bb, .ref tz])), (wa, .inl (cI, n, .inl w)), (va, .inl (cI, n, .inl mv)), (na, .inl (cI, n, .inl nx)), (ra, .inr (19, [.ref ma, .ref ta, .int st_3, .int ce_4, .int lf_5, .int rt_6, .int sp_7, .int hh_8, .int ib_9])), (ta, .inl (cI, 1001, .inl f_10)), (rb, .inr (19, [.ref ma, .ref tb, .int st2_42, .int ce2_42, .int lf2_42, .int rt2_42, .int sp2_42, .int hh2_42, .int ib2_42])), (tb, .inl (cI, 1001, .inl f2_42))]) [0, 1, 2, 3, 4, 5, 6, 7] rfl
          have hD9 := hD.sub (ws' := [(ma, .inr (18, [.int 0, .int (nI S), .int (nI G), .ref wa, .ref va, .ref na, .int my, .null, .int de, .int aa, .int bb, .ref tz])), (wa, .inl (cI, n, .inl w)), (va, .inl (cI, n, .inl mv)), (na, .inl (cI, n, .inl nx)), (ra, .inr (19, [.ref ma, .ref ta, .int st_3, .int ce_4, .int lf_5, .int rt_6, .int sp_7, .int hh_8, .int ib_9])), (ta, .inl (cI, 1001, .inl f_10)), (rb, .inr (19, [.ref ma, .ref tb, .int st2_42, .int ce2_42, .int lf2_42, .int rt2_42, .int sp2_42, .int hh2_42, .int ib2_42])), (tb, .inl (cI, 1001, .inl f2_42))]) [0, 1, 2, 3, 4, 5, 6, 7] (by decide) rfl
          have hK9 := hK.sub (tys' := [(cI, .int)]) [0] rfl
          exact W.zret (v := 0) hx hb hr (by rfl) (fun t ht hW => ⟨⟨0, ((st_3, ce_4, lf_5, rt_6, sp_7, hh_8, ib_9, f_10), (st2_42, ce2_42, lf2_42, rt2_42, sp2_42, hh2_42, ib2_42, f2_42)), rfl, ⟨Or.inr ⟨rfl, fun h => c114_17 (by have h2 := h.2.2.1; rw [← hsE, ← hI.2.2.1] at h2; exact h2)⟩, by rw [hsE]; exact seqR_ok hM _, by rw [hI.2.2.1]; exact seqR_ok hM _⟩, ⟨by rw [ht]; exact hP9, va_K.moved hW.alike hK9, hD9⟩⟩, hS.F ht⟩) hS.2.2 dX15_isCarried_118
    · refine lv_aload hx hb dX15_isCarried_51 (lv_at hl 1 rfl) ?_
      refine va_getN (D := (dC, dI)) (ci := 19) (v := .int rt2_42) (C := RX14) (T := TX14) (N := 9) hx hb hts iWX14 hown hK hP 6 rfl rfl 5 (by decide) (va_Nw.use rfl (hN (.fieldLinkNest RX15 58 "BeaverhallModel$Run" "right" "I" "BeaverhallModel") (by decide +kernel))) (fun _ h9 => h9) rfl dX15_isCarried_53 ?_
      refine lv_istore (lv' := [(6, .int rt2_42), (3, .ref ra), (4, .ref rb), (1, .int (nI a)), (2, .int (nI b)), (5, .int le_42), (7, .int z_42)]) hx hb dX15_isCarried_56 hl (by decide) rfl (fun ls hl => ?_)
      refine lv_aload hx hb dX15_isCarried_58 (lv_at hl 2 rfl) ?_
      have hPc := hP.sub (ws' := [(ma, .inr (18, [.int 0, .int (nI S), .int (nI G), .ref wa, .ref va, .ref na, .int my, .null, .int de, .int aa, .int bb, .ref tz])), (wa, .inl (cI, n, .inl w)), (va, .inl (cI, n, .inl mv)), (na, .inl (cI, n, .inl nx)), (rb, .inr (19, [.ref ma, .ref tb, .int st2_42, .int ce2_42, .int lf2_42, .int rt2_42, .int sp2_42, .int hh2_42, .int ib2_42])), (tb, .inl (cI, 1001, .inl f2_42))]) [0, 1, 2, 3, 6, 7] rfl
      have hDc := hD.sub (ws' := [(ma, .inr (18, [.int 0, .int (nI S), .int (nI G), .ref wa, .ref va, .ref na, .int my, .null, .int de, .int aa, .int bb, .ref tz])), (wa, .inl (cI, n, .inl w)), (va, .inl (cI, n, .inl mv)), (na, .inl (cI, n, .inl nx)), (rb, .inr (19, [.ref ma, .ref tb, .int st2_42, .int ce2_42, .int lf2_42, .int rt2_42, .int sp2_42, .int hh2_42, .int ib2_42])), (tb, .inl (cI, 1001, .inl f2_42))]) [0, 1, 2, 3, 6, 7] (by decide) rfl
      have hKc := hK.sub (tys' := [(cI, .int)]) [0] rfl
      have hFc := va_free (wc := [(ma, .inr (18, [.int 0, .int (nI S), .int (nI G), .ref wa, .ref va, .ref na, .int my, .null, .int de, .int aa, .int bb, .ref tz])), (wa, .inl (cI, n, .inl w)), (va, .inl (cI, n, .inl mv)), (na, .inl (cI, n, .inl nx)), (rb, .inr (19, [.ref ma, .ref tb, .int st2_42, .int ce2_42, .int lf2_42, .int rt2_42, .int sp2_42, .int hh2_42, .int ib2_42])), (tb, .inl (cI, 1001, .inl f2_42))]) hD hS hA [0, 1, 2, 3, 6, 7] rfl
      refine va_calli (va_runV (As := []) (rest := []) ⟨hx, hb, hml, hown, hts⟩ (c_X14_step l dC dI cI ma wa va na tz n S G my de aa bb w mv nx hM rb tb st2_42 ce2_42 lf2_42 rt2_42 sp2_42 hh2_42 ib2_42 f2_42 (by rw [hI.2.2.1]; exact seqR_ok hM _)  H.size) (cwV 0 hts gX15_isCarried_X14_step rfl rfl rfl (by decide +kernel) ⟨Nat.le_of_ble_eq_true rfl, Nat.le_of_ble_eq_true rfl⟩) (pcV hPc hDc hKc hN (ci := 19) (q0 := 4) rfl rfl) rfl rfl hl.1 rfl (lv_room (Nat.le_of_ble_eq_true rfl)) dX15_isCarried_60 ⟨Nat.le_of_ble_eq_true rfl, Nat.le_of_ble_eq_true rfl⟩) hS (fun q _ h => hFc q h) hFc (fun r_29 u t H1 locs ht hvm hw_30 hB hz1 hk1 hS => ?_)
      obtain ⟨st_21, ce_22, lf_23, rt_24, sp_25, hh_26, ib_27, f_28⟩ := u
      obtain ⟨hP1, hK1, hD1⟩ := hB
      rw [ht] at hP1
      try dsimp only at hw_30
      obtain ⟨hP, hD⟩ := va_join (wr := [(ra, .inr (19, [.ref ma, .ref ta, .int st_3, .int ce_4, .int lf_5, .int rt_6, .int sp_7, .int hh_8, .int ib_9])), (ta, .inl (cI, 1001, .inl f_10))]) (w1 := [(ma, .inr (18, [.int 0, .int (nI S), .int (nI G), .ref wa, .ref va, .ref na, .int my, .null, .int de, .int aa, .int bb, .ref tz])), (wa, .inl (cI, n, .inl w)), (va, .inl (cI, n, .inl mv)), (na, .inl (cI, n, .inl nx)), (rb, .inr (19, [.ref ma, .ref tb, .int st_21, .int ce_22, .int lf_23, .int rt_24, .int sp_25, .int hh_26, .int ib_27])), (tb, .inl (cI, 1001, .inl f_28))]) hP hD [0, 1, 2, 3, 6, 7] [4, 5] rfl rfl (by decide) (by decide) hk1 hFc hP1 hD1
      generalize H1 = H at hP hS ⊢
      have hP : va_P (dC, dI) vwCl [(ra, .inr (19, [.ref ma, .ref ta, .int st_3, .int ce_4, .int lf_5, .int rt_6, .int sp_7, .int hh_8, .int ib_9])), (ta, .inl (cI, 1001, .inl f_10)), (ma, .inr (18, [.int 0, .int (nI S), .int (nI G), .ref wa, .ref va, .ref na, .int my, .null, .int de, .int aa, .int bb, .ref tz])), (wa, .inl (cI, n, .inl w)), (va, .inl (cI, n, .inl mv)), (na, .inl (cI, n, .inl nx)), (rb, .inr (19, [.ref ma, .ref tb, .int st_21, .int ce_22, .int lf_23, .int rt_24, .int sp_25, .int hh_26, .int ib_27])), (tb, .inl (cI, 1001, .inl f_28))] H := hP
      have hD : va_D A [(ra, .inr (19, [.ref ma, .ref ta, .int st_3, .int ce_4, .int lf_5, .int rt_6, .int sp_7, .int hh_8, .int ib_9])), (ta, .inl (cI, 1001, .inl f_10)), (ma, .inr (18, [.int 0, .int (nI S), .int (nI G), .ref wa, .ref va, .ref na, .int my, .null, .int de, .int aa, .int bb, .ref tz])), (wa, .inl (cI, n, .inl w)), (va, .inl (cI, n, .inl mv)), (na, .inl (cI, n, .inl nx)), (rb, .inr (19, [.ref ma, .ref tb, .int st_21, .int ce_22, .int lf_23, .int rt_24, .int sp_25, .int hh_26, .int ib_27])), (tb, .inl (cI, 1001, .inl f_28))] := hD
      have hsp2 := (seqR_al (alvR_le hal hI.2.1)).1
      rw [← hI.2.2.1] at hsp2
      dsimp only at hsp2
      have hib : i_42 < b := nI_step hb2 hI.2.1 (by rw [← hsp2]; exact c48_15)
      obtain ⟨hb31, hs31⟩ := bit_of hI.2.2.1 hw_30
      rw [(hal i_42 hib)] at hb31
      subst hb31
      refine lv_if_ne (tgt := 68) hx hb dX15_isCarried_63 (by decide) (fun c63_32 => ?_) (fun c63_32 => ?_)
      · refine lv_iload hx hb dX15_isCarried_68 (lv_at hl 5 rfl) ?_
        refine lv_aload hx hb dX15_isCarried_70 (lv_at hl 2 rfl) ?_
        refine va_getN (D := (dC, dI)) (ci := 19) (v := .int ce_22) (C := RX14) (T := TX14) (N := 9) hx hb hts iWX14 hown hK hP 6 rfl rfl 3 (by decide) (va_Nw.use rfl (hN (.fieldLinkNest RX15 55 "BeaverhallModel$Run" "cell" "I" "BeaverhallModel") (by decide +kernel))) (fun _ h9 => h9) rfl dX15_isCarried_72 ?_
        refine va_mmin hx hb (hml.trans hl.1.symm) hown (hts (.methodLink RX15 61 Lib.Math.min.name) (by decide +kernel)) (hts (.static Lib.Math.min.name) (by decide +kernel)) (hts (.initialized "java/lang/Math") (by decide +kernel)) (hts (.code Lib.Math.min.name Lib.Math.min.code 2 (some .int)) (by decide +kernel)) (Nat.le_of_ble_eq_true rfl) (Nat.le_of_ble_eq_true rfl) (Nat.le_of_ble_eq_true rfl) (Nat.le_of_ble_eq_true rfl) dX15_isCarried_75 ?_
        refine lv_topi (fun x_33 ex_33 => ?_)
        have ex_33 : x_33 = iminJ le_42 ce_22 := ex_33
        refine lv_istore (lv' := [(5, .int x_33), (6, .int rt2_42), (3, .ref ra), (4, .ref rb), (1, .int (nI a)), (2, .int (nI b)), (7, .int z_42)]) hx hb dX15_isCarried_78 hl (by decide) rfl (fun ls hl => ?_)
        refine lv_aload hx hb dX15_isCarried_80 (lv_at hl 3 rfl) ?_
        refine va_getN (D := (dC, dI)) (ci := 19) (v := .int ce_22) (C := RX14) (T := TX14) (N := 9) hx hb hts iWX14 hown hK hP 6 rfl rfl 3 (by decide) (va_Nw.use rfl (hN (.fieldLinkNest RX15 55 "BeaverhallModel$Run" "cell" "I" "BeaverhallModel") (by decide +kernel))) (fun _ h9 => h9) rfl dX15_isCarried_82 ?_
        refine lv_iload hx hb dX15_isCarried_85 (lv_at hl 1 rfl) ?_
        refine lv_icmp_le (tgt := 94) hx hb dX15_isCarried_87 (by decide) (fun c87_34 => ?_) (fun c87_34 => ?_)
        · refine lv_iconst (v := 0) hx hb dX15_isCarried_94 (by decide) ?_
          refine lv_istore (lv' := [(7, .int 0), (5, .int x_33), (6, .int rt2_42), (3, .ref ra), (4, .ref rb), (1, .int (nI a)), (2, .int (nI b))]) hx hb dX15_isCarried_95 hl (by decide) rfl (fun ls hl => ?_)
          refine lv_goto (tgt := 42) hx hb dX15_isCarried_97 (by decide) ?_
          exact ih42 (x_33, rt2_42, 0, (i_42 + 1), st_21, ce_22, lf_23, rt_24, sp_25, hh_26, ib_27, f_28) ⟨by have := hI.1; omega, hib, hs31, least_step hM hI.1 hI.2.2.2.1 (by rw [← hs31]) ex_33, Or.inr ⟨rfl, Or.inr (fun h => (Int32.not_lt.mpr c87_34) (by have h2 : (seqR (nI G) w mv nx i_42).2.2.2.1 < (seqR (nI G) w mv nx (i_42 + 1)).2.1 := h; rw [← hs31, ← hI.2.2.1] at h2; exact h2))⟩⟩ (by show b - (i_42 + 1) < b - i_42; omega) _ _ (hP.sub [2, 3, 4, 5, 0, 1, 6, 7] rfl) (hD.sub [2, 3, 4, 5, 0, 1, 6, 7] (by decide) rfl) hS ls (lv_sub hl [3, 4, 5, 6, 1, 2, 0] rfl)
        · refine lv_iconst (v := 1) hx hb dX15_isCarried_90 (by decide) ?_
          refine lv_goto (tgt := 95) hx hb dX15_isCarried_91 (by decide) ?_
          refine lv_istore (lv' := [(7, .int 1), (5, .int x_33), (6, .int rt2_42), (3, .ref ra), (4, .ref rb), (1, .int (nI a)), (2, .int (nI b))]) hx hb dX15_isCarried_95 hl (by decide) rfl (fun ls hl => ?_)
          refine lv_goto (tgt := 42) hx hb dX15_isCarried_97 (by decide) ?_
          exact ih42 (x_33, rt2_42, 1, (i_42 + 1), st_21, ce_22, lf_23, rt_24, sp_25, hh_26, ib_27, f_28) ⟨by have := hI.1; omega, hib, hs31, least_step hM hI.1 hI.2.2.2.1 (by rw [← hs31]) ex_33, Or.inl ⟨rfl, by have := hI.1; omega, by show (seqR (nI G) w mv nx i_42).2.2.2.1 < (seqR (nI G) w mv nx (i_42 + 1)).2.1; rw [← hs31, ← hI.2.2.1]; exact Int32.not_le.mp c87_34⟩⟩ (by show b - (i_42 + 1) < b - i_42; omega) _ _ (hP.sub [2, 3, 4, 5, 0, 1, 6, 7] rfl) (hD.sub [2, 3, 4, 5, 0, 1, 6, 7] (by decide) rfl) hS ls (lv_sub hl [3, 4, 5, 6, 1, 2, 0] rfl)
      · exact absurd c63_32 (by decide)
  · refine lv_iconst (v := 0) hx hb dX15_isCarried_17 (by decide) ?_
    have hP9 := hP.sub (ws' := [(ma, .inr (18, [.int 0, .int (nI S), .int (nI G), .ref wa, .ref va, .ref na, .int my, .null, .int de, .int aa, .int bb, .ref tz])), (wa, .inl (cI, n, .inl w)), (va, .inl (cI, n, .inl mv)), (na, .inl (cI, n, .inl nx)), (ra, .inr (19, [.ref ma, .ref ta, .int st_3, .int ce_4, .int lf_5, .int rt_6, .int sp_7, .int hh_8, .int ib_9])), (ta, .inl (cI, 1001, .inl f_10)), (rb, .inr (19, [.ref ma, .ref tb, .int 0, .int 0, .int 0, .int 0, .int 0, .int 0, .int 0])), (tb, .inl (cI, 1001, .inl (fun _ => 0)))]) [2, 3, 4, 5, 6, 7, 0, 1] rfl
    have hD9 := hD.sub (ws' := [(ma, .inr (18, [.int 0, .int (nI S), .int (nI G), .ref wa, .ref va, .ref na, .int my, .null, .int de, .int aa, .int bb, .ref tz])), (wa, .inl (cI, n, .inl w)), (va, .inl (cI, n, .inl mv)), (na, .inl (cI, n, .inl nx)), (ra, .inr (19, [.ref ma, .ref ta, .int st_3, .int ce_4, .int lf_5, .int rt_6, .int sp_7, .int hh_8, .int ib_9])), (ta, .inl (cI, 1001, .inl f_10)), (rb, .inr (19, [.ref ma, .ref tb, .int 0, .int 0, .int 0, .int 0, .int 0, .int 0, .int 0])), (tb, .inl (cI, 1001, .inl (fun _ => 0)))]) [2, 3, 4, 5, 6, 7, 0, 1] (by decide) rfl
    have hK9 := hK.sub (tys' := [(cI, .int)]) [0] rfl
    exact W.zret (v := 0) hx hb hr (by rfl) (fun t ht hW => ⟨⟨0, ((st_3, ce_4, lf_5, rt_6, sp_7, hh_8, ib_9, f_10), (0, 0, 0, 0, 0, 0, 0, (fun _ => 0))), rfl, ⟨Or.inr ⟨rfl, fun h => (hw_12.2.elim (fun q => absurd (q.1.symm.trans c14_13) (by decide)) (fun q => q.2)) h.1⟩, by rw [hsE]; exact seqR_ok hM _, okR_zero hM.2.1 hM.2.2.2.1⟩, ⟨by rw [ht]; exact hP9, va_K.moved hW.alike hK9, hD9⟩⟩, hS.F ht⟩) hS.2.2 dX15_isCarried_18
