theorem dX13_forget_0 : decode cX13_forget 0 = .ok (.aload_n 0, 1) := by decide +kernel
theorem dX13_forget_1 : decode cX13_forget 1 = .ok (.aconst_null, 1) := by decide +kernel
theorem dX13_forget_2 : decode cX13_forget 2 = .ok (.putfield 49, 3) := by decide +kernel
theorem dX13_forget_5 : decode cX13_forget 5 = .ok (.aload_n 0, 1) := by decide +kernel
theorem dX13_forget_6 : decode cX13_forget 6 = .ok (.bipush 63, 2) := by decide +kernel
theorem dX13_forget_8 : decode cX13_forget 8 = .ok (.putfield 9, 3) := by decide +kernel
theorem dX13_forget_11 : decode cX13_forget 11 = .ok (.return_, 1) := by decide +kernel
theorem dX13_tell_0 : decode cX13_tell 0 = .ok (.aload_n 0, 1) := by decide +kernel
theorem dX13_tell_1 : decode cX13_tell 1 = .ok (.dup, 1) := by decide +kernel
theorem dX13_tell_2 : decode cX13_tell 2 = .ok (.getfield 43, 3) := by decide +kernel
theorem dX13_tell_5 : decode cX13_tell 5 = .ok (.aload_n 0, 1) := by decide +kernel
theorem dX13_tell_6 : decode cX13_tell 6 = .ok (.getfield 30, 3) := by decide +kernel
theorem dX13_tell_9 : decode cX13_tell 9 = .ok (.iload_n 1, 1) := by decide +kernel
theorem dX13_tell_10 : decode cX13_tell 10 = .ok (.iaload, 1) := by decide +kernel
theorem dX13_tell_11 : decode cX13_tell 11 = .ok (.iconst (-1), 1) := by decide +kernel
theorem dX13_tell_12 : decode cX13_tell 12 = .ok (.if_icmp .ne 7, 3) := by decide +kernel
theorem dX13_tell_19 : decode cX13_tell 19 = .ok (.iconst 0, 1) := by decide +kernel
theorem dX13_tell_20 : decode cX13_tell 20 = .ok (.iadd, 1) := by decide +kernel
theorem dX13_tell_21 : decode cX13_tell 21 = .ok (.putfield 43, 3) := by decide +kernel
theorem dX13_tell_24 : decode cX13_tell 24 = .ok (.aload_n 0, 1) := by decide +kernel
theorem dX13_tell_25 : decode cX13_tell 25 = .ok (.getfield 30, 3) := by decide +kernel
theorem dX13_tell_28 : decode cX13_tell 28 = .ok (.iload_n 1, 1) := by decide +kernel
theorem dX13_tell_29 : decode cX13_tell 29 = .ok (.iload_n 2, 1) := by decide +kernel
theorem dX13_tell_30 : decode cX13_tell 30 = .ok (.iastore, 1) := by decide +kernel
theorem dX13_tell_31 : decode cX13_tell 31 = .ok (.aload_n 0, 1) := by decide +kernel
theorem dX13_tell_32 : decode cX13_tell 32 = .ok (.getfield 34, 3) := by decide +kernel
theorem dX13_tell_35 : decode cX13_tell 35 = .ok (.iload_n 1, 1) := by decide +kernel
theorem dX13_tell_36 : decode cX13_tell 36 = .ok (.iload_n 3, 1) := by decide +kernel
theorem dX13_tell_37 : decode cX13_tell 37 = .ok (.iastore, 1) := by decide +kernel
theorem dX13_tell_38 : decode cX13_tell 38 = .ok (.aload_n 0, 1) := by decide +kernel
theorem dX13_tell_39 : decode cX13_tell 39 = .ok (.getfield 37, 3) := by decide +kernel
theorem dX13_tell_42 : decode cX13_tell 42 = .ok (.iload_n 1, 1) := by decide +kernel
theorem dX13_tell_43 : decode cX13_tell 43 = .ok (.iload 4, 2) := by decide +kernel
theorem dX13_tell_45 : decode cX13_tell 45 = .ok (.iastore, 1) := by decide +kernel
theorem dX13_tell_46 : decode cX13_tell 46 = .ok (.aload_n 0, 1) := by decide +kernel
set_option maxRecDepth 20000 in
theorem ggX13_tell_X13_forget : GoodIn wsX13_tell wsX13_forget := goodIn_r _ [9, 10, 11, 12, 13, 14, 15, 16, 17, 18, 19, 20, 21, 22, 23] rfl (by decide +kernel)
set_option maxRecDepth 20000 in
theorem gX13_tell_X13_forget : GoodIn wsX13_tell (wsV RX13 46 RX13 yX13_forget wsX13_forget) := goodIn_app (goodIn_of _ (by decide +kernel)) ggX13_tell_X13_forget
theorem dX13_tell_47 : decode cX13_tell 47 = .ok (.invokevirtual 46, 3) := by decide +kernel
theorem dX13_tell_50 : decode cX13_tell 50 = .ok (.return_, 1) := by decide +kernel
theorem dX13_tell_15 : decode cX13_tell 15 = .ok (.iconst 1, 1) := by decide +kernel
theorem dX13_tell_16 : decode cX13_tell 16 = .ok (.goto 4, 3) := by decide +kernel
theorem dX13_untell_0 : decode cX13_untell 0 = .ok (.aload_n 0, 1) := by decide +kernel
theorem dX13_untell_1 : decode cX13_untell 1 = .ok (.getfield 30, 3) := by decide +kernel
theorem dX13_untell_4 : decode cX13_untell 4 = .ok (.iload_n 1, 1) := by decide +kernel
theorem dX13_untell_5 : decode cX13_untell 5 = .ok (.iconst (-1), 1) := by decide +kernel
theorem dX13_untell_6 : decode cX13_untell 6 = .ok (.iastore, 1) := by decide +kernel
theorem dX13_untell_7 : decode cX13_untell 7 = .ok (.aload_n 0, 1) := by decide +kernel
theorem dX13_untell_8 : decode cX13_untell 8 = .ok (.dup, 1) := by decide +kernel
theorem dX13_untell_9 : decode cX13_untell 9 = .ok (.getfield 43, 3) := by decide +kernel
theorem dX13_untell_12 : decode cX13_untell 12 = .ok (.iconst 1, 1) := by decide +kernel
theorem dX13_untell_13 : decode cX13_untell 13 = .ok (.isub, 1) := by decide +kernel
theorem dX13_untell_14 : decode cX13_untell 14 = .ok (.putfield 43, 3) := by decide +kernel
theorem dX13_untell_17 : decode cX13_untell 17 = .ok (.aload_n 0, 1) := by decide +kernel
set_option maxRecDepth 20000 in
theorem ggX13_untell_X13_forget : GoodIn wsX13_untell wsX13_forget := goodIn_r _ [7, 8, 9, 10, 11, 12, 13, 14, 15, 16, 17, 18, 19, 20, 21] rfl (by decide +kernel)
set_option maxRecDepth 20000 in
theorem gX13_untell_X13_forget : GoodIn wsX13_untell (wsV RX13 46 RX13 yX13_forget wsX13_forget) := goodIn_app (goodIn_of _ (by decide +kernel)) ggX13_untell_X13_forget
theorem dX13_untell_18 : decode cX13_untell 18 = .ok (.invokevirtual 46, 3) := by decide +kernel
theorem dX13_untell_21 : decode cX13_untell 21 = .ok (.return_, 1) := by decide +kernel
theorem dX13_init_0 : decode cX13_init 0 = .ok (.aload_n 0, 1) := by decide +kernel
theorem dX13_init_1 : decode cX13_init 1 = .ok (.invokespecial 3, 3) := by decide +kernel
theorem dX13_init_4 : decode cX13_init 4 = .ok (.aload_n 0, 1) := by decide +kernel
theorem dX13_init_5 : decode cX13_init 5 = .ok (.bipush 63, 2) := by decide +kernel
theorem dX13_init_7 : decode cX13_init 7 = .ok (.putfield 9, 3) := by decide +kernel
theorem dX13_init_10 : decode cX13_init 10 = .ok (.aload_n 0, 1) := by decide +kernel
theorem dX13_init_11 : decode cX13_init 11 = .ok (.iconst 4, 1) := by decide +kernel
theorem dX13_init_12 : decode cX13_init 12 = .ok (.newarray .char, 2) := by decide +kernel
theorem dX13_init_14 : decode cX13_init 14 = .ok (.dup, 1) := by decide +kernel
theorem dX13_init_15 : decode cX13_init 15 = .ok (.iconst 0, 1) := by decide +kernel
theorem dX13_init_16 : decode cX13_init 16 = .ok (.bipush 63, 2) := by decide +kernel
theorem dX13_init_18 : decode cX13_init 18 = .ok (.castore, 1) := by decide +kernel
theorem dX13_init_19 : decode cX13_init 19 = .ok (.dup, 1) := by decide +kernel
theorem dX13_init_20 : decode cX13_init 20 = .ok (.iconst 1, 1) := by decide +kernel
theorem dX13_init_21 : decode cX13_init 21 = .ok (.bipush 63, 2) := by decide +kernel
theorem dX13_init_23 : decode cX13_init 23 = .ok (.castore, 1) := by decide +kernel
theorem dX13_init_24 : decode cX13_init 24 = .ok (.dup, 1) := by decide +kernel
theorem dX13_init_25 : decode cX13_init 25 = .ok (.iconst 2, 1) := by decide +kernel
theorem dX13_init_26 : decode cX13_init 26 = .ok (.bipush 63, 2) := by decide +kernel
theorem dX13_init_28 : decode cX13_init 28 = .ok (.castore, 1) := by decide +kernel
theorem dX13_init_29 : decode cX13_init 29 = .ok (.dup, 1) := by decide +kernel
theorem dX13_init_30 : decode cX13_init 30 = .ok (.iconst 3, 1) := by decide +kernel
theorem dX13_init_31 : decode cX13_init 31 = .ok (.bipush 63, 2) := by decide +kernel
theorem dX13_init_33 : decode cX13_init 33 = .ok (.castore, 1) := by decide +kernel
theorem dX13_init_34 : decode cX13_init 34 = .ok (.putfield 15, 3) := by decide +kernel
theorem dX13_init_37 : decode cX13_init 37 = .ok (.aload_n 0, 1) := by decide +kernel
theorem dX13_init_38 : decode cX13_init 38 = .ok (.iload_n 1, 1) := by decide +kernel
theorem dX13_init_39 : decode cX13_init 39 = .ok (.putfield 19, 3) := by decide +kernel
theorem dX13_init_42 : decode cX13_init 42 = .ok (.aload_n 0, 1) := by decide +kernel
theorem dX13_init_43 : decode cX13_init 43 = .ok (.iload_n 2, 1) := by decide +kernel
theorem dX13_init_44 : decode cX13_init 44 = .ok (.putfield 23, 3) := by decide +kernel
theorem dX13_init_47 : decode cX13_init 47 = .ok (.aload_n 0, 1) := by decide +kernel
theorem dX13_init_48 : decode cX13_init 48 = .ok (.iload_n 3, 1) := by decide +kernel
theorem dX13_init_49 : decode cX13_init 49 = .ok (.putfield 27, 3) := by decide +kernel
theorem dX13_init_52 : decode cX13_init 52 = .ok (.aload_n 0, 1) := by decide +kernel
theorem dX13_init_53 : decode cX13_init 53 = .ok (.iload_n 2, 1) := by decide +kernel
theorem dX13_init_54 : decode cX13_init 54 = .ok (.iload_n 3, 1) := by decide +kernel
theorem dX13_init_55 : decode cX13_init 55 = .ok (.imul, 1) := by decide +kernel
theorem dX13_init_56 : decode cX13_init 56 = .ok (.newarray .int, 2) := by decide +kernel
theorem dX13_init_58 : decode cX13_init 58 = .ok (.putfield 30, 3) := by decide +kernel
theorem dX13_init_61 : decode cX13_init 61 = .ok (.aload_n 0, 1) := by decide +kernel
theorem dX13_init_62 : decode cX13_init 62 = .ok (.iload_n 2, 1) := by decide +kernel
theorem dX13_init_63 : decode cX13_init 63 = .ok (.iload_n 3, 1) := by decide +kernel
theorem dX13_init_64 : decode cX13_init 64 = .ok (.imul, 1) := by decide +kernel
theorem dX13_init_65 : decode cX13_init 65 = .ok (.newarray .int, 2) := by decide +kernel
theorem dX13_init_67 : decode cX13_init 67 = .ok (.putfield 34, 3) := by decide +kernel
theorem dX13_init_70 : decode cX13_init 70 = .ok (.aload_n 0, 1) := by decide +kernel
theorem dX13_init_71 : decode cX13_init 71 = .ok (.iload_n 2, 1) := by decide +kernel
theorem dX13_init_72 : decode cX13_init 72 = .ok (.iload_n 3, 1) := by decide +kernel
theorem dX13_init_73 : decode cX13_init 73 = .ok (.imul, 1) := by decide +kernel
theorem dX13_init_74 : decode cX13_init 74 = .ok (.newarray .int, 2) := by decide +kernel
theorem dX13_init_76 : decode cX13_init 76 = .ok (.putfield 37, 3) := by decide +kernel
theorem dX13_init_79 : decode cX13_init 79 = .ok (.iconst 0, 1) := by decide +kernel
theorem dX13_init_80 : decode cX13_init 80 = .ok (.istore 4, 2) := by decide +kernel
theorem dX13_init_82 : decode cX13_init 82 = .ok (.iload 4, 2) := by decide +kernel
theorem dX13_init_84 : decode cX13_init 84 = .ok (.aload_n 0, 1) := by decide +kernel
theorem dX13_init_85 : decode cX13_init 85 = .ok (.getfield 30, 3) := by decide +kernel
theorem dX13_init_88 : decode cX13_init 88 = .ok (.arraylength, 1) := by decide +kernel
theorem dX13_init_89 : decode cX13_init 89 = .ok (.if_icmp .ge 17, 3) := by decide +kernel
theorem dX13_init_106 : decode cX13_init 106 = .ok (.return_, 1) := by decide +kernel
theorem dX13_init_92 : decode cX13_init 92 = .ok (.aload_n 0, 1) := by decide +kernel
theorem dX13_init_93 : decode cX13_init 93 = .ok (.getfield 30, 3) := by decide +kernel
theorem dX13_init_96 : decode cX13_init 96 = .ok (.iload 4, 2) := by decide +kernel
theorem dX13_init_98 : decode cX13_init 98 = .ok (.iconst (-1), 1) := by decide +kernel
theorem dX13_init_99 : decode cX13_init 99 = .ok (.iastore, 1) := by decide +kernel
theorem dX13_init_100 : decode cX13_init 100 = .ok (.iinc 4 1, 3) := by decide +kernel
theorem dX13_init_103 : decode cX13_init 103 = .ok (.goto (-21), 3) := by decide +kernel
set_option maxHeartbeats 4000000 in
set_option maxRecDepth 100000 in
/-- X13_forget -/
theorem c_X13_forget (l : Launch) (dC : Nat → ClassId) (dI : Nat → Nat → Nat) (ma wa va na tz n S G : Nat) (my de aa bb : Int32) (w mv nx : Nat → Int32) (sz : Nat) : Met l yX13_forget wsX13_forget ({ frames := 0, cells := 0, slots := 0, locals := 0 }) (va_Pc [.ref ma] (cPC dC dI [(ma, .inr (18, [.int 0, .int (nI S), .int (nI G), .ref wa, .ref va, .ref na, .int my, .null, .int de, .int aa, .int bb, .ref tz]))] [] sz)) (va_Qv (fun (u : Unit) => True) (fun (u : Unit) t => cQB dC dI [(ma, .inr (18, [.int 0, .int (nI S), .int (nI G), .ref wa, .ref va, .ref na, .int my, .null, .int 63, .int aa, .int bb, .ref tz]))] [] (va_A [(ma, .inr (18, [.int 0, .int (nI S), .int (nI G), .ref wa, .ref va, .ref na, .int my, .null, .int de, .int aa, .int bb, .ref tz]))] sz) t) (va_A [(ma, .inr (18, [.int 0, .int (nI S), .int (nI G), .ref wa, .ref va, .ref na, .int my, .null, .int de, .int aa, .int bb, .ref tz]))] sz)) 0 0 (va_A [(ma, .inr (18, [.int 0, .int (nI S), .int (nI G), .ref wa, .ref va, .ref na, .int my, .null, .int de, .int aa, .int bb, .ref tz]))] sz) := by
  refine Met.ofW (cc := cX13_forget) (maxL := 1) (ret := none) (by decide) rfl ?_
  intro p e s m args below meth c s₁ B hml hv
  obtain ⟨rfl, hsz, hP, hK, hD0, hN⟩ := hv
  have hx := B.exec
  have hb := B.bytes
  have hr := B.returns
  have hts := atoms_spec (ws := wsX13_forget) B.pre
  have hown : s.vm.findClass RX13 = some m.cls := findClass_of_methodNamed B.named
  have hlocks := B.notSynchronized
  subst hsz
  have hD := hD0.self (sz := s.heap.size)
  generalize hAe : va_A [(ma, .inr (18, [.int 0, .int (nI S), .int (nI G), .ref wa, .ref va, .ref na, .int my, .null, .int de, .int aa, .int bb, .ref tz]))] s.heap.size = A at hD ⊢
  have hA : ∀ q : Nat, s.heap.size ≤ q → A q := fun q h => by rw [← hAe]; exact Or.inr h
  have hS : va_S A s.heap s.heap [] := va_S.rf
  have hP : va_P (dC, dI) vwCl [(ma, .inr (18, [.int 0, .int (nI S), .int (nI G), .ref wa, .ref va, .ref na, .int my, .null, .int de, .int aa, .int bb, .ref tz]))] s.heap := hP
  have hD : va_D A [(ma, .inr (18, [.int 0, .int (nI S), .int (nI G), .ref wa, .ref va, .ref na, .int my, .null, .int de, .int aa, .int bb, .ref tz]))] := hD
  have hl := lv_entry ([.ref ma]) (n := 1) (Nat.le_of_ble_eq_true rfl)
  rw [lg_entry_eq]
  generalize (lg_sl ([.ref ma]) ++ List.replicate (1 - (lg_sl ([.ref ma])).length) Slot.unset).toArray = ls at hl ⊢
  have hl : lv_has ls 1 [(0, .ref ma)] := hl
  have iWX13 : ∀ w ∈ u_ws RX13 TX13 12, w ∈ wsX13_forget := by decide +kernel
  refine lv_aload_n hx hb dX13_forget_0 rfl (lv_at hl 0 rfl) ?_
  refine lv_null hx hb dX13_forget_1 ?_
  refine va_put (D := (dC, dI)) (ci := 18) (v := .null) (ty := .object "BeaverhallModel$Run") (C := RX13) (T := TX13) (N := 12) hx hb hts iWX13 tyX13 tyX13_ok nmX13 hown hK hP hD hS 0 rfl rfl 7 (by decide) (hts (.fieldLink RX13 49 "BeaverhallModel$Machine" "last" "LBeaverhallModel$Run;") (by decide +kernel)) (fun _ h9 => h9) rfl (by decide +kernel) rfl rfl (Nat.le_of_ble_eq_true rfl) dX13_forget_2 (fun H locs hP hD hS => ?_)
  have hP : va_P (dC, dI) vwCl [(ma, .inr (18, [.int 0, .int (nI S), .int (nI G), .ref wa, .ref va, .ref na, .int my, .null, .int de, .int aa, .int bb, .ref tz]))] H := hP
  have hD : va_D A [(ma, .inr (18, [.int 0, .int (nI S), .int (nI G), .ref wa, .ref va, .ref na, .int my, .null, .int de, .int aa, .int bb, .ref tz]))] := hD
  refine lv_aload_n hx hb dX13_forget_5 rfl (lv_at hl 0 rfl) ?_
  refine lv_bipush (v := 63) hx hb dX13_forget_6 (by decide) ?_
  refine va_put (D := (dC, dI)) (ci := 18) (v := .int 63) (ty := .char) (C := RX13) (T := TX13) (N := 12) hx hb hts iWX13 tyX13 tyX13_ok nmX13 hown hK hP hD hS 0 rfl rfl 8 (by decide) (hts (.fieldLink RX13 9 "BeaverhallModel$Machine" "decider" "C") (by decide +kernel)) (fun _ h9 => h9) rfl (by decide +kernel) rfl rfl (Nat.le_of_ble_eq_true rfl) dX13_forget_8 (fun H locs hP hD hS => ?_)
  have hP : va_P (dC, dI) vwCl [(ma, .inr (18, [.int 0, .int (nI S), .int (nI G), .ref wa, .ref va, .ref na, .int my, .null, .int 63, .int aa, .int bb, .ref tz]))] H := hP
  have hD : va_D A [(ma, .inr (18, [.int 0, .int (nI S), .int (nI G), .ref wa, .ref va, .ref na, .int my, .null, .int 63, .int aa, .int bb, .ref tz]))] := hD
  have hP9 := hP.sub (ws' := [(ma, .inr (18, [.int 0, .int (nI S), .int (nI G), .ref wa, .ref va, .ref na, .int my, .null, .int 63, .int aa, .int bb, .ref tz]))]) [0] rfl
  have hD9 := hD.sub (ws' := [(ma, .inr (18, [.int 0, .int (nI S), .int (nI G), .ref wa, .ref va, .ref na, .int my, .null, .int 63, .int aa, .int bb, .ref tz]))]) [0] (by decide) rfl
  have hK9 := hK.sub (tys' := []) [] rfl
  exact W.vret hx hb hr (fun t ht hW => ⟨⟨(), rfl, trivial, ⟨by rw [ht]; exact hP9, va_K.moved hW.alike hK9, hD9⟩⟩, hS.F ht⟩) hS.2.2 dX13_forget_11

set_option maxHeartbeats 4000000 in
set_option maxRecDepth 100000 in
/-- X13_tell -/
theorem c_X13_tell (l : Launch) (dC : Nat → ClassId) (dI : Nat → Nat → Nat) (cI : ClassId) (ma wa va na tz n S G : Nat) (my de aa bb : Int32) (w mv nx : Nat → Int32) (hn : n ≤ 24) (k : Nat) (hkn : k < n) (wr mo ne : Int32) (sz : Nat) : Met l yX13_tell wsX13_tell ({ frames := 1, cells := 0, slots := 0, locals := 24 }) (va_Pc [.ref ma, .int (nI k), .int wr, .int mo, .int ne] (cPC dC dI [(ma, .inr (18, [.int 0, .int (nI S), .int (nI G), .ref wa, .ref va, .ref na, .int my, .null, .int de, .int aa, .int bb, .ref tz])), (wa, .inl (cI, n, .inl w)), (va, .inl (cI, n, .inl mv)), (na, .inl (cI, n, .inl nx))] [(cI, .int)] sz)) (va_Qv (fun (u : Int32 × (Nat → Int32) × (Nat → Int32) × (Nat → Int32)) => u = (my + (if w k = -1 then 1 else 0), upd w k wr, upd mv k mo, upd nx k ne)) (fun (u : Int32 × (Nat → Int32) × (Nat → Int32) × (Nat → Int32)) t => cQB dC dI [(ma, .inr (18, [.int 0, .int (nI S), .int (nI G), .ref wa, .ref va, .ref na, .int u.1, .null, .int 63, .int aa, .int bb, .ref tz])), (wa, .inl (cI, n, .inl u.2.1)), (va, .inl (cI, n, .inl u.2.2.1)), (na, .inl (cI, n, .inl u.2.2.2))] [(cI, .int)] (va_A [(ma, .inr (18, [.int 0, .int (nI S), .int (nI G), .ref wa, .ref va, .ref na, .int my, .null, .int de, .int aa, .int bb, .ref tz])), (wa, .inl (cI, n, .inl w)), (va, .inl (cI, n, .inl mv)), (na, .inl (cI, n, .inl nx))] sz) t) (va_A [(ma, .inr (18, [.int 0, .int (nI S), .int (nI G), .ref wa, .ref va, .ref na, .int my, .null, .int de, .int aa, .int bb, .ref tz])), (wa, .inl (cI, n, .inl w)), (va, .inl (cI, n, .inl mv)), (na, .inl (cI, n, .inl nx))] sz)) 0 0 (va_A [(ma, .inr (18, [.int 0, .int (nI S), .int (nI G), .ref wa, .ref va, .ref na, .int my, .null, .int de, .int aa, .int bb, .ref tz])), (wa, .inl (cI, n, .inl w)), (va, .inl (cI, n, .inl mv)), (na, .inl (cI, n, .inl nx))] sz) := by
  refine Met.ofW (cc := cX13_tell) (maxL := 5) (ret := none) (by decide) rfl ?_
  intro p e s m args below meth c s₁ B hml hv
  obtain ⟨rfl, hsz, hP, hK, hD0, hN⟩ := hv
  have hx := B.exec
  have hb := B.bytes
  have hr := B.returns
  have hts := atoms_spec (ws := wsX13_tell) B.pre
  have hown : s.vm.findClass RX13 = some m.cls := findClass_of_methodNamed B.named
  have hlocks := B.notSynchronized
  subst hsz
  have hD := hD0.self (sz := s.heap.size)
  generalize hAe : va_A [(ma, .inr (18, [.int 0, .int (nI S), .int (nI G), .ref wa, .ref va, .ref na, .int my, .null, .int de, .int aa, .int bb, .ref tz])), (wa, .inl (cI, n, .inl w)), (va, .inl (cI, n, .inl mv)), (na, .inl (cI, n, .inl nx))] s.heap.size = A at hD ⊢
  have hA : ∀ q : Nat, s.heap.size ≤ q → A q := fun q h => by rw [← hAe]; exact Or.inr h
  have hS : va_S A s.heap s.heap [] := va_S.rf
  have hP : va_P (dC, dI) vwCl [(ma, .inr (18, [.int 0, .int (nI S), .int (nI G), .ref wa, .ref va, .ref na, .int my, .null, .int de, .int aa, .int bb, .ref tz])), (wa, .inl (cI, n, .inl w)), (va, .inl (cI, n, .inl mv)), (na, .inl (cI, n, .inl nx))] s.heap := hP
  have hD : va_D A [(ma, .inr (18, [.int 0, .int (nI S), .int (nI G), .ref wa, .ref va, .ref na, .int my, .null, .int de, .int aa, .int bb, .ref tz])), (wa, .inl (cI, n, .inl w)), (va, .inl (cI, n, .inl mv)), (na, .inl (cI, n, .inl nx))] := hD
  have hl := lv_entry ([.ref ma, .int (nI k), .int wr, .int mo, .int ne]) (n := 5) (Nat.le_of_ble_eq_true rfl)
  rw [lg_entry_eq]
  generalize (lg_sl ([.ref ma, .int (nI k), .int wr, .int mo, .int ne]) ++ List.replicate (5 - (lg_sl ([.ref ma, .int (nI k), .int wr, .int mo, .int ne])).length) Slot.unset).toArray = ls at hl ⊢
  have hl : lv_has ls 5 [(0, .ref ma), (1, .int (nI k)), (2, .int wr), (3, .int mo), (4, .int ne)] := hl
  have iWX13 : ∀ w ∈ u_ws RX13 TX13 12, w ∈ wsX13_tell := by decide +kernel
  refine lv_aload_n hx hb dX13_tell_0 rfl (lv_at hl 0 rfl) ?_
  refine lv_dup hx hb dX13_tell_1 rfl ?_
  refine va_get (D := (dC, dI)) (ci := 18) (v := .int my) (C := RX13) (T := TX13) (N := 12) hx hb hts iWX13 hown hK hP 0 rfl rfl 6 (by decide) (hts (.fieldLink RX13 43 "BeaverhallModel$Machine" "many" "I") (by decide +kernel)) (fun _ h9 => h9) rfl dX13_tell_2 ?_
  refine lv_aload_n hx hb dX13_tell_5 rfl (lv_at hl 0 rfl) ?_
  refine va_get (D := (dC, dI)) (ci := 18) (v := .ref wa) (C := RX13) (T := TX13) (N := 12) hx hb hts iWX13 hown hK hP 0 rfl rfl 3 (by decide) (hts (.fieldLink RX13 30 "BeaverhallModel$Machine" "writes" "[I") (by decide +kernel)) (fun _ h9 => h9) rfl dX13_tell_6 ?_
  refine lv_iload_n hx hb dX13_tell_9 rfl (lv_at hl 1 rfl) ?_
  refine va_iald hx hb hK hP 1 0 rfl rfl (vp_in_nI hkn (by omega)) dX13_tell_10 ?_
  refine lv_iconst (v := (-1)) hx hb dX13_tell_11 (by decide) ?_
  refine lv_icmp_ne (tgt := 19) hx hb dX13_tell_12 (by decide) (fun c12_1 => ?_) (fun c12_1 => ?_)
  · refine lv_iconst (v := 0) hx hb dX13_tell_19 (by decide) ?_
    refine lv_iadd hx hb dX13_tell_20 ?_
    refine lv_topi (fun x_2 ex_2 => ?_)
    refine va_put (D := (dC, dI)) (ci := 18) (v := .int x_2) (ty := .int) (C := RX13) (T := TX13) (N := 12) hx hb hts iWX13 tyX13 tyX13_ok nmX13 hown hK hP hD hS 0 rfl rfl 6 (by decide) (hts (.fieldLink RX13 43 "BeaverhallModel$Machine" "many" "I") (by decide +kernel)) (fun _ h9 => h9) rfl (by decide +kernel) rfl rfl (Nat.le_of_ble_eq_true rfl) dX13_tell_21 (fun H locs hP hD hS => ?_)
    have hP : va_P (dC, dI) vwCl [(ma, .inr (18, [.int 0, .int (nI S), .int (nI G), .ref wa, .ref va, .ref na, .int x_2, .null, .int de, .int aa, .int bb, .ref tz])), (wa, .inl (cI, n, .inl w)), (va, .inl (cI, n, .inl mv)), (na, .inl (cI, n, .inl nx))] H := hP
    have hD : va_D A [(ma, .inr (18, [.int 0, .int (nI S), .int (nI G), .ref wa, .ref va, .ref na, .int x_2, .null, .int de, .int aa, .int bb, .ref tz])), (wa, .inl (cI, n, .inl w)), (va, .inl (cI, n, .inl mv)), (na, .inl (cI, n, .inl nx))] := hD
    refine lv_aload_n hx hb dX13_tell_24 rfl (lv_at hl 0 rfl) ?_
    refine va_get (D := (dC, dI)) (ci := 18) (v := .ref wa) (C := RX13) (T := TX13) (N := 12) hx hb hts iWX13 hown hK hP 0 rfl rfl 3 (by decide) (hts (.fieldLink RX13 30 "BeaverhallModel$Machine" "writes" "[I") (by decide +kernel)) (fun _ h9 => h9) rfl dX13_tell_25 ?_
    refine lv_iload_n hx hb dX13_tell_28 rfl (lv_at hl 1 rfl) ?_
    refine lv_iload_n hx hb dX13_tell_29 rfl (lv_at hl 2 rfl) ?_
    refine va_iast hx hb hK hP hD hS 1 0 rfl rfl (vp_in_nI hkn (by omega)) dX13_tell_30 (fun H locs hP hD hS => ?_)
    obtain ⟨f_3, ef_3⟩ : ∃ z, z = (upd w (nI k).toNatClampNeg wr) := ⟨_, rfl⟩
    have hP : va_P (dC, dI) vwCl [(ma, .inr (18, [.int 0, .int (nI S), .int (nI G), .ref wa, .ref va, .ref na, .int x_2, .null, .int de, .int aa, .int bb, .ref tz])), (wa, .inl (cI, n, .inl f_3)), (va, .inl (cI, n, .inl mv)), (na, .inl (cI, n, .inl nx))] H := by rw [ef_3]; exact hP
    have hD : va_D A [(ma, .inr (18, [.int 0, .int (nI S), .int (nI G), .ref wa, .ref va, .ref na, .int x_2, .null, .int de, .int aa, .int bb, .ref tz])), (wa, .inl (cI, n, .inl f_3)), (va, .inl (cI, n, .inl mv)), (na, .inl (cI, n, .inl nx))] := by rw [ef_3]; exact hD
    refine lv_aload_n hx hb dX13_tell_31 rfl (lv_at hl 0 rfl) ?_
    refine va_get (D := (dC, dI)) (ci := 18) (v := .ref va) (C := RX13) (T := TX13) (N := 12) hx hb hts iWX13 hown hK hP 0 rfl rfl 4 (by decide) (hts (.fieldLink RX13 34 "BeaverhallModel$Machine" "moves" "[I") (by decide +kernel)) (fun _ h9 => h9) rfl dX13_tell_32 ?_
    refine lv_iload_n hx hb dX13_tell_35 rfl (lv_at hl 1 rfl) ?_
    refine lv_iload_n hx hb dX13_tell_36 rfl (lv_at hl 3 rfl) ?_
    refine va_iast hx hb hK hP hD hS 2 0 rfl rfl (vp_in_nI hkn (by omega)) dX13_tell_37 (fun H locs hP hD hS => ?_)
    obtain ⟨f_4, ef_4⟩ : ∃ z, z = (upd mv (nI k).toNatClampNeg mo) := ⟨_, rfl⟩
    have hP : va_P (dC, dI) vwCl [(ma, .inr (18, [.int 0, .int (nI S), .int (nI G), .ref wa, .ref va, .ref na, .int x_2, .null, .int de, .int aa, .int bb, .ref tz])), (wa, .inl (cI, n, .inl f_3)), (va, .inl (cI, n, .inl f_4)), (na, .inl (cI, n, .inl nx))] H := by rw [ef_4]; exact hP
    have hD : va_D A [(ma, .inr (18, [.int 0, .int (nI S), .int (nI G), .ref wa, .ref va, .ref na, .int x_2, .null, .int de, .int aa, .int bb, .ref tz])), (wa, .inl (cI, n, .inl f_3)), (va, .inl (cI, n, .inl f_4)), (na, .inl (cI, n, .inl nx))] := by rw [ef_4]; exact hD
    refine lv_aload_n hx hb dX13_tell_38 rfl (lv_at hl 0 rfl) ?_
    refine va_get (D := (dC, dI)) (ci := 18) (v := .ref na) (C := RX13) (T := TX13) (N := 12) hx hb hts iWX13 hown hK hP 0 rfl rfl 5 (by decide) (hts (.fieldLink RX13 37 "BeaverhallModel$Machine" "nexts" "[I") (by decide +kernel)) (fun _ h9 => h9) rfl dX13_tell_39 ?_
    refine lv_iload_n hx hb dX13_tell_42 rfl (lv_at hl 1 rfl) ?_
    refine lv_iload hx hb dX13_tell_43 (lv_at hl 4 rfl) ?_
    refine va_iast hx hb hK hP hD hS 3 0 rfl rfl (vp_in_nI hkn (by omega)) dX13_tell_45 (fun H locs hP hD hS => ?_)
    obtain ⟨f_5, ef_5⟩ : ∃ z, z = (upd nx (nI k).toNatClampNeg ne) := ⟨_, rfl⟩
    have hP : va_P (dC, dI) vwCl [(ma, .inr (18, [.int 0, .int (nI S), .int (nI G), .ref wa, .ref va, .ref na, .int x_2, .null, .int de, .int aa, .int bb, .ref tz])), (wa, .inl (cI, n, .inl f_3)), (va, .inl (cI, n, .inl f_4)), (na, .inl (cI, n, .inl f_5))] H := by rw [ef_5]; exact hP
    have hD : va_D A [(ma, .inr (18, [.int 0, .int (nI S), .int (nI G), .ref wa, .ref va, .ref na, .int x_2, .null, .int de, .int aa, .int bb, .ref tz])), (wa, .inl (cI, n, .inl f_3)), (va, .inl (cI, n, .inl f_4)), (na, .inl (cI, n, .inl f_5))] := by rw [ef_5]; exact hD
    refine lv_aload_n hx hb dX13_tell_46 rfl (lv_at hl 0 rfl) ?_
    have hPc := hP.sub (ws' := [(ma, .inr (18, [.int 0, .int (nI S), .int (nI G), .ref wa, .ref va, .ref na, .int x_2, .null, .int de, .int aa, .int bb, .ref tz]))]) [0] rfl
    have hDc := hD.sub (ws' := [(ma, .inr (18, [.int 0, .int (nI S), .int (nI G), .ref wa, .ref va, .ref na, .int x_2, .null, .int de, .int aa, .int bb, .ref tz]))]) [0] (by decide) rfl
    have hKc := hK.sub (tys' := []) [] rfl
    have hFc := va_free (wc := [(ma, .inr (18, [.int 0, .int (nI S), .int (nI G), .ref wa, .ref va, .ref na, .int x_2, .null, .int de, .int aa, .int bb, .ref tz]))]) hD hS hA [0] rfl
    refine va_callv (va_runV (As := []) (rest := []) ⟨hx, hb, hml, hown, hts⟩ (c_X13_forget l dC dI ma wa va na tz n S G x_2 de aa bb f_3 f_4 f_5 H.size) (cwV 0 hts gX13_tell_X13_forget rfl rfl rfl (by decide +kernel) ⟨Nat.le_of_ble_eq_true rfl, Nat.le_of_ble_eq_true rfl⟩) (pcV hPc hDc hKc hN (ci := 18) (q0 := 0) rfl rfl) rfl rfl hl.1 rfl (lv_room (Nat.le_of_ble_eq_true rfl)) dX13_tell_47 ⟨Nat.le_of_ble_eq_true rfl, Nat.le_of_ble_eq_true rfl⟩) hS (fun q _ h => hFc q h) hFc (fun u t H1 locs ht hvm hw_6 hB hz1 hk1 hS => ?_)
    obtain ⟨hP1, hK1, hD1⟩ := hB
    rw [ht] at hP1
    try dsimp only at hw_6
    obtain ⟨hP, hD⟩ := va_join (wr := [(wa, .inl (cI, n, .inl f_3)), (va, .inl (cI, n, .inl f_4)), (na, .inl (cI, n, .inl f_5))]) (w1 := [(ma, .inr (18, [.int 0, .int (nI S), .int (nI G), .ref wa, .ref va, .ref na, .int x_2, .null, .int 63, .int aa, .int bb, .ref tz]))]) hP hD [0] [1, 2, 3] rfl rfl (by decide) (by decide) hk1 hFc hP1 hD1
    generalize H1 = H at hP hS ⊢
    have hP : va_P (dC, dI) vwCl [(wa, .inl (cI, n, .inl f_3)), (va, .inl (cI, n, .inl f_4)), (na, .inl (cI, n, .inl f_5)), (ma, .inr (18, [.int 0, .int (nI S), .int (nI G), .ref wa, .ref va, .ref na, .int x_2, .null, .int 63, .int aa, .int bb, .ref tz]))] H := hP
    have hD : va_D A [(wa, .inl (cI, n, .inl f_3)), (va, .inl (cI, n, .inl f_4)), (na, .inl (cI, n, .inl f_5)), (ma, .inr (18, [.int 0, .int (nI S), .int (nI G), .ref wa, .ref va, .ref na, .int x_2, .null, .int 63, .int aa, .int bb, .ref tz]))] := hD
    have hP9 := hP.sub (ws' := [(ma, .inr (18, [.int 0, .int (nI S), .int (nI G), .ref wa, .ref va, .ref na, .int x_2, .null, .int 63, .int aa, .int bb, .ref tz])), (wa, .inl (cI, n, .inl f_3)), (va, .inl (cI, n, .inl f_4)), (na, .inl (cI, n, .inl f_5))]) [3, 0, 1, 2] rfl
    have hD9 := hD.sub (ws' := [(ma, .inr (18, [.int 0, .int (nI S), .int (nI G), .ref wa, .ref va, .ref na, .int x_2, .null, .int 63, .int aa, .int bb, .ref tz])), (wa, .inl (cI, n, .inl f_3)), (va, .inl (cI, n, .inl f_4)), (na, .inl (cI, n, .inl f_5))]) [3, 0, 1, 2] (by decide) rfl
    have hK9 := hK.sub (tys' := [(cI, .int)]) [0] rfl
    exact W.vret hx hb hr (fun t ht hW => ⟨⟨(x_2, f_3, f_4, f_5), rfl, (by (try subst hw_6); (try subst ef_5); (try subst ef_4); (try subst ef_3); (try subst ex_2); have hq : (nI k).toNatClampNeg = k := nI_clamp (by omega); simp only [hq] at *; simp [c12_1]), ⟨by rw [ht]; exact hP9, va_K.moved hW.alike hK9, hD9⟩⟩, hS.F ht⟩) hS.2.2 dX13_tell_50
  · refine lv_iconst (v := 1) hx hb dX13_tell_15 (by decide) ?_
    refine lv_goto (tgt := 20) hx hb dX13_tell_16 (by decide) ?_
    refine lv_iadd hx hb dX13_tell_20 ?_
    refine lv_topi (fun x_7 ex_7 => ?_)
    refine va_put (D := (dC, dI)) (ci := 18) (v := .int x_7) (ty := .int) (C := RX13) (T := TX13) (N := 12) hx hb hts iWX13 tyX13 tyX13_ok nmX13 hown hK hP hD hS 0 rfl rfl 6 (by decide) (hts (.fieldLink RX13 43 "BeaverhallModel$Machine" "many" "I") (by decide +kernel)) (fun _ h9 => h9) rfl (by decide +kernel) rfl rfl (Nat.le_of_ble_eq_true rfl) dX13_tell_21 (fun H locs hP hD hS => ?_)
    have hP : va_P (dC, dI) vwCl [(ma, .inr (18, [.int 0, .int (nI S), .int (nI G), .ref wa, .ref va, .ref na, .int x_7, .null, .int de, .int aa, .int bb, .ref tz])), (wa, .inl (cI, n, .inl w)), (va, .inl (cI, n, .inl mv)), (na, .inl (cI, n, .inl nx))] H := hP
    have hD : va_D A [(ma, .inr (18, [.int 0, .int (nI S), .int (nI G), .ref wa, .ref va, .ref na, .int x_7, .null, .int de, .int aa, .int bb, .ref tz])), (wa, .inl (cI, n, .inl w)), (va, .inl (cI, n, .inl mv)), (na, .inl (cI, n, .inl nx))] := hD
    refine lv_aload_n hx hb dX13_tell_24 rfl (lv_at hl 0 rfl) ?_
    refine va_get (D := (dC, dI)) (ci := 18) (v := .ref wa) (C := RX13) (T := TX13) (N := 12) hx hb hts iWX13 hown hK hP 0 rfl rfl 3 (by decide) (hts (.fieldLink RX13 30 "BeaverhallModel$Machine" "writes" "[I") (by decide +kernel)) (fun _ h9 => h9) rfl dX13_tell_25 ?_
    refine lv_iload_n hx hb dX13_tell_28 rfl (lv_at hl 1 rfl) ?_
    refine lv_iload_n hx hb dX13_tell_29 rfl (lv_at hl 2 rfl) ?_
    refine va_iast hx hb hK hP hD hS 1 0 rfl rfl (vp_in_nI hkn (by omega)) dX13_tell_30 (fun H locs hP hD hS => ?_)
    obtain ⟨f_8, ef_8⟩ : ∃ z, z = (upd w (nI k).toNatClampNeg wr) := ⟨_, rfl⟩
    have hP : va_P (dC, dI) vwCl [(ma, .inr (18, [.int 0, .int (nI S), .int (nI G), .ref wa, .ref va, .ref na, .int x_7, .null, .int de, .int aa, .int bb, .ref tz])), (wa, .inl (cI, n, .inl f_8)), (va, .inl (cI, n, .inl mv)), (na, .inl (cI, n, .inl nx))] H := by rw [ef_8]; exact hP
    have hD : va_D A [(ma, .inr (18, [.int 0, .int (nI S), .int (nI G), .ref wa, .ref va, .ref na, .int x_7, .null, .int de, .int aa, .int bb, .ref tz])), (wa, .inl (cI, n, .inl f_8)), (va, .inl (cI, n, .inl mv)), (na, .inl (cI, n, .inl nx))] := by rw [ef_8]; exact hD
    refine lv_aload_n hx hb dX13_tell_31 rfl (lv_at hl 0 rfl) ?_
    refine va_get (D := (dC, dI)) (ci := 18) (v := .ref va) (C := RX13) (T := TX13) (N := 12) hx hb hts iWX13 hown hK hP 0 rfl rfl 4 (by decide) (hts (.fieldLink RX13 34 "BeaverhallModel$Machine" "moves" "[I") (by decide +kernel)) (fun _ h9 => h9) rfl dX13_tell_32 ?_
    refine lv_iload_n hx hb dX13_tell_35 rfl (lv_at hl 1 rfl) ?_
    refine lv_iload_n hx hb dX13_tell_36 rfl (lv_at hl 3 rfl) ?_
    refine va_iast hx hb hK hP hD hS 2 0 rfl rfl (vp_in_nI hkn (by omega)) dX13_tell_37 (fun H locs hP hD hS => ?_)
    obtain ⟨f_9, ef_9⟩ : ∃ z, z = (upd mv (nI k).toNatClampNeg mo) := ⟨_, rfl⟩
    have hP : va_P (dC, dI) vwCl [(ma, .inr (18, [.int 0, .int (nI S), .int (nI G), .ref wa, .ref va, .ref na, .int x_7, .null, .int de, .int aa, .int bb, .ref tz])), (wa, .inl (cI, n, .inl f_8)), (va, .inl (cI, n, .inl f_9)), (na, .inl (cI, n, .inl nx))] H := by rw [ef_9]; exact hP
    have hD : va_D A [(ma, .inr (18, [.int 0, .int (nI S), .int (nI G), .ref wa, .ref va, .ref na, .int x_7, .null, .int de, .int aa, .int bb, .ref tz])), (wa, .inl (cI, n, .inl f_8)), (va, .inl (cI, n, .inl f_9)), (na, .inl (cI, n, .inl nx))] := by rw [ef_9]; exact hD
    refine lv_aload_n hx hb dX13_tell_38 rfl (lv_at hl 0 rfl) ?_
    refine va_get (D := (dC, dI)) (ci := 18) (v := .ref na) (C := RX13) (T := TX13) (N := 12) hx hb hts iWX13 hown hK hP 0 rfl rfl 5 (by decide) (hts (.fieldLink RX13 37 "BeaverhallModel$Machine" "nexts" "[I") (by decide +kernel)) (fun _ h9 => h9) rfl dX13_tell_39 ?_
    refine lv_iload_n hx hb dX13_tell_42 rfl (lv_at hl 1 rfl) ?_
    refine lv_iload hx hb dX13_tell_43 (lv_at hl 4 rfl) ?_
    refine va_iast hx hb hK hP hD hS 3 0 rfl rfl (vp_in_nI hkn (by omega)) dX13_tell_45 (fun H locs hP hD hS => ?_)
    obtain ⟨f_10, ef_10⟩ : ∃ z, z = (upd nx (nI k).toNatClampNeg ne) := ⟨_, rfl⟩
    have hP : va_P (dC, dI) vwCl [(ma, .inr (18, [.int 0, .int (nI S), .int (nI G), .ref wa, .ref va, .ref na, .int x_7, .null, .int de, .int aa, .int bb, .ref tz])), (wa, .inl (cI, n, .inl f_8)), (va, .inl (cI, n, .inl f_9)), (na, .inl (cI, n, .inl f_10))] H := by rw [ef_10]; exact hP
    have hD : va_D A [(ma, .inr (18, [.int 0, .int (nI S), .int (nI G), .ref wa, .ref va, .ref na, .int x_7, .null, .int de, .int aa, .int bb, .ref tz])), (wa, .inl (cI, n, .inl f_8)), (va, .inl (cI, n, .inl f_9)), (na, .inl (cI, n, .inl f_10))] := by rw [ef_10]; exact hD
    refine lv_aload_n hx hb dX13_tell_46 rfl (lv_at hl 0 rfl) ?_
    have hPc := hP.sub (ws' := [(ma, .inr (18, [.int 0, .int (nI S), .int (nI G), .ref wa, .ref va, .ref na, .int x_7, .null, .int de, .int aa, .int bb, .ref tz]))]) [0] rfl
    have hDc := hD.sub (ws' := [(ma, .inr (18, [.int 0, .int (nI S), .int (nI G), .ref wa, .ref va, .ref na, .int x_7, .null, .int de, .int aa, .int bb, .ref tz]))]) [0] (by decide) rfl
    have hKc := hK.sub (tys' := []) [] rfl
    have hFc := va_free (wc := [(ma, .inr (18, [.int 0, .int (nI S), .int (nI G), .ref wa, .ref va, .ref na, .int x_7, .null, .int de, .int aa, .int bb, .ref tz]))]) hD hS hA [0] rfl
    refine va_callv (va_runV (As := []) (rest := []) ⟨hx, hb, hml, hown, hts⟩ (c_X13_forget l dC dI ma wa va na tz n S G x_7 de aa bb f_8 f_9 f_10 H.size) (cwV 0 hts gX13_tell_X13_forget rfl rfl rfl (by decide +kernel) ⟨Nat.le_of_ble_eq_true rfl, Nat.le_of_ble_eq_true rfl⟩) (pcV hPc hDc hKc hN (ci := 18) (q0 := 0) rfl rfl) rfl rfl hl.1 rfl (lv_room (Nat.le_of_ble_eq_true rfl)) dX13_tell_47 ⟨Nat.le_of_ble_eq_true rfl, Nat.le_of_ble_eq_true rfl⟩) hS (fun q _ h => hFc q h) hFc (fun u t H1 locs ht hvm hw_11 hB hz1 hk1 hS => ?_)
    obtain ⟨hP1, hK1, hD1⟩ := hB
    rw [ht] at hP1
    try dsimp only at hw_11
    obtain ⟨hP, hD⟩ := va_join (wr := [(wa, .inl (cI, n, .inl f_8)), (va, .inl (cI, n, .inl f_9)), (na, .inl (cI, n, .inl f_10))]) (w1 := [(ma, .inr (18, [.int 0, .int (nI S), .int (nI G), .ref wa, .ref va, .ref na, .int x_7, .null, .int 63, .int aa, .int bb, .ref tz]))]) hP hD [0] [1, 2, 3] rfl rfl (by decide) (by decide) hk1 hFc hP1 hD1
    generalize H1 = H at hP hS ⊢
    have hP : va_P (dC, dI) vwCl [(wa, .inl (cI, n, .inl f_8)), (va, .inl (cI, n, .inl f_9)), (na, .inl (cI, n, .inl f_10)), (ma, .inr (18, [.int 0, .int (nI S), .int (nI G), .ref wa, .ref va, .ref na, .int x_7, .null, .int 63, .int aa, .int bb, .ref tz]))] H := hP
    have hD : va_D A [(wa, .inl (cI, n, .inl f_8)), (va, .inl (cI, n, .inl f_9)), (na, .inl (cI, n, .inl f_10)), (ma, .inr (18, [.int 0, .int (nI S), .int (nI G), .ref wa, .ref va, .ref na, .int x_7, .null, .int 63, .int aa, .int bb, .ref tz]))] := hD
    have hP9 := hP.sub (ws' := [(ma, .inr (18, [.int 0, .int (nI S), .int (nI G), .ref wa, .ref va, .ref na, .int x_7, .null, .int 63, .int aa, .int bb, .ref tz])), (wa, .inl (cI, n, .inl f_8)), (va, .inl (cI, n, .inl f_9)), (na, .inl (cI, n, .inl f_10))]) [3, 0, 1, 2] rfl
    have hD9 := hD.sub (ws' := [(ma, .inr (18, [.int 0, .int (nI S), .int (nI G), .ref wa, .ref va, .ref na, .int x_7, .null, .int 63, .int aa, .int bb, .ref tz])), (wa, .inl (cI, n, .inl f_8)), (va, .inl (cI, n, .inl f_9)), (na, .inl (cI, n, .inl f_10))]) [3, 0, 1, 2] (by decide) rfl
    have hK9 := hK.sub (tys' := [(cI, .int)]) [0] rfl
    exact W.vret hx hb hr (fun t ht hW => ⟨⟨(x_7, f_8, f_9, f_10), rfl, (by (try subst hw_11); (try subst ef_10); (try subst ef_9); (try subst ef_8); (try subst ex_7); have hq : (nI k).toNatClampNeg = k := nI_clamp (by omega); simp only [hq] at *; simp [c12_1]), ⟨by rw [ht]; exact hP9, va_K.moved hW.alike hK9, hD9⟩⟩, hS.F ht⟩) hS.2.2 dX13_tell_50

set_option maxHeartbeats 4000000 in
set_option maxRecDepth 100000 in
/-- X13_untell -/
theorem c_X13_untell (l : Launch) (dC : Nat → ClassId) (dI : Nat → Nat → Nat) (cI : ClassId) (ma wa va na tz n S G : Nat) (my de aa bb : Int32) (w mv nx : Nat → Int32) (hn : n ≤ 24) (k : Nat) (hkn : k < n) (sz : Nat) : Met l yX13_untell wsX13_untell ({ frames := 1, cells := 0, slots := 0, locals := 24 }) (va_Pc [.ref ma, .int (nI k)] (cPC dC dI [(ma, .inr (18, [.int 0, .int (nI S), .int (nI G), .ref wa, .ref va, .ref na, .int my, .null, .int de, .int aa, .int bb, .ref tz])), (wa, .inl (cI, n, .inl w)), (va, .inl (cI, n, .inl mv)), (na, .inl (cI, n, .inl nx))] [(cI, .int)] sz)) (va_Qv (fun (u : Int32 × (Nat → Int32)) => u = (my - 1, upd w k (-1))) (fun (u : Int32 × (Nat → Int32)) t => cQB dC dI [(ma, .inr (18, [.int 0, .int (nI S), .int (nI G), .ref wa, .ref va, .ref na, .int u.1, .null, .int 63, .int aa, .int bb, .ref tz])), (wa, .inl (cI, n, .inl u.2)), (va, .inl (cI, n, .inl mv)), (na, .inl (cI, n, .inl nx))] [(cI, .int)] (va_A [(ma, .inr (18, [.int 0, .int (nI S), .int (nI G), .ref wa, .ref va, .ref na, .int my, .null, .int de, .int aa, .int bb, .ref tz])), (wa, .inl (cI, n, .inl w)), (va, .inl (cI, n, .inl mv)), (na, .inl (cI, n, .inl nx))] sz) t) (va_A [(ma, .inr (18, [.int 0, .int (nI S), .int (nI G), .ref wa, .ref va, .ref na, .int my, .null, .int de, .int aa, .int bb, .ref tz])), (wa, .inl (cI, n, .inl w)), (va, .inl (cI, n, .inl mv)), (na, .inl (cI, n, .inl nx))] sz)) 0 0 (va_A [(ma, .inr (18, [.int 0, .int (nI S), .int (nI G), .ref wa, .ref va, .ref na, .int my, .null, .int de, .int aa, .int bb, .ref tz])), (wa, .inl (cI, n, .inl w)), (va, .inl (cI, n, .inl mv)), (na, .inl (cI, n, .inl nx))] sz) := by
  refine Met.ofW (cc := cX13_untell) (maxL := 2) (ret := none) (by decide) rfl ?_
  intro p e s m args below meth c s₁ B hml hv
  obtain ⟨rfl, hsz, hP, hK, hD0, hN⟩ := hv
  have hx := B.exec
  have hb := B.bytes
  have hr := B.returns
  have hts := atoms_spec (ws := wsX13_untell) B.pre
  have hown : s.vm.findClass RX13 = some m.cls := findClass_of_methodNamed B.named
  have hlocks := B.notSynchronized
  subst hsz
  have hD := hD0.self (sz := s.heap.size)
  generalize hAe : va_A [(ma, .inr (18, [.int 0, .int (nI S), .int (nI G), .ref wa, .ref va, .ref na, .int my, .null, .int de, .int aa, .int bb, .ref tz])), (wa, .inl (cI, n, .inl w)), (va, .inl (cI, n, .inl mv)), (na, .inl (cI, n, .inl nx))] s.heap.size = A at hD ⊢
  have hA : ∀ q : Nat, s.heap.size ≤ q → A q := fun q h => by rw [← hAe]; exact Or.inr h
  have hS : va_S A s.heap s.heap [] := va_S.rf
  have hP : va_P (dC, dI) vwCl [(ma, .inr (18, [.int 0, .int (nI S), .int (nI G), .ref wa, .ref va, .ref na, .int my, .null, .int de, .int aa, .int bb, .ref tz])), (wa, .inl (cI, n, .inl w)), (va, .inl (cI, n, .inl mv)), (na, .inl (cI, n, .inl nx))] s.heap := hP
  have hD : va_D A [(ma, .inr (18, [.int 0, .int (nI S), .int (nI G), .ref wa, .ref va, .ref na, .int my, .null, .int de, .int aa, .int bb, .ref tz])), (wa, .inl (cI, n, .inl w)), (va, .inl (cI, n, .inl mv)), (na, .inl (cI, n, .inl nx))] := hD
  have hl := lv_entry ([.ref ma, .int (nI k)]) (n := 2) (Nat.le_of_ble_eq_true rfl)
  rw [lg_entry_eq]
  generalize (lg_sl ([.ref ma, .int (nI k)]) ++ List.replicate (2 - (lg_sl ([.ref ma, .int (nI k)])).length) Slot.unset).toArray = ls at hl ⊢
  have hl : lv_has ls 2 [(0, .ref ma), (1, .int (nI k))] := hl
  have iWX13 : ∀ w ∈ u_ws RX13 TX13 12, w ∈ wsX13_untell := by decide +kernel
  refine lv_aload_n hx hb dX13_untell_0 rfl (lv_at hl 0 rfl) ?_
  refine va_get (D := (dC, dI)) (ci := 18) (v := .ref wa) (C := RX13) (T := TX13) (N := 12) hx hb hts iWX13 hown hK hP 0 rfl rfl 3 (by decide) (hts (.fieldLink RX13 30 "BeaverhallModel$Machine" "writes" "[I") (by decide +kernel)) (fun _ h9 => h9) rfl dX13_untell_1 ?_
  refine lv_iload_n hx hb dX13_untell_4 rfl (lv_at hl 1 rfl) ?_
  refine lv_iconst (v := (-1)) hx hb dX13_untell_5 (by decide) ?_
  refine va_iast hx hb hK hP hD hS 1 0 rfl rfl (vp_in_nI hkn (by omega)) dX13_untell_6 (fun H locs hP hD hS => ?_)
  obtain ⟨f_1, ef_1⟩ : ∃ z, z = (upd w (nI k).toNatClampNeg (-1)) := ⟨_, rfl⟩
  have hP : va_P (dC, dI) vwCl [(ma, .inr (18, [.int 0, .int (nI S), .int (nI G), .ref wa, .ref va, .ref na, .int my, .null, .int de, .int aa, .int bb, .ref tz])), (wa, .inl (cI, n, .inl f_1)), (va, .inl (cI, n, .inl mv)), (na, .inl (cI, n, .inl nx))] H := by rw [ef_1]; exact hP
  have hD : va_D A [(ma, .inr (18, [.int 0, .int (nI S), .int (nI G), .ref wa, .ref va, .ref na, .int my, .null, .int de, .int aa, .int bb, .ref tz])), (wa, .inl (cI, n, .inl f_1)), (va, .inl (cI, n, .inl mv)), (na, .inl (cI, n, .inl nx))] := by rw [ef_1]; exact hD
  refine lv_aload_n hx hb dX13_untell_7 rfl (lv_at hl 0 rfl) ?_
  refine lv_dup hx hb dX13_untell_8 rfl ?_
  refine va_get (D := (dC, dI)) (ci := 18) (v := .int my) (C := RX13) (T := TX13) (N := 12) hx hb hts iWX13 hown hK hP 0 rfl rfl 6 (by decide) (hts (.fieldLink RX13 43 "BeaverhallModel$Machine" "many" "I") (by decide +kernel)) (fun _ h9 => h9) rfl dX13_untell_9 ?_
  refine lv_iconst (v := 1) hx hb dX13_untell_12 (by decide) ?_
  refine lv_isub hx hb dX13_untell_13 ?_
  refine lv_topi (fun x_2 ex_2 => ?_)
  refine va_put (D := (dC, dI)) (ci := 18) (v := .int x_2) (ty := .int) (C := RX13) (T := TX13) (N := 12) hx hb hts iWX13 tyX13 tyX13_ok nmX13 hown hK hP hD hS 0 rfl rfl 6 (by decide) (hts (.fieldLink RX13 43 "BeaverhallModel$Machine" "many" "I") (by decide +kernel)) (fun _ h9 => h9) rfl (by decide +kernel) rfl rfl (Nat.le_of_ble_eq_true rfl) dX13_untell_14 (fun H locs hP hD hS => ?_)
  have hP : va_P (dC, dI) vwCl [(ma, .inr (18, [.int 0, .int (nI S), .int (nI G), .ref wa, .ref va, .ref na, .int x_2, .null, .int de, .int aa, .int bb, .ref tz])), (wa, .inl (cI, n, .inl f_1)), (va, .inl (cI, n, .inl mv)), (na, .inl (cI, n, .inl nx))] H := hP
  have hD : va_D A [(ma, .inr (18, [.int 0, .int (nI S), .int (nI G), .ref wa, .ref va, .ref na, .int x_2, .null, .int de, .int aa, .int bb, .ref tz])), (wa, .inl (cI, n, .inl f_1)), (va, .inl (cI, n, .inl mv)), (na, .inl (cI, n, .inl nx))] := hD
  refine lv_aload_n hx hb dX13_untell_17 rfl (lv_at hl 0 rfl) ?_
  have hPc := hP.sub (ws' := [(ma, .inr (18, [.int 0, .int (nI S), .int (nI G), .ref wa, .ref va, .ref na, .int x_2, .null, .int de, .int aa, .int bb, .ref tz]))]) [0] rfl
  have hDc := hD.sub (ws' := [(ma, .inr (18, [.int 0, .int (nI S), .int (nI G), .ref wa, .ref va, .ref na, .int x_2, .null, .int de, .int aa, .int bb, .ref tz]))]) [0] (by decide) rfl
  have hKc := hK.sub (tys' := []) [] rfl
  have hFc := va_free (wc := [(ma, .inr (18, [.int 0, .int (nI S), .int (nI G), .ref wa, .ref va, .ref na, .int x_2, .null, .int de, .int aa, .int bb, .ref tz]))]) hD hS hA [0] rfl
  refine va_callv (va_runV (As := []) (rest := []) ⟨hx, hb, hml, hown, hts⟩ (c_X13_forget l dC dI ma wa va na tz n S G x_2 de aa bb f_1 mv nx H.size) (cwV 0 hts gX13_untell_X13_forget rfl rfl rfl (by decide +kernel) ⟨Nat.le_of_ble_eq_true rfl, Nat.le_of_ble_eq_true rfl⟩) (pcV hPc hDc hKc hN (ci := 18) (q0 := 0) rfl rfl) rfl rfl hl.1 rfl (lv_room (Nat.le_of_ble_eq_true rfl)) dX13_untell_18 ⟨Nat.le_of_ble_eq_true rfl, Nat.le_of_ble_eq_true rfl⟩) hS (fun q _ h => hFc q h) hFc (fun u t H1 locs ht hvm hw_3 hB hz1 hk1 hS => ?_)
  obtain ⟨hP1, hK1, hD1⟩ := hB
  rw [ht] at hP1
  try dsimp only at hw_3
  obtain ⟨hP, hD⟩ := va_join (wr := [(wa, .inl (cI, n, .inl f_1)), (va, .inl (cI, n, .inl mv)), (na, .inl (cI, n, .inl nx))]) (w1 := [(ma, .inr (18, [.int 0, .int (nI S), .int (nI G), .ref wa, .ref va, .ref na, .int x_2, .null, .int 63, .int aa, .int bb, .ref tz]))]) hP hD [0] [1, 2, 3] rfl rfl (by decide) (by decide) hk1 hFc hP1 hD1
  generalize H1 = H at hP hS ⊢
  have hP : va_P (dC, dI) vwCl [(wa, .inl (cI, n, .inl f_1)), (va, .inl (cI, n, .inl mv)), (na, .inl (cI, n, .inl nx)), (ma, .inr (18, [.int 0, .int (nI S), .int (nI G), .ref wa, .ref va, .ref na, .int x_2, .null, .int 63, .int aa, .int bb, .ref tz]))] H := hP
  have hD : va_D A [(wa, .inl (cI, n, .inl f_1)), (va, .inl (cI, n, .inl mv)), (na, .inl (cI, n, .inl nx)), (ma, .inr (18, [.int 0, .int (nI S), .int (nI G), .ref wa, .ref va, .ref na, .int x_2, .null, .int 63, .int aa, .int bb, .ref tz]))] := hD
  have hP9 := hP.sub (ws' := [(ma, .inr (18, [.int 0, .int (nI S), .int (nI G), .ref wa, .ref va, .ref na, .int x_2, .null, .int 63, .int aa, .int bb, .ref tz])), (wa, .inl (cI, n, .inl f_1)), (va, .inl (cI, n, .inl mv)), (na, .inl (cI, n, .inl nx))]) [3, 0, 1, 2] rfl
  have hD9 := hD.sub (ws' := [(ma, .inr (18, [.int 0, .int (nI S), .int (nI G), .ref wa, .ref va, .ref na, .int x_2, .null, .int 63, .int aa, .int bb, .ref tz])), (wa, .inl (cI, n, .inl f_1)), (va, .inl (cI, n, .inl mv)), (na, .inl (cI, n, .inl nx))]) [3, 0, 1, 2] (by decide) rfl
  have hK9 := hK.sub (tys' := [(cI, .int)]) [0] rfl
  exact W.vret hx hb hr (fun t ht hW => ⟨⟨(x_2, f_1), rfl, (by (try subst hw_3); (try subst ex_2); (try subst ef_1); rw [show (nI k).toNatClampNeg = k from nI_clamp (by omega)]), ⟨by rw [ht]; exact hP9, va_K.moved hW.alike hK9, hD9⟩⟩, hS.F ht⟩) hS.2.2 dX13_untell_21

set_option maxHeartbeats 4000000 in
set_option maxRecDepth 100000 in
/-- X13_init -/
theorem c_X13_init (l : Launch) (dC : Nat → ClassId) (dI : Nat → Nat → Nat) (cI : ClassId) (ma S G : Nat) (hSG : S * G ≤ 24) (sz : Nat) : Met l yX13_init wsX13_init ({ frames := 1, cells := 4, slots := 76, locals := 12 }) (va_Pc [.ref ma, .int 0, .int (nI S), .int (nI G)] (cPC dC dI [(ma, .inr (18, [.int 0, .int 0, .int 0, .null, .null, .null, .int 0, .null, .int 0, .int 0, .int 0, .null]))] [(cI, .int)] sz)) (va_Qv (fun (u : Nat × Nat × Nat × Nat) => True) (fun (u : Nat × Nat × Nat × Nat) t => cQB dC dI [(ma, .inr (18, [.int 0, .int (nI S), .int (nI G), .ref u.1, .ref u.2.1, .ref u.2.2.1, .int 0, .null, .int 63, .int 0, .int 0, .ref u.2.2.2])), (u.1, .inl (cI, (S * G), .inl (fun q => if q < S * G then -1 else 0))), (u.2.1, .inl (cI, (S * G), .inl (fun _ => 0))), (u.2.2.1, .inl (cI, (S * G), .inl (fun _ => 0)))] [(cI, .int)] (va_A [(ma, .inr (18, [.int 0, .int 0, .int 0, .null, .null, .null, .int 0, .null, .int 0, .int 0, .int 0, .null]))] sz) t) (va_A [(ma, .inr (18, [.int 0, .int 0, .int 0, .null, .null, .null, .int 0, .null, .int 0, .int 0, .int 0, .null]))] sz)) 4 76 (va_A [(ma, .inr (18, [.int 0, .int 0, .int 0, .null, .null, .null, .int 0, .null, .int 0, .int 0, .int 0, .null]))] sz) := by
  refine Met.ofW (cc := cX13_init) (maxL := 5) (ret := none) (by decide) rfl ?_
  intro p e s m args below meth c s₁ B hml hv
  obtain ⟨rfl, hsz, hP, hK, hD0, hN⟩ := hv
  have hx := B.exec
  have hb := B.bytes
  have hr := B.returns
  have hts := atoms_spec (ws := wsX13_init) B.pre
  have hown : s.vm.findClass RX13 = some m.cls := findClass_of_methodNamed B.named
  have hlocks := B.notSynchronized
  have hin : meth.name = "<init>" := (name_of_methodNamed B.named B.method).1
  subst hsz
  have hD := hD0.self (sz := s.heap.size)
  generalize hAe : va_A [(ma, .inr (18, [.int 0, .int 0, .int 0, .null, .null, .null, .int 0, .null, .int 0, .int 0, .int 0, .null]))] s.heap.size = A at hD ⊢
  have hA : ∀ q : Nat, s.heap.size ≤ q → A q := fun q h => by rw [← hAe]; exact Or.inr h
  have hS : va_S A s.heap s.heap [] := va_S.rf
  have hP : va_P (dC, dI) vwCl [(ma, .inr (18, [.int 0, .int 0, .int 0, .null, .null, .null, .int 0, .null, .int 0, .int 0, .int 0, .null]))] s.heap := hP
  have hD : va_D A [(ma, .inr (18, [.int 0, .int 0, .int 0, .null, .null, .null, .int 0, .null, .int 0, .int 0, .int 0, .null]))] := hD
  have hl := lv_entry ([.ref ma, .int 0, .int (nI S), .int (nI G)]) (n := 5) (Nat.le_of_ble_eq_true rfl)
  rw [lg_entry_eq]
  generalize (lg_sl ([.ref ma, .int 0, .int (nI S), .int (nI G)]) ++ List.replicate (5 - (lg_sl ([.ref ma, .int 0, .int (nI S), .int (nI G)])).length) Slot.unset).toArray = ls at hl ⊢
  have hl : lv_has ls 5 [(0, .ref ma), (1, .int 0), (2, .int (nI S)), (3, .int (nI G))] := hl
  have iWX13 : ∀ w ∈ u_ws RX13 TX13 12, w ∈ wsX13_init := by decide +kernel
  refine lv_aload_n hx hb dX13_init_0 rfl (lv_at hl 0 rfl) ?_
  refine W.objInit hx hb hown (hts (.methodLink RX13 3 Lib.objectInit) (by decide +kernel)) (hts (.instanceMethod Lib.objectInit) (by decide +kernel)) (hts (.code Lib.objectInit ⟨#[0xb1]⟩ 1 none) (by decide +kernel)) rfl (by rw [hml]; exact hl.1) rfl dX13_init_1 (Nat.le_of_ble_eq_true rfl) (Nat.le_of_ble_eq_true rfl) ?_
  refine W.eq (g2 := F0 m 4 ls []) rfl ?_
  refine lv_aload_n hx hb dX13_init_4 rfl (lv_at hl 0 rfl) ?_
  refine lv_bipush (v := 63) hx hb dX13_init_5 (by decide) ?_
  refine va_put (D := (dC, dI)) (ci := 18) (v := .int 63) (ty := .char) (C := RX13) (T := TX13) (N := 12) hx hb hts iWX13 tyX13 tyX13_ok nmX13 hown hK hP hD hS 0 rfl rfl 8 (by decide) (hts (.fieldLink RX13 9 "BeaverhallModel$Machine" "decider" "C") (by decide +kernel)) (fun _ h9 => h9) rfl (by decide +kernel) rfl rfl (Nat.le_of_ble_eq_true rfl) dX13_init_7 (fun H locs hP hD hS => ?_)
  have hP : va_P (dC, dI) vwCl [(ma, .inr (18, [.int 0, .int 0, .int 0, .null, .null, .null, .int 0, .null, .int 63, .int 0, .int 0, .null]))] H := hP
  have hD : va_D A [(ma, .inr (18, [.int 0, .int 0, .int 0, .null, .null, .null, .int 0, .null, .int 63, .int 0, .int 0, .null]))] := hD
  refine lv_aload_n hx hb dX13_init_10 rfl (lv_at hl 0 rfl) ?_
  refine lv_iconst (v := 4) hx hb dX13_init_11 (by decide) ?_
  refine va_newa (atype := .char) (ty := .char) (a0 := (4, .inl (fun _ => 0))) (N' := 4) hx hb (hts (.arrayClass .char) (by decide +kernel)) rfl hK hP hD hS hA (fun _ => rfl) (by decide) (by decide) (Nat.le_of_ble_eq_true rfl) (Nat.le_of_ble_eq_true rfl) (Nat.le_of_ble_eq_true rfl) dX13_init_12 (fun q_2 cA_1 H hK hP hD hS => ?_)
  have hK : va_K (dC, dI) vwCl [(cI, .int), (cA_1, .char)] s := hK
  have hP : va_P (dC, dI) vwCl [(ma, .inr (18, [.int 0, .int 0, .int 0, .null, .null, .null, .int 0, .null, .int 63, .int 0, .int 0, .null])), (q_2, .inl (cA_1, 4, .inl (fun _ => 0)))] H := hP
  have hD : va_D A [(ma, .inr (18, [.int 0, .int 0, .int 0, .null, .null, .null, .int 0, .null, .int 63, .int 0, .int 0, .null])), (q_2, .inl (cA_1, 4, .inl (fun _ => 0)))] := hD
  refine W.widen (k := 1) (n := 4) (Nat.le_of_ble_eq_true rfl) (Nat.le_of_ble_eq_true rfl) ?_
  refine lv_dup hx hb dX13_init_14 rfl ?_
  refine lv_iconst (v := 0) hx hb dX13_init_15 (by decide) ?_
  refine lv_bipush (v := 63) hx hb dX13_init_16 (by decide) ?_
  refine va_cast hx hb hK hP hD hS 1 1 rfl rfl (show vp_in (nI 0) 4 from vp_in_nI (by decide) (by decide)) dX13_init_18 (fun H locs hP hD hS => ?_)
  obtain ⟨f_3, ef_3⟩ : ∃ z, z = (upd (fun _ => 0) ((0 : Int32)).toNatClampNeg (vp_nar .char 63)) := ⟨_, rfl⟩
  have hP : va_P (dC, dI) vwCl [(ma, .inr (18, [.int 0, .int 0, .int 0, .null, .null, .null, .int 0, .null, .int 63, .int 0, .int 0, .null])), (q_2, .inl (cA_1, 4, .inl f_3))] H := by rw [ef_3]; exact hP
  have hD : va_D A [(ma, .inr (18, [.int 0, .int 0, .int 0, .null, .null, .null, .int 0, .null, .int 63, .int 0, .int 0, .null])), (q_2, .inl (cA_1, 4, .inl f_3))] := by rw [ef_3]; exact hD
  refine lv_dup hx hb dX13_init_19 rfl ?_
  refine lv_iconst (v := 1) hx hb dX13_init_20 (by decide) ?_
  refine lv_bipush (v := 63) hx hb dX13_init_21 (by decide) ?_
  refine va_cast hx hb hK hP hD hS 1 1 rfl rfl (show vp_in (nI 1) 4 from vp_in_nI (by decide) (by decide)) dX13_init_23 (fun H locs hP hD hS => ?_)
  obtain ⟨f_4, ef_4⟩ : ∃ z, z = (upd f_3 ((1 : Int32)).toNatClampNeg (vp_nar .char 63)) := ⟨_, rfl⟩
  have hP : va_P (dC, dI) vwCl [(ma, .inr (18, [.int 0, .int 0, .int 0, .null, .null, .null, .int 0, .null, .int 63, .int 0, .int 0, .null])), (q_2, .inl (cA_1, 4, .inl f_4))] H := by rw [ef_4]; exact hP
  have hD : va_D A [(ma, .inr (18, [.int 0, .int 0, .int 0, .null, .null, .null, .int 0, .null, .int 63, .int 0, .int 0, .null])), (q_2, .inl (cA_1, 4, .inl f_4))] := by rw [ef_4]; exact hD
  refine lv_dup hx hb dX13_init_24 rfl ?_
  refine lv_iconst (v := 2) hx hb dX13_init_25 (by decide) ?_
  refine lv_bipush (v := 63) hx hb dX13_init_26 (by decide) ?_
  refine va_cast hx hb hK hP hD hS 1 1 rfl rfl (show vp_in (nI 2) 4 from vp_in_nI (by decide) (by decide)) dX13_init_28 (fun H locs hP hD hS => ?_)
  obtain ⟨f_5, ef_5⟩ : ∃ z, z = (upd f_4 ((2 : Int32)).toNatClampNeg (vp_nar .char 63)) := ⟨_, rfl⟩
  have hP : va_P (dC, dI) vwCl [(ma, .inr (18, [.int 0, .int 0, .int 0, .null, .null, .null, .int 0, .null, .int 63, .int 0, .int 0, .null])), (q_2, .inl (cA_1, 4, .inl f_5))] H := by rw [ef_5]; exact hP
  have hD : va_D A [(ma, .inr (18, [.int 0, .int 0, .int 0, .null, .null, .null, .int 0, .null, .int 63, .int 0, .int 0, .null])), (q_2, .inl (cA_1, 4, .inl f_5))] := by rw [ef_5]; exact hD
  refine lv_dup hx hb dX13_init_29 rfl ?_
  refine lv_iconst (v := 3) hx hb dX13_init_30 (by decide) ?_
  refine lv_bipush (v := 63) hx hb dX13_init_31 (by decide) ?_
  refine va_cast hx hb hK hP hD hS 1 1 rfl rfl (show vp_in (nI 3) 4 from vp_in_nI (by decide) (by decide)) dX13_init_33 (fun H locs hP hD hS => ?_)
  obtain ⟨f_6, ef_6⟩ : ∃ z, z = (upd f_5 ((3 : Int32)).toNatClampNeg (vp_nar .char 63)) := ⟨_, rfl⟩
  have hP : va_P (dC, dI) vwCl [(ma, .inr (18, [.int 0, .int 0, .int 0, .null, .null, .null, .int 0, .null, .int 63, .int 0, .int 0, .null])), (q_2, .inl (cA_1, 4, .inl f_6))] H := by rw [ef_6]; exact hP
  have hD : va_D A [(ma, .inr (18, [.int 0, .int 0, .int 0, .null, .null, .null, .int 0, .null, .int 63, .int 0, .int 0, .null])), (q_2, .inl (cA_1, 4, .inl f_6))] := by rw [ef_6]; exact hD
  refine va_putF (D := (dC, dI)) (ci := 18) (v := .ref q_2) (ty := .array .char) (C := RX13) (T := TX13) (N := 12) hx hb hts iWX13 tyX13 tyX13_ok nmX13 hown hK hP hD hS 0 rfl rfl 11 (by decide) (hts (.fieldLink RX13 15 "BeaverhallModel$Machine" "tells" "[C") (by decide +kernel)) (fun _ h9 => h9) rfl hin rfl (by decide +kernel) rfl rfl (Nat.le_of_ble_eq_true rfl) dX13_init_34 (fun H locs hP hD hS => ?_)
  have hP : va_P (dC, dI) vwCl [(ma, .inr (18, [.int 0, .int 0, .int 0, .null, .null, .null, .int 0, .null, .int 63, .int 0, .int 0, .ref q_2])), (q_2, .inl (cA_1, 4, .inl f_6))] H := hP
  have hD : va_D A [(ma, .inr (18, [.int 0, .int 0, .int 0, .null, .null, .null, .int 0, .null, .int 63, .int 0, .int 0, .ref q_2])), (q_2, .inl (cA_1, 4, .inl f_6))] := hD
  refine lv_aload_n hx hb dX13_init_37 rfl (lv_at hl 0 rfl) ?_
  refine lv_iload_n hx hb dX13_init_38 rfl (lv_at hl 1 rfl) ?_
  refine va_putF (D := (dC, dI)) (ci := 18) (v := .int 0) (ty := .boolean) (C := RX13) (T := TX13) (N := 12) hx hb hts iWX13 tyX13 tyX13_ok nmX13 hown hK hP hD hS 0 rfl rfl 0 (by decide) (hts (.fieldLink RX13 19 "BeaverhallModel$Machine" "hasEnd" "Z") (by decide +kernel)) (fun _ h9 => h9) rfl hin rfl (by decide +kernel) rfl rfl (Nat.le_of_ble_eq_true rfl) dX13_init_39 (fun H locs hP hD hS => ?_)
  have hP : va_P (dC, dI) vwCl [(ma, .inr (18, [.int 0, .int 0, .int 0, .null, .null, .null, .int 0, .null, .int 63, .int 0, .int 0, .ref q_2])), (q_2, .inl (cA_1, 4, .inl f_6))] H := hP
  have hD : va_D A [(ma, .inr (18, [.int 0, .int 0, .int 0, .null, .null, .null, .int 0, .null, .int 63, .int 0, .int 0, .ref q_2])), (q_2, .inl (cA_1, 4, .inl f_6))] := hD
  refine lv_aload_n hx hb dX13_init_42 rfl (lv_at hl 0 rfl) ?_
  refine lv_iload_n hx hb dX13_init_43 rfl (lv_at hl 2 rfl) ?_
  refine va_putF (D := (dC, dI)) (ci := 18) (v := .int (nI S)) (ty := .int) (C := RX13) (T := TX13) (N := 12) hx hb hts iWX13 tyX13 tyX13_ok nmX13 hown hK hP hD hS 0 rfl rfl 1 (by decide) (hts (.fieldLink RX13 23 "BeaverhallModel$Machine" "states" "I") (by decide +kernel)) (fun _ h9 => h9) rfl hin rfl (by decide +kernel) rfl rfl (Nat.le_of_ble_eq_true rfl) dX13_init_44 (fun H locs hP hD hS => ?_)
  have hP : va_P (dC, dI) vwCl [(ma, .inr (18, [.int 0, .int (nI S), .int 0, .null, .null, .null, .int 0, .null, .int 63, .int 0, .int 0, .ref q_2])), (q_2, .inl (cA_1, 4, .inl f_6))] H := hP
  have hD : va_D A [(ma, .inr (18, [.int 0, .int (nI S), .int 0, .null, .null, .null, .int 0, .null, .int 63, .int 0, .int 0, .ref q_2])), (q_2, .inl (cA_1, 4, .inl f_6))] := hD
  refine lv_aload_n hx hb dX13_init_47 rfl (lv_at hl 0 rfl) ?_
  refine lv_iload_n hx hb dX13_init_48 rfl (lv_at hl 3 rfl) ?_
  refine va_putF (D := (dC, dI)) (ci := 18) (v := .int (nI G)) (ty := .int) (C := RX13) (T := TX13) (N := 12) hx hb hts iWX13 tyX13 tyX13_ok nmX13 hown hK hP hD hS 0 rfl rfl 2 (by decide) (hts (.fieldLink RX13 27 "BeaverhallModel$Machine" "signs" "I") (by decide +kernel)) (fun _ h9 => h9) rfl hin rfl (by decide +kernel) rfl rfl (Nat.le_of_ble_eq_true rfl) dX13_init_49 (fun H locs hP hD hS => ?_)
  have hP : va_P (dC, dI) vwCl [(ma, .inr (18, [.int 0, .int (nI S), .int (nI G), .null, .null, .null, .int 0, .null, .int 63, .int 0, .int 0, .ref q_2])), (q_2, .inl (cA_1, 4, .inl f_6))] H := hP
  have hD : va_D A [(ma, .inr (18, [.int 0, .int (nI S), .int (nI G), .null, .null, .null, .int 0, .null, .int 63, .int 0, .int 0, .ref q_2])), (q_2, .inl (cA_1, 4, .inl f_6))] := hD
  refine lv_aload_n hx hb dX13_init_52 rfl (lv_at hl 0 rfl) ?_
  refine lv_iload_n hx hb dX13_init_53 rfl (lv_at hl 2 rfl) ?_
  refine lv_iload_n hx hb dX13_init_54 rfl (lv_at hl 3 rfl) ?_
  refine lv_imul hx hb dX13_init_55 ?_
  refine va_newa (atype := .int) (ty := .int) (a0 := ((S * G), .inl (fun _ => 0))) (N' := (S * G)) hx hb (hts (.arrayClass .int) (by decide +kernel)) rfl hK hP hD hS hA (fun _ => rfl) (nI_mulneg hSG) (nI_mulcl hSG) (Nat.le_trans (Nat.mul_le_mul_right _ hSG) (Nat.le_of_ble_eq_true rfl)) (Nat.le_of_ble_eq_true rfl) (Nat.le_trans (Nat.add_le_add_left hSG _) (Nat.le_of_ble_eq_true rfl)) dX13_init_56 (fun q_8 cA_7 H hK hP hD hS => ?_)
  have ecA_7 : cI = cA_7 := cA_one hK (i := 0) (j := 2) rfl rfl
  subst ecA_7
  have hK := hK.sub (tys' := [(cI, .int), (cA_1, .char)]) [0, 1] rfl
  have hP : va_P (dC, dI) vwCl [(ma, .inr (18, [.int 0, .int (nI S), .int (nI G), .null, .null, .null, .int 0, .null, .int 63, .int 0, .int 0, .ref q_2])), (q_2, .inl (cA_1, 4, .inl f_6)), (q_8, .inl (cI, (S * G), .inl (fun _ => 0)))] H := hP
  have hD : va_D A [(ma, .inr (18, [.int 0, .int (nI S), .int (nI G), .null, .null, .null, .int 0, .null, .int 63, .int 0, .int 0, .ref q_2])), (q_2, .inl (cA_1, 4, .inl f_6)), (q_8, .inl (cI, (S * G), .inl (fun _ => 0)))] := hD
  refine W.widen (k := 2) (n := 28) (Nat.le_of_ble_eq_true rfl) (Nat.add_le_add_left hSG _) ?_
  refine va_putF (D := (dC, dI)) (ci := 18) (v := .ref q_8) (ty := .array .int) (C := RX13) (T := TX13) (N := 12) hx hb hts iWX13 tyX13 tyX13_ok nmX13 hown hK hP hD hS 0 rfl rfl 3 (by decide) (hts (.fieldLink RX13 30 "BeaverhallModel$Machine" "writes" "[I") (by decide +kernel)) (fun _ h9 => h9) rfl hin rfl (by decide +kernel) rfl rfl (Nat.le_of_ble_eq_true rfl) dX13_init_58 (fun H locs hP hD hS => ?_)
  have hP : va_P (dC, dI) vwCl [(ma, .inr (18, [.int 0, .int (nI S), .int (nI G), .ref q_8, .null, .null, .int 0, .null, .int 63, .int 0, .int 0, .ref q_2])), (q_2, .inl (cA_1, 4, .inl f_6)), (q_8, .inl (cI, (S * G), .inl (fun _ => 0)))] H := hP
  have hD : va_D A [(ma, .inr (18, [.int 0, .int (nI S), .int (nI G), .ref q_8, .null, .null, .int 0, .null, .int 63, .int 0, .int 0, .ref q_2])), (q_2, .inl (cA_1, 4, .inl f_6)), (q_8, .inl (cI, (S * G), .inl (fun _ => 0)))] := hD
  refine lv_aload_n hx hb dX13_init_61 rfl (lv_at hl 0 rfl) ?_
  refine lv_iload_n hx hb dX13_init_62 rfl (lv_at hl 2 rfl) ?_
  refine lv_iload_n hx hb dX13_init_63 rfl (lv_at hl 3 rfl) ?_
  refine lv_imul hx hb dX13_init_64 ?_
  refine va_newa (atype := .int) (ty := .int) (a0 := ((S * G), .inl (fun _ => 0))) (N' := (S * G)) hx hb (hts (.arrayClass .int) (by decide +kernel)) rfl hK hP hD hS hA (fun _ => rfl) (nI_mulneg hSG) (nI_mulcl hSG) (Nat.le_trans (Nat.mul_le_mul_right _ hSG) (Nat.le_of_ble_eq_true rfl)) (Nat.le_of_ble_eq_true rfl) (Nat.le_trans (Nat.add_le_add_left hSG _) (Nat.le_of_ble_eq_true rfl)) dX13_init_65 (fun q_10 cA_9 H hK hP hD hS => ?_)
  have ecA_9 : cI = cA_9 := cA_one hK (i := 0) (j := 2) rfl rfl
  subst ecA_9
  have hK := hK.sub (tys' := [(cI, .int), (cA_1, .char)]) [0, 1] rfl
  have hP : va_P (dC, dI) vwCl [(ma, .inr (18, [.int 0, .int (nI S), .int (nI G), .ref q_8, .null, .null, .int 0, .null, .int 63, .int 0, .int 0, .ref q_2])), (q_2, .inl (cA_1, 4, .inl f_6)), (q_8, .inl (cI, (S * G), .inl (fun _ => 0))), (q_10, .inl (cI, (S * G), .inl (fun _ => 0)))] H := hP
  have hD : va_D A [(ma, .inr (18, [.int 0, .int (nI S), .int (nI G), .ref q_8, .null, .null, .int 0, .null, .int 63, .int 0, .int 0, .ref q_2])), (q_2, .inl (cA_1, 4, .inl f_6)), (q_8, .inl (cI, (S * G), .inl (fun _ => 0))), (q_10, .inl (cI, (S * G), .inl (fun _ => 0)))] := hD
  refine W.widen (k := 3) (n := 52) (Nat.le_of_ble_eq_true rfl) (Nat.add_le_add_left hSG _) ?_
  refine va_putF (D := (dC, dI)) (ci := 18) (v := .ref q_10) (ty := .array .int) (C := RX13) (T := TX13) (N := 12) hx hb hts iWX13 tyX13 tyX13_ok nmX13 hown hK hP hD hS 0 rfl rfl 4 (by decide) (hts (.fieldLink RX13 34 "BeaverhallModel$Machine" "moves" "[I") (by decide +kernel)) (fun _ h9 => h9) rfl hin rfl (by decide +kernel) rfl rfl (Nat.le_of_ble_eq_true rfl) dX13_init_67 (fun H locs hP hD hS => ?_)
  have hP : va_P (dC, dI) vwCl [(ma, .inr (18, [.int 0, .int (nI S), .int (nI G), .ref q_8, .ref q_10, .null, .int 0, .null, .int 63, .int 0, .int 0, .ref q_2])), (q_2, .inl (cA_1, 4, .inl f_6)), (q_8, .inl (cI, (S * G), .inl (fun _ => 0))), (q_10, .inl (cI, (S * G), .inl (fun _ => 0)))] H := hP
  have hD : va_D A [(ma, .inr (18, [.int 0, .int (nI S), .int (nI G), .ref q_8, .ref q_10, .null, .int 0, .null, .int 63, .int 0, .int 0, .ref q_2])), (q_2, .inl (cA_1, 4, .inl f_6)), (q_8, .inl (cI, (S * G), .inl (fun _ => 0))), (q_10, .inl (cI, (S * G), .inl (fun _ => 0)))] := hD
  refine lv_aload_n hx hb dX13_init_70 rfl (lv_at hl 0 rfl) ?_
  refine lv_iload_n hx hb dX13_init_71 rfl (lv_at hl 2 rfl) ?_
  refine lv_iload_n hx hb dX13_init_72 rfl (lv_at hl 3 rfl) ?_
  refine lv_imul hx hb dX13_init_73 ?_
  refine va_newa (atype := .int) (ty := .int) (a0 := ((S * G), .inl (fun _ => 0))) (N' := (S * G)) hx hb (hts (.arrayClass .int) (by decide +kernel)) rfl hK hP hD hS hA (fun _ => rfl) (nI_mulneg hSG) (nI_mulcl hSG) (Nat.le_trans (Nat.mul_le_mul_right _ hSG) (Nat.le_of_ble_eq_true rfl)) (Nat.le_of_ble_eq_true rfl) (Nat.le_trans (Nat.add_le_add_left hSG _) (Nat.le_of_ble_eq_true rfl)) dX13_init_74 (fun q_12 cA_11 H hK hP hD hS => ?_)
  have ecA_11 : cI = cA_11 := cA_one hK (i := 0) (j := 2) rfl rfl
  subst ecA_11
  have hK := hK.sub (tys' := [(cI, .int), (cA_1, .char)]) [0, 1] rfl
  have hP : va_P (dC, dI) vwCl [(ma, .inr (18, [.int 0, .int (nI S), .int (nI G), .ref q_8, .ref q_10, .null, .int 0, .null, .int 63, .int 0, .int 0, .ref q_2])), (q_2, .inl (cA_1, 4, .inl f_6)), (q_8, .inl (cI, (S * G), .inl (fun _ => 0))), (q_10, .inl (cI, (S * G), .inl (fun _ => 0))), (q_12, .inl (cI, (S * G), .inl (fun _ => 0)))] H := hP
  have hD : va_D A [(ma, .inr (18, [.int 0, .int (nI S), .int (nI G), .ref q_8, .ref q_10, .null, .int 0, .null, .int 63, .int 0, .int 0, .ref q_2])), (q_2, .inl (cA_1, 4, .inl f_6)), (q_8, .inl (cI, (S * G), .inl (fun _ => 0))), (q_10, .inl (cI, (S * G), .inl (fun _ => 0))), (q_12, .inl (cI, (S * G), .inl (fun _ => 0)))] := hD
  refine W.widen (k := 4) (n := 76) (Nat.le_of_ble_eq_true rfl) (Nat.add_le_add_left hSG _) ?_
  refine va_putF (D := (dC, dI)) (ci := 18) (v := .ref q_12) (ty := .array .int) (C := RX13) (T := TX13) (N := 12) hx hb hts iWX13 tyX13 tyX13_ok nmX13 hown hK hP hD hS 0 rfl rfl 5 (by decide) (hts (.fieldLink RX13 37 "BeaverhallModel$Machine" "nexts" "[I") (by decide +kernel)) (fun _ h9 => h9) rfl hin rfl (by decide +kernel) rfl rfl (Nat.le_of_ble_eq_true rfl) dX13_init_76 (fun H locs hP hD hS => ?_)
  have hP : va_P (dC, dI) vwCl [(ma, .inr (18, [.int 0, .int (nI S), .int (nI G), .ref q_8, .ref q_10, .ref q_12, .int 0, .null, .int 63, .int 0, .int 0, .ref q_2])), (q_2, .inl (cA_1, 4, .inl f_6)), (q_8, .inl (cI, (S * G), .inl (fun _ => 0))), (q_10, .inl (cI, (S * G), .inl (fun _ => 0))), (q_12, .inl (cI, (S * G), .inl (fun _ => 0)))] H := hP
  have hD : va_D A [(ma, .inr (18, [.int 0, .int (nI S), .int (nI G), .ref q_8, .ref q_10, .ref q_12, .int 0, .null, .int 63, .int 0, .int 0, .ref q_2])), (q_2, .inl (cA_1, 4, .inl f_6)), (q_8, .inl (cI, (S * G), .inl (fun _ => 0))), (q_10, .inl (cI, (S * G), .inl (fun _ => 0))), (q_12, .inl (cI, (S * G), .inl (fun _ => 0)))] := hD
  refine lv_iconst (v := 0) hx hb dX13_init_79 (by decide) ?_
  refine lv_istore (lv' := [(4, .int 0), (0, .ref ma), (1, .int 0), (2, .int (nI S)), (3, .int (nI G))]) hx hb dX13_init_80 hl (by decide) rfl (fun ls hl => ?_)
  refine lp_go (σ := Nat × (Nat → Int32)) (fun x => match x with | (j_82, g_82) => j_82 ≤ S * G ∧ g_82 = (fun q => if q < j_82 then -1 else 0)) (fun x => match x with | (j_82, g_82) => S * G - j_82) (fun x => [(ma, .inr (18, [.int 0, .int (nI S), .int (nI G), .ref q_8, .ref q_10, .ref q_12, .int 0, .null, .int 63, .int 0, .int 0, .ref q_2])), (q_8, .inl (cI, (S * G), .inl x.2)), (q_10, .inl (cI, (S * G), .inl (fun _ => 0))), (q_12, .inl (cI, (S * G), .inl (fun _ => 0)))]) (fun x => [(0, .ref ma), (4, .int (nI x.1))]) (fun _ => []) (fun x hI ih82 H locs hP hD hS ls hl => ?_) (0, (fun _ => 0)) ⟨Nat.zero_le _, by funext q; rw [if_neg (Nat.not_lt_zero q)]⟩ (hP.sub [0, 2, 3, 4] rfl) (hD.sub [0, 2, 3, 4] (by decide) rfl) hS (lv_sub hl [1, 0] rfl)
  obtain ⟨j_82, g_82⟩ := x
  have hP : va_P (dC, dI) vwCl [(ma, .inr (18, [.int 0, .int (nI S), .int (nI G), .ref q_8, .ref q_10, .ref q_12, .int 0, .null, .int 63, .int 0, .int 0, .ref q_2])), (q_8, .inl (cI, (S * G), .inl g_82)), (q_10, .inl (cI, (S * G), .inl (fun _ => 0))), (q_12, .inl (cI, (S * G), .inl (fun _ => 0)))] H := hP
  have hD : va_D A [(ma, .inr (18, [.int 0, .int (nI S), .int (nI G), .ref q_8, .ref q_10, .ref q_12, .int 0, .null, .int 63, .int 0, .int 0, .ref q_2])), (q_8, .inl (cI, (S * G), .inl g_82)), (q_10, .inl (cI, (S * G), .inl (fun _ => 0))), (q_12, .inl (cI, (S * G), .inl (fun _ => 0)))] := hD
  have hl : lv_has ls 5 [(0, .ref ma), (4, .int (nI j_82))] := hl
  try dsimp only at hI
  have ih82 := ih82
  refine lv_iload hx hb dX13_init_82 (lv_at hl 1 rfl) ?_
  refine lv_aload_n hx hb dX13_init_84 rfl (lv_at hl 0 rfl) ?_
  refine va_get (D := (dC, dI)) (ci := 18) (v := .ref q_8) (C := RX13) (T := TX13) (N := 12) hx hb hts iWX13 hown hK hP 0 rfl rfl 3 (by decide) (hts (.fieldLink RX13 30 "BeaverhallModel$Machine" "writes" "[I") (by decide +kernel)) (fun _ h9 => h9) rfl dX13_init_85 ?_
  refine va_alen hx hb hK hP 1 0 rfl rfl (v := Int32.ofNat (S * G)) (by rfl) dX13_init_88 ?_
  refine lv_icmp_ge (tgt := 106) hx hb dX13_init_89 (by decide) (fun c89_13 => ?_) (fun c89_13 => ?_)
  · have hj : j_82 = S * G := nI_end (by omega) hI.1 c89_13
    have hg := hI.2
    rw [hj] at hg
    rw [hg] at hP hD
    have hP : va_P (dC, dI) vwCl [(ma, .inr (18, [.int 0, .int (nI S), .int (nI G), .ref q_8, .ref q_10, .ref q_12, .int 0, .null, .int 63, .int 0, .int 0, .ref q_2])), (q_8, .inl (cI, (S * G), .inl (fun q => if q < S * G then -1 else 0))), (q_10, .inl (cI, (S * G), .inl (fun _ => 0))), (q_12, .inl (cI, (S * G), .inl (fun _ => 0)))] H := hP
    have hD : va_D A [(ma, .inr (18, [.int 0, .int (nI S), .int (nI G), .ref q_8, .ref q_10, .ref q_12, .int 0, .null, .int 63, .int 0, .int 0, .ref q_2])), (q_8, .inl (cI, (S * G), .inl (fun q => if q < S * G then -1 else 0))), (q_10, .inl (cI, (S * G), .inl (fun _ => 0))), (q_12, .inl (cI, (S * G), .inl (fun _ => 0)))] := hD
    have hP9 := hP.sub (ws' := [(ma, .inr (18, [.int 0, .int (nI S), .int (nI G), .ref q_8, .ref q_10, .ref q_12, .int 0, .null, .int 63, .int 0, .int 0, .ref q_2])), (q_8, .inl (cI, (S * G), .inl (fun q => if q < S * G then -1 else 0))), (q_10, .inl (cI, (S * G), .inl (fun _ => 0))), (q_12, .inl (cI, (S * G), .inl (fun _ => 0)))]) [0, 1, 2, 3] rfl
    have hD9 := hD.sub (ws' := [(ma, .inr (18, [.int 0, .int (nI S), .int (nI G), .ref q_8, .ref q_10, .ref q_12, .int 0, .null, .int 63, .int 0, .int 0, .ref q_2])), (q_8, .inl (cI, (S * G), .inl (fun q => if q < S * G then -1 else 0))), (q_10, .inl (cI, (S * G), .inl (fun _ => 0))), (q_12, .inl (cI, (S * G), .inl (fun _ => 0)))]) [0, 1, 2, 3] (by decide) rfl
    have hK9 := hK.sub (tys' := [(cI, .int)]) [0] rfl
    exact W.vret hx hb hr (fun t ht hW => ⟨⟨(q_8, q_10, q_12, q_2), rfl, trivial, ⟨by rw [ht]; exact hP9, va_K.moved hW.alike hK9, hD9⟩⟩, hS.F ht⟩) hS.2.2 dX13_init_106
  · refine lv_aload_n hx hb dX13_init_92 rfl (lv_at hl 0 rfl) ?_
    refine va_get (D := (dC, dI)) (ci := 18) (v := .ref q_8) (C := RX13) (T := TX13) (N := 12) hx hb hts iWX13 hown hK hP 0 rfl rfl 3 (by decide) (hts (.fieldLink RX13 30 "BeaverhallModel$Machine" "writes" "[I") (by decide +kernel)) (fun _ h9 => h9) rfl dX13_init_93 ?_
    refine lv_iload hx hb dX13_init_96 (lv_at hl 1 rfl) ?_
    refine lv_iconst (v := (-1)) hx hb dX13_init_98 (by decide) ?_
    refine va_iast hx hb hK hP hD hS 1 0 rfl rfl (vp_in_nI (nI_step (k := S * G) (by omega) hI.1 c89_13) (by omega)) dX13_init_99 (fun H locs hP hD hS => ?_)
    obtain ⟨f_14, ef_14⟩ : ∃ z, z = (upd g_82 (nI j_82).toNatClampNeg (-1)) := ⟨_, rfl⟩
    have hP : va_P (dC, dI) vwCl [(ma, .inr (18, [.int 0, .int (nI S), .int (nI G), .ref q_8, .ref q_10, .ref q_12, .int 0, .null, .int 63, .int 0, .int 0, .ref q_2])), (q_8, .inl (cI, (S * G), .inl f_14)), (q_10, .inl (cI, (S * G), .inl (fun _ => 0))), (q_12, .inl (cI, (S * G), .inl (fun _ => 0)))] H := by rw [ef_14]; exact hP
    have hD : va_D A [(ma, .inr (18, [.int 0, .int (nI S), .int (nI G), .ref q_8, .ref q_10, .ref q_12, .int 0, .null, .int 63, .int 0, .int 0, .ref q_2])), (q_8, .inl (cI, (S * G), .inl f_14)), (q_10, .inl (cI, (S * G), .inl (fun _ => 0))), (q_12, .inl (cI, (S * G), .inl (fun _ => 0)))] := by rw [ef_14]; exact hD
    obtain ⟨y_15, ey_15⟩ : ∃ y : Int32, y = (nI j_82) + 1 := ⟨_, rfl⟩
    refine lv_iinc (v := y_15) (lv' := [(4, .int y_15), (0, .ref ma)]) hx hb dX13_init_100 hl (k := 1) rfl (by rw [ey_15]; rfl) (by decide) rfl (fun ls hl => ?_)
    obtain rfl : y_15 = nI (j_82 + 1) := by rw [ey_15]; exact nI_1 _
    refine lv_goto (tgt := 82) hx hb dX13_init_103 (by decide) ?_
    exact ih82 ((j_82 + 1), f_14) ⟨nI_step (by omega) hI.1 c89_13, by have h3 := nI_step (k := S * G) (by omega) hI.1 c89_13; rw [ef_14, hI.2, nI_clamp (by omega)]; exact fill_upd⟩ (by have := nI_step (k := S * G) (by omega) hI.1 c89_13; show S * G - (j_82 + 1) < S * G - j_82; omega) _ _ (hP.sub [0, 1, 2, 3] rfl) (hD.sub [0, 1, 2, 3] (by decide) rfl) hS ls (lv_sub hl [1, 0] rfl)
