theorem dX13_copy_0 : decode cX13_copy 0 = .ok (.new 10, 3) := by decide +kernel
theorem dX13_copy_3 : decode cX13_copy 3 = .ok (.dup, 1) := by decide +kernel
theorem dX13_copy_4 : decode cX13_copy 4 = .ok (.aload_n 0, 1) := by decide +kernel
theorem dX13_copy_5 : decode cX13_copy 5 = .ok (.getfield 19, 3) := by decide +kernel
theorem dX13_copy_8 : decode cX13_copy 8 = .ok (.aload_n 0, 1) := by decide +kernel
theorem dX13_copy_9 : decode cX13_copy 9 = .ok (.getfield 23, 3) := by decide +kernel
theorem dX13_copy_12 : decode cX13_copy 12 = .ok (.aload_n 0, 1) := by decide +kernel
theorem dX13_copy_13 : decode cX13_copy 13 = .ok (.getfield 27, 3) := by decide +kernel
set_option maxRecDepth 20000 in
theorem ggX13_copy_X13_init : GoodIn wsX13_copy wsX13_init := goodIn_ca (goodIn_r _ [13, 14, 15, 16, 17, 18, 19, 4, 5, 6, 20, 7, 8, 9, 21, 22, 23, 24, 25, 26, 27, 28, 29, 30, 31, 32] rfl (by decide +kernel)) (goodIn_sub (fun _ h => List.mem_cons_of_mem _ (List.mem_append_right _ h)) (by decide +kernel))
set_option maxRecDepth 20000 in
theorem gX13_copy_X13_init : GoodIn wsX13_copy (wsX13_init) := ggX13_copy_X13_init
theorem dX13_copy_16 : decode cX13_copy 16 = .ok (.invokespecial 40, 3) := by decide +kernel
theorem dX13_copy_19 : decode cX13_copy 19 = .ok (.astore_n 2, 1) := by decide +kernel
theorem dX13_copy_20 : decode cX13_copy 20 = .ok (.iconst 0, 1) := by decide +kernel
theorem dX13_copy_21 : decode cX13_copy 21 = .ok (.istore_n 3, 1) := by decide +kernel
theorem dX13_copy_22 : decode cX13_copy 22 = .ok (.iload_n 3, 1) := by decide +kernel
theorem dX13_copy_23 : decode cX13_copy 23 = .ok (.aload_n 0, 1) := by decide +kernel
theorem dX13_copy_24 : decode cX13_copy 24 = .ok (.getfield 30, 3) := by decide +kernel
theorem dX13_copy_27 : decode cX13_copy 27 = .ok (.arraylength, 1) := by decide +kernel
theorem dX13_copy_28 : decode cX13_copy 28 = .ok (.if_icmp .ge 59, 3) := by decide +kernel
theorem dX13_copy_87 : decode cX13_copy 87 = .ok (.aload_n 2, 1) := by decide +kernel
theorem dX13_copy_88 : decode cX13_copy 88 = .ok (.aload_n 0, 1) := by decide +kernel
theorem dX13_copy_89 : decode cX13_copy 89 = .ok (.getfield 43, 3) := by decide +kernel
theorem dX13_copy_92 : decode cX13_copy 92 = .ok (.putfield 43, 3) := by decide +kernel
theorem dX13_copy_95 : decode cX13_copy 95 = .ok (.aload_n 2, 1) := by decide +kernel
theorem dX13_copy_96 : decode cX13_copy 96 = .ok (.areturn, 1) := by decide +kernel
theorem dX13_copy_31 : decode cX13_copy 31 = .ok (.aload_n 2, 1) := by decide +kernel
theorem dX13_copy_32 : decode cX13_copy 32 = .ok (.getfield 30, 3) := by decide +kernel
theorem dX13_copy_35 : decode cX13_copy 35 = .ok (.iload_n 3, 1) := by decide +kernel
theorem dX13_copy_36 : decode cX13_copy 36 = .ok (.aload_n 0, 1) := by decide +kernel
theorem dX13_copy_37 : decode cX13_copy 37 = .ok (.getfield 30, 3) := by decide +kernel
theorem dX13_copy_40 : decode cX13_copy 40 = .ok (.iload_n 3, 1) := by decide +kernel
theorem dX13_copy_41 : decode cX13_copy 41 = .ok (.iaload, 1) := by decide +kernel
theorem dX13_copy_42 : decode cX13_copy 42 = .ok (.iastore, 1) := by decide +kernel
theorem dX13_copy_43 : decode cX13_copy 43 = .ok (.aload_n 2, 1) := by decide +kernel
theorem dX13_copy_44 : decode cX13_copy 44 = .ok (.getfield 34, 3) := by decide +kernel
theorem dX13_copy_47 : decode cX13_copy 47 = .ok (.iload_n 3, 1) := by decide +kernel
theorem dX13_copy_48 : decode cX13_copy 48 = .ok (.iload_n 1, 1) := by decide +kernel
theorem dX13_copy_49 : decode cX13_copy 49 = .ok (.ifCond .eq 13, 3) := by decide +kernel
theorem dX13_copy_62 : decode cX13_copy 62 = .ok (.aload_n 0, 1) := by decide +kernel
theorem dX13_copy_63 : decode cX13_copy 63 = .ok (.getfield 34, 3) := by decide +kernel
theorem dX13_copy_66 : decode cX13_copy 66 = .ok (.iload_n 3, 1) := by decide +kernel
theorem dX13_copy_67 : decode cX13_copy 67 = .ok (.iaload, 1) := by decide +kernel
theorem dX13_copy_68 : decode cX13_copy 68 = .ok (.iastore, 1) := by decide +kernel
theorem dX13_copy_69 : decode cX13_copy 69 = .ok (.aload_n 2, 1) := by decide +kernel
theorem dX13_copy_70 : decode cX13_copy 70 = .ok (.getfield 37, 3) := by decide +kernel
theorem dX13_copy_73 : decode cX13_copy 73 = .ok (.iload_n 3, 1) := by decide +kernel
theorem dX13_copy_74 : decode cX13_copy 74 = .ok (.aload_n 0, 1) := by decide +kernel
theorem dX13_copy_75 : decode cX13_copy 75 = .ok (.getfield 37, 3) := by decide +kernel
theorem dX13_copy_78 : decode cX13_copy 78 = .ok (.iload_n 3, 1) := by decide +kernel
theorem dX13_copy_79 : decode cX13_copy 79 = .ok (.iaload, 1) := by decide +kernel
theorem dX13_copy_80 : decode cX13_copy 80 = .ok (.iastore, 1) := by decide +kernel
theorem dX13_copy_81 : decode cX13_copy 81 = .ok (.iinc 3 1, 3) := by decide +kernel
theorem dX13_copy_84 : decode cX13_copy 84 = .ok (.goto (-62), 3) := by decide +kernel
theorem dX13_copy_52 : decode cX13_copy 52 = .ok (.aload_n 0, 1) := by decide +kernel
theorem dX13_copy_53 : decode cX13_copy 53 = .ok (.getfield 34, 3) := by decide +kernel
theorem dX13_copy_56 : decode cX13_copy 56 = .ok (.iload_n 3, 1) := by decide +kernel
theorem dX13_copy_57 : decode cX13_copy 57 = .ok (.iaload, 1) := by decide +kernel
theorem dX13_copy_58 : decode cX13_copy 58 = .ok (.ineg, 1) := by decide +kernel
theorem dX13_copy_59 : decode cX13_copy 59 = .ok (.goto 9, 3) := by decide +kernel
theorem dX15_finds_0 : decode cX15_finds 0 = .ok (.aload_n 0, 1) := by decide +kernel
theorem dX15_finds_1 : decode cX15_finds 1 = .ok (.iload_n 1, 1) := by decide +kernel
theorem dX15_finds_2 : decode cX15_finds 2 = .ok (.putfield 3, 3) := by decide +kernel
theorem dX15_finds_5 : decode cX15_finds 5 = .ok (.aload_n 0, 1) := by decide +kernel
theorem dX15_finds_6 : decode cX15_finds 6 = .ok (.iload_n 2, 1) := by decide +kernel
theorem dX15_finds_7 : decode cX15_finds 7 = .ok (.putfield 7, 3) := by decide +kernel
theorem dX15_finds_10 : decode cX15_finds 10 = .ok (.iconst 1, 1) := by decide +kernel
theorem dX15_finds_11 : decode cX15_finds 11 = .ok (.ireturn, 1) := by decide +kernel
theorem dX15_isRecord_0 : decode cX15_isRecord 0 = .ok (.iconst 1, 1) := by decide +kernel
theorem dX15_isRecord_1 : decode cX15_isRecord 1 = .ok (.istore_n 2, 1) := by decide +kernel
theorem dX15_isRecord_2 : decode cX15_isRecord 2 = .ok (.aload_n 0, 1) := by decide +kernel
theorem dX15_isRecord_3 : decode cX15_isRecord 3 = .ok (.getfield 24, 3) := by decide +kernel
theorem dX15_isRecord_6 : decode cX15_isRecord 6 = .ok (.iload_n 1, 1) := by decide +kernel
theorem dX15_isRecord_7 : decode cX15_isRecord 7 = .ok (.if_icmp .ge 34, 3) := by decide +kernel
theorem dX15_isRecord_41 : decode cX15_isRecord 41 = .ok (.iload_n 2, 1) := by decide +kernel
theorem dX15_isRecord_42 : decode cX15_isRecord 42 = .ok (.ireturn, 1) := by decide +kernel
theorem dX15_isRecord_10 : decode cX15_isRecord 10 = .ok (.aload_n 0, 1) := by decide +kernel
theorem dX15_isRecord_11 : decode cX15_isRecord 11 = .ok (.getfield 58, 3) := by decide +kernel
theorem dX15_isRecord_14 : decode cX15_isRecord 14 = .ok (.istore_n 3, 1) := by decide +kernel
theorem dX15_isRecord_15 : decode cX15_isRecord 15 = .ok (.aload_n 0, 1) := by decide +kernel
set_option maxRecDepth 20000 in
theorem ggX15_isRecord_X14_step : GoodIn wsX15_isRecord wsX14_step := goodIn_ca (goodIn_r _ [5, 6, 7, 8, 9, 10, 11, 12, 13, 14, 15, 16, 17, 18, 19, 20, 21, 22, 23, 24, 4, 25, 26, 27, 28, 29, 30, 31, 32, 33, 34, 35, 36, 37, 38, 39, 40, 41, 42, 43, 44, 45, 46, 47, 48, 49, 50, 51, 52, 53, 54, 55, 56] rfl (by decide +kernel)) (goodIn_sub (fun _ h => List.mem_cons_of_mem _ (List.mem_append_right _ h)) (by decide +kernel))
set_option maxRecDepth 20000 in
theorem gX15_isRecord_X14_step : GoodIn wsX15_isRecord (wsV RX15 39 RX14 yX14_step wsX14_step) := goodIn_app (goodIn_of _ (by decide +kernel)) ggX15_isRecord_X14_step
theorem dX15_isRecord_16 : decode cX15_isRecord 16 = .ok (.invokevirtual 39, 3) := by decide +kernel
theorem dX15_isRecord_19 : decode cX15_isRecord 19 = .ok (.ifCond .ne 5, 3) := by decide +kernel
theorem dX15_isRecord_24 : decode cX15_isRecord 24 = .ok (.aload_n 0, 1) := by decide +kernel
theorem dX15_isRecord_25 : decode cX15_isRecord 25 = .ok (.getfield 55, 3) := by decide +kernel
theorem dX15_isRecord_28 : decode cX15_isRecord 28 = .ok (.iload_n 3, 1) := by decide +kernel
theorem dX15_isRecord_29 : decode cX15_isRecord 29 = .ok (.if_icmp .le 7, 3) := by decide +kernel
theorem dX15_isRecord_36 : decode cX15_isRecord 36 = .ok (.iconst 0, 1) := by decide +kernel
theorem dX15_isRecord_37 : decode cX15_isRecord 37 = .ok (.istore_n 2, 1) := by decide +kernel
theorem dX15_isRecord_38 : decode cX15_isRecord 38 = .ok (.goto (-36), 3) := by decide +kernel
theorem dX15_isRecord_32 : decode cX15_isRecord 32 = .ok (.iconst 1, 1) := by decide +kernel
theorem dX15_isRecord_33 : decode cX15_isRecord 33 = .ok (.goto 4, 3) := by decide +kernel
set_option maxHeartbeats 4000000 in
set_option maxRecDepth 100000 in
/-- X13_copy -/
theorem c_X13_copy (l : Launch) (dC : Nat → ClassId) (dI : Nat → Nat → Nat) (cI : ClassId) (ma wa va na tz n S G : Nat) (my de aa bb : Int32) (w mv nx : Nat → Int32) (hM : okM S G n w mv nx) (bm : Int32) (sz : Nat) : Met l yX13_copy wsX13_copy ({ frames := 2, cells := 5, slots := 88, locals := 60 }) (va_Pc [.ref ma, .int bm] (cPC dC dI [(ma, .inr (18, [.int 0, .int (nI S), .int (nI G), .ref wa, .ref va, .ref na, .int my, .null, .int de, .int aa, .int bb, .ref tz])), (wa, .inl (cI, n, .inl w)), (va, .inl (cI, n, .inl mv)), (na, .inl (cI, n, .inl nx))] [(cI, .int)] sz)) (va_Qr (fun (u : (Nat × Nat × Nat × Nat) × (Nat → Int32) × (Nat → Int32) × (Nat → Int32)) => (∀ q, u.2.1 q = if q < n then w q else 0) ∧ (∀ q, u.2.2.1 q = if q < n then (if bm = 0 then mv q else -(mv q)) else 0) ∧ (∀ q, u.2.2.2 q = if q < n then nx q else 0)) (fun (u : (Nat × Nat × Nat × Nat) × (Nat → Int32) × (Nat → Int32) × (Nat → Int32)) (a : Nat) t => cQB dC dI [(ma, .inr (18, [.int 0, .int (nI S), .int (nI G), .ref wa, .ref va, .ref na, .int my, .null, .int de, .int aa, .int bb, .ref tz])), (wa, .inl (cI, n, .inl w)), (va, .inl (cI, n, .inl mv)), (na, .inl (cI, n, .inl nx)), (a, .inr (18, [.int 0, .int (nI S), .int (nI G), .ref u.1.1, .ref u.1.2.1, .ref u.1.2.2.1, .int my, .null, .int 63, .int 0, .int 0, .ref u.1.2.2.2])), (u.1.1, .inl (cI, (S * G), .inl u.2.1)), (u.1.2.1, .inl (cI, (S * G), .inl u.2.2.1)), (u.1.2.2.1, .inl (cI, (S * G), .inl u.2.2.2))] [(cI, .int)] (va_A [(ma, .inr (18, [.int 0, .int (nI S), .int (nI G), .ref wa, .ref va, .ref na, .int my, .null, .int de, .int aa, .int bb, .ref tz])), (wa, .inl (cI, n, .inl w)), (va, .inl (cI, n, .inl mv)), (na, .inl (cI, n, .inl nx))] sz) t) (va_A [(ma, .inr (18, [.int 0, .int (nI S), .int (nI G), .ref wa, .ref va, .ref na, .int my, .null, .int de, .int aa, .int bb, .ref tz])), (wa, .inl (cI, n, .inl w)), (va, .inl (cI, n, .inl mv)), (na, .inl (cI, n, .inl nx))] sz)) 5 88 (va_A [(ma, .inr (18, [.int 0, .int (nI S), .int (nI G), .ref wa, .ref va, .ref na, .int my, .null, .int de, .int aa, .int bb, .ref tz])), (wa, .inl (cI, n, .inl w)), (va, .inl (cI, n, .inl mv)), (na, .inl (cI, n, .inl nx))] sz) := by
  refine Met.ofW (cc := cX13_copy) (maxL := 4) (ret := (some (.object "BeaverhallModel$Machine"))) (by decide) rfl ?_
  intro p e s m args below meth c s₁ B hml hv
  obtain ⟨rfl, hsz, hP, hK, hD0, hN⟩ := hv
  have hx := B.exec
  have hb := B.bytes
  have hr := B.returns
  have hts := atoms_spec (ws := wsX13_copy) B.pre
  have hown : s.vm.findClass RX13 = some m.cls := findClass_of_methodNamed B.named
  have hlocks := B.notSynchronized
  subst hsz
  have hD := hD0.self (sz := s.heap.size)
  generalize hAe : va_A [(ma, .inr (18, [.int 0, .int (nI S), .int (nI G), .ref wa, .ref va, .ref na, .int my, .null, .int de, .int aa, .int bb, .ref tz])), (wa, .inl (cI, n, .inl w)), (va, .inl (cI, n, .inl mv)), (na, .inl (cI, n, .inl nx))] s.heap.size = A at hD ⊢
  have hA : ∀ q : Nat, s.heap.size ≤ q → A q := fun q h => by rw [← hAe]; exact Or.inr h
  have hS : va_S A s.heap s.heap [] := va_S.rf
  have hP : va_P (dC, dI) vwCl [(ma, .inr (18, [.int 0, .int (nI S), .int (nI G), .ref wa, .ref va, .ref na, .int my, .null, .int de, .int aa, .int bb, .ref tz])), (wa, .inl (cI, n, .inl w)), (va, .inl (cI, n, .inl mv)), (na, .inl (cI, n, .inl nx))] s.heap := hP
  have hD : va_D A [(ma, .inr (18, [.int 0, .int (nI S), .int (nI G), .ref wa, .ref va, .ref na, .int my, .null, .int de, .int aa, .int bb, .ref tz])), (wa, .inl (cI, n, .inl w)), (va, .inl (cI, n, .inl mv)), (na, .inl (cI, n, .inl nx))] := hD
  have hl := lv_entry ([.ref ma, .int bm]) (n := 4) (Nat.le_of_ble_eq_true rfl)
  rw [lg_entry_eq]
  generalize (lg_sl ([.ref ma, .int bm]) ++ List.replicate (4 - (lg_sl ([.ref ma, .int bm])).length) Slot.unset).toArray = ls at hl ⊢
  have hl : lv_has ls 4 [(0, .ref ma), (1, .int bm)] := hl
  have iWX13 : ∀ w ∈ u_ws RX13 TX13 12, w ∈ wsX13_copy := by decide +kernel
  refine va_new (ci := 18) (fs := [.int 0, .int 0, .int 0, .null, .null, .null, .int 0, .null, .int 0, .int 0, .int 0, .null]) (C := RX13) (T := TX13) (N := 12) hx hb hts iWX13 tyX13 tyX13_ok hown (hts (.classLink RX13 10 RX13) (by decide +kernel)) (hts (.instantiable RX13 12) (by decide +kernel)) (hts (.initialized RX13) (by decide +kernel)) hK hP hD hS hA rfl (fun j hj => by rcases (show j = 0 ∨ j = 1 ∨ j = 2 ∨ j = 3 ∨ j = 4 ∨ j = 5 ∨ j = 6 ∨ j = 7 ∨ j = 8 ∨ j = 9 ∨ j = 10 ∨ j = 11 by omega) with rfl | rfl | rfl | rfl | rfl | rfl | rfl | rfl | rfl | rfl | rfl | rfl <;> rfl) (Nat.le_of_ble_eq_true rfl) (Nat.le_of_ble_eq_true rfl) dX13_copy_0 (fun q_1 H hP hD hS => ?_)
  have hP : va_P (dC, dI) vwCl [(ma, .inr (18, [.int 0, .int (nI S), .int (nI G), .ref wa, .ref va, .ref na, .int my, .null, .int de, .int aa, .int bb, .ref tz])), (wa, .inl (cI, n, .inl w)), (va, .inl (cI, n, .inl mv)), (na, .inl (cI, n, .inl nx)), (q_1, .inr (18, [.int 0, .int 0, .int 0, .null, .null, .null, .int 0, .null, .int 0, .int 0, .int 0, .null]))] H := hP
  have hD : va_D A [(ma, .inr (18, [.int 0, .int (nI S), .int (nI G), .ref wa, .ref va, .ref na, .int my, .null, .int de, .int aa, .int bb, .ref tz])), (wa, .inl (cI, n, .inl w)), (va, .inl (cI, n, .inl mv)), (na, .inl (cI, n, .inl nx)), (q_1, .inr (18, [.int 0, .int 0, .int 0, .null, .null, .null, .int 0, .null, .int 0, .int 0, .int 0, .null]))] := hD
  refine W.widen (k := 1) (n := 12) (Nat.le_of_ble_eq_true rfl) (Nat.le_of_ble_eq_true rfl) ?_
  refine lv_dup hx hb dX13_copy_3 rfl ?_
  refine lv_aload_n hx hb dX13_copy_4 rfl (lv_at hl 0 rfl) ?_
  refine va_get (D := (dC, dI)) (ci := 18) (v := .int 0) (C := RX13) (T := TX13) (N := 12) hx hb hts iWX13 hown hK hP 0 rfl rfl 0 (by decide) (hts (.fieldLink RX13 19 "BeaverhallModel$Machine" "hasEnd" "Z") (by decide +kernel)) (fun _ h9 => h9) rfl dX13_copy_5 ?_
  refine lv_aload_n hx hb dX13_copy_8 rfl (lv_at hl 0 rfl) ?_
  refine va_get (D := (dC, dI)) (ci := 18) (v := .int (nI S)) (C := RX13) (T := TX13) (N := 12) hx hb hts iWX13 hown hK hP 0 rfl rfl 1 (by decide) (hts (.fieldLink RX13 23 "BeaverhallModel$Machine" "states" "I") (by decide +kernel)) (fun _ h9 => h9) rfl dX13_copy_9 ?_
  refine lv_aload_n hx hb dX13_copy_12 rfl (lv_at hl 0 rfl) ?_
  refine va_get (D := (dC, dI)) (ci := 18) (v := .int (nI G)) (C := RX13) (T := TX13) (N := 12) hx hb hts iWX13 hown hK hP 0 rfl rfl 2 (by decide) (hts (.fieldLink RX13 27 "BeaverhallModel$Machine" "signs" "I") (by decide +kernel)) (fun _ h9 => h9) rfl dX13_copy_13 ?_
  have hPc := hP.sub (ws' := [(q_1, .inr (18, [.int 0, .int 0, .int 0, .null, .null, .null, .int 0, .null, .int 0, .int 0, .int 0, .null]))]) [4] rfl
  have hDc := hD.sub (ws' := [(q_1, .inr (18, [.int 0, .int 0, .int 0, .null, .null, .null, .int 0, .null, .int 0, .int 0, .int 0, .null]))]) [4] (by decide) rfl
  have hKc := hK.sub (tys' := [(cI, .int)]) [0] rfl
  have hFc := va_free (wc := [(q_1, .inr (18, [.int 0, .int 0, .int 0, .null, .null, .null, .int 0, .null, .int 0, .int 0, .int 0, .null]))]) hD hS hA [4] rfl
  refine va_callv (va_runI (As := [.int 0, .int (nI S), .int (nI G)]) (rest := [.ref q_1]) ⟨hx, hb, hml, hown, hts⟩ (c_X13_init l dC dI cI q_1 S G (by have := okM_n hM; have := hM.1; omega) H.size) (cwI 3 hts gX13_copy_X13_init rfl rfl rfl (hts (.initialized RX13) (by decide +kernel)) (hts (.methodLink RX13 40 yX13_init) (by decide +kernel)) (hts (.instanceMethod yX13_init) (by decide +kernel)) rfl (by decide +kernel) ⟨Nat.le_of_ble_eq_true rfl, Nat.le_of_ble_eq_true rfl⟩) (pcS hPc hDc hKc hN) rfl rfl hl.1 rfl (lv_room (Nat.le_of_ble_eq_true rfl)) dX13_copy_16 ⟨Nat.le_of_ble_eq_true rfl, Nat.le_of_ble_eq_true rfl⟩) hS (fun q _ h => hFc q h) hFc (fun u t H1 locs ht hvm hw_6 hB hz1 hk1 hS => ?_)
  obtain ⟨wa_2, va_3, na_4, tz_5⟩ := u
  obtain ⟨hP1, hK1, hD1⟩ := hB
  rw [ht] at hP1
  try dsimp only at hw_6
  obtain ⟨hP, hD⟩ := va_join (wr := [(ma, .inr (18, [.int 0, .int (nI S), .int (nI G), .ref wa, .ref va, .ref na, .int my, .null, .int de, .int aa, .int bb, .ref tz])), (wa, .inl (cI, n, .inl w)), (va, .inl (cI, n, .inl mv)), (na, .inl (cI, n, .inl nx))]) (w1 := [(q_1, .inr (18, [.int 0, .int (nI S), .int (nI G), .ref wa_2, .ref va_3, .ref na_4, .int 0, .null, .int 63, .int 0, .int 0, .ref tz_5])), (wa_2, .inl (cI, (S * G), .inl (fun q => if q < S * G then -1 else 0))), (va_3, .inl (cI, (S * G), .inl (fun _ => 0))), (na_4, .inl (cI, (S * G), .inl (fun _ => 0)))]) hP hD [4] [0, 1, 2, 3] rfl rfl (by decide) (by decide) hk1 hFc hP1 hD1
  generalize H1 = H at hP hS ⊢
  have hP : va_P (dC, dI) vwCl [(ma, .inr (18, [.int 0, .int (nI S), .int (nI G), .ref wa, .ref va, .ref na, .int my, .null, .int de, .int aa, .int bb, .ref tz])), (wa, .inl (cI, n, .inl w)), (va, .inl (cI, n, .inl mv)), (na, .inl (cI, n, .inl nx)), (q_1, .inr (18, [.int 0, .int (nI S), .int (nI G), .ref wa_2, .ref va_3, .ref na_4, .int 0, .null, .int 63, .int 0, .int 0, .ref tz_5])), (wa_2, .inl (cI, (S * G), .inl (fun q => if q < S * G then -1 else 0))), (va_3, .inl (cI, (S * G), .inl (fun _ => 0))), (na_4, .inl (cI, (S * G), .inl (fun _ => 0)))] H := hP
  have hD : va_D A [(ma, .inr (18, [.int 0, .int (nI S), .int (nI G), .ref wa, .ref va, .ref na, .int my, .null, .int de, .int aa, .int bb, .ref tz])), (wa, .inl (cI, n, .inl w)), (va, .inl (cI, n, .inl mv)), (na, .inl (cI, n, .inl nx)), (q_1, .inr (18, [.int 0, .int (nI S), .int (nI G), .ref wa_2, .ref va_3, .ref na_4, .int 0, .null, .int 63, .int 0, .int 0, .ref tz_5])), (wa_2, .inl (cI, (S * G), .inl (fun q => if q < S * G then -1 else 0))), (va_3, .inl (cI, (S * G), .inl (fun _ => 0))), (na_4, .inl (cI, (S * G), .inl (fun _ => 0)))] := hD
  refine W.widen (k := 5) (n := 88) (Nat.le_of_ble_eq_true rfl) (Nat.le_of_ble_eq_true rfl) ?_
  refine lv_astore_n (lv' := [(2, .ref q_1), (0, .ref ma), (1, .int bm)]) hx hb dX13_copy_19 rfl hl (by decide) rfl (fun ls hl => ?_)
  refine lv_iconst (v := 0) hx hb dX13_copy_20 (by decide) ?_
  refine lv_istore_n (lv' := [(3, .int 0), (2, .ref q_1), (0, .ref ma), (1, .int bm)]) hx hb dX13_copy_21 rfl hl (by decide) rfl (fun ls hl => ?_)
  refine lp_go (σ := Nat × (Nat → Int32) × (Nat → Int32) × (Nat → Int32)) (fun x => match x with | (j_22, ga_22, gb_22, gc_22) => j_22 ≤ n ∧ (∀ q, ga_22 q = if q < j_22 then w q else if q < n then -1 else 0) ∧ (∀ q, gb_22 q = if q < j_22 then (if bm = 0 then mv q else -(mv q)) else 0) ∧ (∀ q, gc_22 q = if q < j_22 then nx q else 0)) (fun x => match x with | (j_22, ga_22, gb_22, gc_22) => n - j_22) (fun x => [(ma, .inr (18, [.int 0, .int (nI S), .int (nI G), .ref wa, .ref va, .ref na, .int my, .null, .int de, .int aa, .int bb, .ref tz])), (wa, .inl (cI, n, .inl w)), (va, .inl (cI, n, .inl mv)), (na, .inl (cI, n, .inl nx)), (q_1, .inr (18, [.int 0, .int (nI S), .int (nI G), .ref wa_2, .ref va_3, .ref na_4, .int 0, .null, .int 63, .int 0, .int 0, .ref tz_5])), (wa_2, .inl (cI, (S * G), .inl x.2.1)), (va_3, .inl (cI, (S * G), .inl x.2.2.1)), (na_4, .inl (cI, (S * G), .inl x.2.2.2))]) (fun x => [(0, .ref ma), (1, .int bm), (2, .ref q_1), (3, .int (nI x.1))]) (fun _ => []) (fun x hI ih22 H locs hP hD hS ls hl => ?_) (0, (fun q => if q < S * G then -1 else 0), (fun _ => 0), (fun _ => 0)) ⟨Nat.zero_le _, fun q => by rw [if_neg (Nat.not_lt_zero q), hM.1], fun q => by rw [if_neg (Nat.not_lt_zero q)], fun q => by rw [if_neg (Nat.not_lt_zero q)]⟩ (hP.sub [0, 1, 2, 3, 4, 5, 6, 7] rfl) (hD.sub [0, 1, 2, 3, 4, 5, 6, 7] (by decide) rfl) hS (lv_sub hl [2, 3, 1, 0] rfl)
  obtain ⟨j_22, ga_22, gb_22, gc_22⟩ := x
  have hP : va_P (dC, dI) vwCl [(ma, .inr (18, [.int 0, .int (nI S), .int (nI G), .ref wa, .ref va, .ref na, .int my, .null, .int de, .int aa, .int bb, .ref tz])), (wa, .inl (cI, n, .inl w)), (va, .inl (cI, n, .inl mv)), (na, .inl (cI, n, .inl nx)), (q_1, .inr (18, [.int 0, .int (nI S), .int (nI G), .ref wa_2, .ref va_3, .ref na_4, .int 0, .null, .int 63, .int 0, .int 0, .ref tz_5])), (wa_2, .inl (cI, (S * G), .inl ga_22)), (va_3, .inl (cI, (S * G), .inl gb_22)), (na_4, .inl (cI, (S * G), .inl gc_22))] H := hP
  have hD : va_D A [(ma, .inr (18, [.int 0, .int (nI S), .int (nI G), .ref wa, .ref va, .ref na, .int my, .null, .int de, .int aa, .int bb, .ref tz])), (wa, .inl (cI, n, .inl w)), (va, .inl (cI, n, .inl mv)), (na, .inl (cI, n, .inl nx)), (q_1, .inr (18, [.int 0, .int (nI S), .int (nI G), .ref wa_2, .ref va_3, .ref na_4, .int 0, .null, .int 63, .int 0, .int 0, .ref tz_5])), (wa_2, .inl (cI, (S * G), .inl ga_22)), (va_3, .inl (cI, (S * G), .inl gb_22)), (na_4, .inl (cI, (S * G), .inl gc_22))] := hD
  have hl : lv_has ls 4 [(0, .ref ma), (1, .int bm), (2, .ref q_1), (3, .int (nI j_22))] := hl
  try dsimp only at hI
  have ih22 := ih22
  refine lv_iload_n hx hb dX13_copy_22 rfl (lv_at hl 3 rfl) ?_
  refine lv_aload_n hx hb dX13_copy_23 rfl (lv_at hl 0 rfl) ?_
  refine va_get (D := (dC, dI)) (ci := 18) (v := .ref wa) (C := RX13) (T := TX13) (N := 12) hx hb hts iWX13 hown hK hP 0 rfl rfl 3 (by decide) (hts (.fieldLink RX13 30 "BeaverhallModel$Machine" "writes" "[I") (by decide +kernel)) (fun _ h9 => h9) rfl dX13_copy_24 ?_
  refine va_alen hx hb hK hP 1 0 rfl rfl (v := Int32.ofNat n) (by rfl) dX13_copy_27 ?_
  refine lv_icmp_ge (tgt := 87) hx hb dX13_copy_28 (by decide) (fun c28_7 => ?_) (fun c28_7 => ?_)
  · refine lv_aload_n hx hb dX13_copy_87 rfl (lv_at hl 2 rfl) ?_
    refine lv_aload_n hx hb dX13_copy_88 rfl (lv_at hl 0 rfl) ?_
    refine va_get (D := (dC, dI)) (ci := 18) (v := .int my) (C := RX13) (T := TX13) (N := 12) hx hb hts iWX13 hown hK hP 0 rfl rfl 6 (by decide) (hts (.fieldLink RX13 43 "BeaverhallModel$Machine" "many" "I") (by decide +kernel)) (fun _ h9 => h9) rfl dX13_copy_89 ?_
    refine va_put (D := (dC, dI)) (ci := 18) (v := .int my) (ty := .int) (C := RX13) (T := TX13) (N := 12) hx hb hts iWX13 tyX13 tyX13_ok nmX13 hown hK hP hD hS 4 rfl rfl 6 (by decide) (hts (.fieldLink RX13 43 "BeaverhallModel$Machine" "many" "I") (by decide +kernel)) (fun _ h9 => h9) rfl (by decide +kernel) rfl rfl (Nat.le_of_ble_eq_true rfl) dX13_copy_92 (fun H locs hP hD hS => ?_)
    have hP : va_P (dC, dI) vwCl [(ma, .inr (18, [.int 0, .int (nI S), .int (nI G), .ref wa, .ref va, .ref na, .int my, .null, .int de, .int aa, .int bb, .ref tz])), (wa, .inl (cI, n, .inl w)), (va, .inl (cI, n, .inl mv)), (na, .inl (cI, n, .inl nx)), (q_1, .inr (18, [.int 0, .int (nI S), .int (nI G), .ref wa_2, .ref va_3, .ref na_4, .int my, .null, .int 63, .int 0, .int 0, .ref tz_5])), (wa_2, .inl (cI, (S * G), .inl ga_22)), (va_3, .inl (cI, (S * G), .inl gb_22)), (na_4, .inl (cI, (S * G), .inl gc_22))] H := hP
    have hD : va_D A [(ma, .inr (18, [.int 0, .int (nI S), .int (nI G), .ref wa, .ref va, .ref na, .int my, .null, .int de, .int aa, .int bb, .ref tz])), (wa, .inl (cI, n, .inl w)), (va, .inl (cI, n, .inl mv)), (na, .inl (cI, n, .inl nx)), (q_1, .inr (18, [.int 0, .int (nI S), .int (nI G), .ref wa_2, .ref va_3, .ref na_4, .int my, .null, .int 63, .int 0, .int 0, .ref tz_5])), (wa_2, .inl (cI, (S * G), .inl ga_22)), (va_3, .inl (cI, (S * G), .inl gb_22)), (na_4, .inl (cI, (S * G), .inl gc_22))] := hD
    refine lv_aload_n hx hb dX13_copy_95 rfl (lv_at hl 2 rfl) ?_
    have hP9 := hP.sub (ws' := [(ma, .inr (18, [.int 0, .int (nI S), .int (nI G), .ref wa, .ref va, .ref na, .int my, .null, .int de, .int aa, .int bb, .ref tz])), (wa, .inl (cI, n, .inl w)), (va, .inl (cI, n, .inl mv)), (na, .inl (cI, n, .inl nx)), (q_1, .inr (18, [.int 0, .int (nI S), .int (nI G), .ref wa_2, .ref va_3, .ref na_4, .int my, .null, .int 63, .int 0, .int 0, .ref tz_5])), (wa_2, .inl (cI, (S * G), .inl ga_22)), (va_3, .inl (cI, (S * G), .inl gb_22)), (na_4, .inl (cI, (S * G), .inl gc_22))]) [0, 1, 2, 3, 4, 5, 6, 7] rfl
    have hD9 := hD.sub (ws' := [(ma, .inr (18, [.int 0, .int (nI S), .int (nI G), .ref wa, .ref va, .ref na, .int my, .null, .int de, .int aa, .int bb, .ref tz])), (wa, .inl (cI, n, .inl w)), (va, .inl (cI, n, .inl mv)), (na, .inl (cI, n, .inl nx)), (q_1, .inr (18, [.int 0, .int (nI S), .int (nI G), .ref wa_2, .ref va_3, .ref na_4, .int my, .null, .int 63, .int 0, .int 0, .ref tz_5])), (wa_2, .inl (cI, (S * G), .inl ga_22)), (va_3, .inl (cI, (S * G), .inl gb_22)), (na_4, .inl (cI, (S * G), .inl gc_22))]) [0, 1, 2, 3, 4, 5, 6, 7] (by decide) rfl
    have hK9 := hK.sub (tys' := [(cI, .int)]) [0] rfl
    exact W.aret (v := .ref q_1) hx hb hr (Or.inl ⟨_, rfl⟩) (Or.inr ⟨_, rfl⟩) (fun t ht hW => ⟨⟨((wa_2, va_3, na_4, tz_5), ga_22, gb_22, gc_22), q_1, rfl, (by have h3 := nI_end (k := n) (by have := okM_n hM; omega) hI.1 c28_7; have h4 := hI.2; subst h3; exact ⟨fun q => by show ga_22 q = _; rw [h4.1 q]; by_cases hq : q < j_22 <;> simp [hq], h4.2.1, h4.2.2⟩), ⟨by rw [ht]; exact hP9, va_K.moved hW.alike hK9, hD9⟩⟩, hS.F ht⟩) hS.2.2 dX13_copy_96
  · refine lv_aload_n hx hb dX13_copy_31 rfl (lv_at hl 2 rfl) ?_
    refine va_get (D := (dC, dI)) (ci := 18) (v := .ref wa_2) (C := RX13) (T := TX13) (N := 12) hx hb hts iWX13 hown hK hP 4 rfl rfl 3 (by decide) (hts (.fieldLink RX13 30 "BeaverhallModel$Machine" "writes" "[I") (by decide +kernel)) (fun _ h9 => h9) rfl dX13_copy_32 ?_
    refine lv_iload_n hx hb dX13_copy_35 rfl (lv_at hl 3 rfl) ?_
    refine lv_aload_n hx hb dX13_copy_36 rfl (lv_at hl 0 rfl) ?_
    refine va_get (D := (dC, dI)) (ci := 18) (v := .ref wa) (C := RX13) (T := TX13) (N := 12) hx hb hts iWX13 hown hK hP 0 rfl rfl 3 (by decide) (hts (.fieldLink RX13 30 "BeaverhallModel$Machine" "writes" "[I") (by decide +kernel)) (fun _ h9 => h9) rfl dX13_copy_37 ?_
    refine lv_iload_n hx hb dX13_copy_40 rfl (lv_at hl 3 rfl) ?_
    refine va_iald hx hb hK hP 1 0 rfl rfl (vp_in_nI (nI_step (k := n) (by have := okM_n hM; omega) hI.1 c28_7) (by have := okM_n hM; omega)) dX13_copy_41 ?_
    refine va_iast hx hb hK hP hD hS 5 0 rfl rfl (by rw [← hM.1]; exact vp_in_nI (nI_step (k := n) (by have := okM_n hM; omega) hI.1 c28_7) (by have := okM_n hM; omega)) dX13_copy_42 (fun H locs hP hD hS => ?_)
    obtain ⟨f_8, ef_8⟩ : ∃ z, z = (upd ga_22 (nI j_22).toNatClampNeg (w (nI j_22).toNatClampNeg)) := ⟨_, rfl⟩
    have hP : va_P (dC, dI) vwCl [(ma, .inr (18, [.int 0, .int (nI S), .int (nI G), .ref wa, .ref va, .ref na, .int my, .null, .int de, .int aa, .int bb, .ref tz])), (wa, .inl (cI, n, .inl w)), (va, .inl (cI, n, .inl mv)), (na, .inl (cI, n, .inl nx)), (q_1, .inr (18, [.int 0, .int (nI S), .int (nI G), .ref wa_2, .ref va_3, .ref na_4, .int 0, .null, .int 63, .int 0, .int 0, .ref tz_5])), (wa_2, .inl (cI, (S * G), .inl f_8)), (va_3, .inl (cI, (S * G), .inl gb_22)), (na_4, .inl (cI, (S * G), .inl gc_22))] H := by rw [ef_8]; exact hP
    have hD : va_D A [(ma, .inr (18, [.int 0, .int (nI S), .int (nI G), .ref wa, .ref va, .ref na, .int my, .null, .int de, .int aa, .int bb, .ref tz])), (wa, .inl (cI, n, .inl w)), (va, .inl (cI, n, .inl mv)), (na, .inl (cI, n, .inl nx)), (q_1, .inr (18, [.int 0, .int (nI S), .int (nI G), .ref wa_2, .ref va_3, .ref na_4, .int 0, .null, .int 63, .int 0, .int 0, .ref tz_5])), (wa_2, .inl (cI, (S * G), .inl f_8)), (va_3, .inl (cI, (S * G), .inl gb_22)), (na_4, .inl (cI, (S * G), .inl gc_22))] := by rw [ef_8]; exact hD
    refine lv_aload_n hx hb dX13_copy_43 rfl (lv_at hl 2 rfl) ?_
    refine va_get (D := (dC, dI)) (ci := 18) (v := .ref va_3) (C := RX13) (T := TX13) (N := 12) hx hb hts iWX13 hown hK hP 4 rfl rfl 4 (by decide) (hts (.fieldLink RX13 34 "BeaverhallModel$Machine" "moves" "[I") (by decide +kernel)) (fun _ h9 => h9) rfl dX13_copy_44 ?_
    refine lv_iload_n hx hb dX13_copy_47 rfl (lv_at hl 3 rfl) ?_
    refine lv_iload_n hx hb dX13_copy_48 rfl (lv_at hl 1 rfl) ?_
    refine lv_if_eq (tgt := 62) hx hb dX13_copy_49 (by decide) (fun c49_9 => ?_) (fun c49_9 => ?_)
    · refine lv_aload_n hx hb dX13_copy_62 rfl (lv_at hl 0 rfl) ?_
      refine va_get (D := (dC, dI)) (ci := 18) (v := .ref va) (C := RX13) (T := TX13) (N := 12) hx hb hts iWX13 hown hK hP 0 rfl rfl 4 (by decide) (hts (.fieldLink RX13 34 "BeaverhallModel$Machine" "moves" "[I") (by decide +kernel)) (fun _ h9 => h9) rfl dX13_copy_63 ?_
      refine lv_iload_n hx hb dX13_copy_66 rfl (lv_at hl 3 rfl) ?_
      refine va_iald hx hb hK hP 2 0 rfl rfl (vp_in_nI (nI_step (k := n) (by have := okM_n hM; omega) hI.1 c28_7) (by have := okM_n hM; omega)) dX13_copy_67 ?_
      refine va_iast hx hb hK hP hD hS 6 0 rfl rfl (by rw [← hM.1]; exact vp_in_nI (nI_step (k := n) (by have := okM_n hM; omega) hI.1 c28_7) (by have := okM_n hM; omega)) dX13_copy_68 (fun H locs hP hD hS => ?_)
      obtain ⟨f_10, ef_10⟩ : ∃ z, z = (upd gb_22 (nI j_22).toNatClampNeg (mv (nI j_22).toNatClampNeg)) := ⟨_, rfl⟩
      have hP : va_P (dC, dI) vwCl [(ma, .inr (18, [.int 0, .int (nI S), .int (nI G), .ref wa, .ref va, .ref na, .int my, .null, .int de, .int aa, .int bb, .ref tz])), (wa, .inl (cI, n, .inl w)), (va, .inl (cI, n, .inl mv)), (na, .inl (cI, n, .inl nx)), (q_1, .inr (18, [.int 0, .int (nI S), .int (nI G), .ref wa_2, .ref va_3, .ref na_4, .int 0, .null, .int 63, .int 0, .int 0, .ref tz_5])), (wa_2, .inl (cI, (S * G), .inl f_8)), (va_3, .inl (cI, (S * G), .inl f_10)), (na_4, .inl (cI, (S * G), .inl gc_22))] H := by rw [ef_10]; exact hP
      have hD : va_D A [(ma, .inr (18, [.int 0, .int (nI S), .int (nI G), .ref wa, .ref va, .ref na, .int my, .null, .int de, .int aa, .int bb, .ref tz])), (wa, .inl (cI, n, .inl w)), (va, .inl (cI, n, .inl mv)), (na, .inl (cI, n, .inl nx)), (q_1, .inr (18, [.int 0, .int (nI S), .int (nI G), .ref wa_2, .ref va_3, .ref na_4, .int 0, .null, .int 63, .int 0, .int 0, .ref tz_5])), (wa_2, .inl (cI, (S * G), .inl f_8)), (va_3, .inl (cI, (S * G), .inl f_10)), (na_4, .inl (cI, (S * G), .inl gc_22))] := by rw [ef_10]; exact hD
      refine lv_aload_n hx hb dX13_copy_69 rfl (lv_at hl 2 rfl) ?_
      refine va_get (D := (dC, dI)) (ci := 18) (v := .ref na_4) (C := RX13) (T := TX13) (N := 12) hx hb hts iWX13 hown hK hP 4 rfl rfl 5 (by decide) (hts (.fieldLink RX13 37 "BeaverhallModel$Machine" "nexts" "[I") (by decide +kernel)) (fun _ h9 => h9) rfl dX13_copy_70 ?_
      refine lv_iload_n hx hb dX13_copy_73 rfl (lv_at hl 3 rfl) ?_
      refine lv_aload_n hx hb dX13_copy_74 rfl (lv_at hl 0 rfl) ?_
      refine va_get (D := (dC, dI)) (ci := 18) (v := .ref na) (C := RX13) (T := TX13) (N := 12) hx hb hts iWX13 hown hK hP 0 rfl rfl 5 (by decide) (hts (.fieldLink RX13 37 "BeaverhallModel$Machine" "nexts" "[I") (by decide +kernel)) (fun _ h9 => h9) rfl dX13_copy_75 ?_
      refine lv_iload_n hx hb dX13_copy_78 rfl (lv_at hl 3 rfl) ?_
      refine va_iald hx hb hK hP 3 0 rfl rfl (vp_in_nI (nI_step (k := n) (by have := okM_n hM; omega) hI.1 c28_7) (by have := okM_n hM; omega)) dX13_copy_79 ?_
      refine va_iast hx hb hK hP hD hS 7 0 rfl rfl (by rw [← hM.1]; exact vp_in_nI (nI_step (k := n) (by have := okM_n hM; omega) hI.1 c28_7) (by have := okM_n hM; omega)) dX13_copy_80 (fun H locs hP hD hS => ?_)
      obtain ⟨f_11, ef_11⟩ : ∃ z, z = (upd gc_22 (nI j_22).toNatClampNeg (nx (nI j_22).toNatClampNeg)) := ⟨_, rfl⟩
      have hP : va_P (dC, dI) vwCl [(ma, .inr (18, [.int 0, .int (nI S), .int (nI G), .ref wa, .ref va, .ref na, .int my, .null, .int de, .int aa, .int bb, .ref tz])), (wa, .inl (cI, n, .inl w)), (va, .inl (cI, n, .inl mv)), (na, .inl (cI, n, .inl nx)), (q_1, .inr (18, [.int 0, .int (nI S), .int (nI G), .ref wa_2, .ref va_3, .ref na_4, .int 0, .null, .int 63, .int 0, .int 0, .ref tz_5])), (wa_2, .inl (cI, (S * G), .inl f_8)), (va_3, .inl (cI, (S * G), .inl f_10)), (na_4, .inl (cI, (S * G), .inl f_11))] H := by rw [ef_11]; exact hP
      have hD : va_D A [(ma, .inr (18, [.int 0, .int (nI S), .int (nI G), .ref wa, .ref va, .ref na, .int my, .null, .int de, .int aa, .int bb, .ref tz])), (wa, .inl (cI, n, .inl w)), (va, .inl (cI, n, .inl mv)), (na, .inl (cI, n, .inl nx)), (q_1, .inr (18, [.int 0, .int (nI S), .int (nI G), .ref wa_2, .ref va_3, .ref na_4, .int 0, .null, .int 63, .int 0, .int 0, .ref tz_5])), (wa_2, .inl (cI, (S * G), .inl f_8)), (va_3, .inl (cI, (S * G), .inl f_10)), (na_4, .inl (cI, (S * G), .inl f_11))] := by rw [ef_11]; exact hD
      obtain ⟨y_12, ey_12⟩ : ∃ y : Int32, y = (nI j_22) + 1 := ⟨_, rfl⟩
      refine lv_iinc (v := y_12) (lv' := [(3, .int y_12), (0, .ref ma), (1, .int bm), (2, .ref q_1)]) hx hb dX13_copy_81 hl (k := 3) rfl (by rw [ey_12]; rfl) (by decide) rfl (fun ls hl => ?_)
      obtain rfl : y_12 = nI (j_22 + 1) := by rw [ey_12]; exact nI_1 _
      refine lv_goto (tgt := 22) hx hb dX13_copy_84 (by decide) ?_
      exact ih22 ((j_22 + 1), f_8, f_10, f_11) ⟨(nI_step (by have := okM_n hM; omega) hI.1 c28_7), cpA (by have := okM_n hM; omega) (nI_step (by have := okM_n hM; omega) hI.1 c28_7) (ef_8) hI.2.1, cpB (v := fun q => if bm = 0 then mv q else -(mv q)) (by have := okM_n hM; omega) (nI_step (by have := okM_n hM; omega) hI.1 c28_7) (ef_10) hI.2.2.1 (by rw [nI_clamp (by have := okM_n hM; omega)]; simp [c49_9]), cpB (v := nx) (by have := okM_n hM; omega) (nI_step (by have := okM_n hM; omega) hI.1 c28_7) (ef_11) hI.2.2.2 (by rw [nI_clamp (by have := okM_n hM; omega)])⟩ (by have := nI_step (k := n) (by have := okM_n hM; omega) hI.1 c28_7; show n - (j_22 + 1) < n - j_22; omega) _ _ (hP.sub [0, 1, 2, 3, 4, 5, 6, 7] rfl) (hD.sub [0, 1, 2, 3, 4, 5, 6, 7] (by decide) rfl) hS ls (lv_sub hl [1, 2, 3, 0] rfl)
    · refine lv_aload_n hx hb dX13_copy_52 rfl (lv_at hl 0 rfl) ?_
      refine va_get (D := (dC, dI)) (ci := 18) (v := .ref va) (C := RX13) (T := TX13) (N := 12) hx hb hts iWX13 hown hK hP 0 rfl rfl 4 (by decide) (hts (.fieldLink RX13 34 "BeaverhallModel$Machine" "moves" "[I") (by decide +kernel)) (fun _ h9 => h9) rfl dX13_copy_53 ?_
      refine lv_iload_n hx hb dX13_copy_56 rfl (lv_at hl 3 rfl) ?_
      refine va_iald hx hb hK hP 2 0 rfl rfl (vp_in_nI (nI_step (k := n) (by have := okM_n hM; omega) hI.1 c28_7) (by have := okM_n hM; omega)) dX13_copy_57 ?_
      refine lv_ineg hx hb dX13_copy_58 ?_
      refine lv_goto (tgt := 68) hx hb dX13_copy_59 (by decide) ?_
      refine va_iast hx hb hK hP hD hS 6 0 rfl rfl (by rw [← hM.1]; exact vp_in_nI (nI_step (k := n) (by have := okM_n hM; omega) hI.1 c28_7) (by have := okM_n hM; omega)) dX13_copy_68 (fun H locs hP hD hS => ?_)
      obtain ⟨f_13, ef_13⟩ : ∃ z, z = (upd gb_22 (nI j_22).toNatClampNeg (-(mv (nI j_22).toNatClampNeg))) := ⟨_, rfl⟩
      have hP : va_P (dC, dI) vwCl [(ma, .inr (18, [.int 0, .int (nI S), .int (nI G), .ref wa, .ref va, .ref na, .int my, .null, .int de, .int aa, .int bb, .ref tz])), (wa, .inl (cI, n, .inl w)), (va, .inl (cI, n, .inl mv)), (na, .inl (cI, n, .inl nx)), (q_1, .inr (18, [.int 0, .int (nI S), .int (nI G), .ref wa_2, .ref va_3, .ref na_4, .int 0, .null, .int 63, .int 0, .int 0, .ref tz_5])), (wa_2, .inl (cI, (S * G), .inl f_8)), (va_3, .inl (cI, (S * G), .inl f_13)), (na_4, .inl (cI, (S * G), .inl gc_22))] H := by rw [ef_13]; exact hP
      have hD : va_D A [(ma, .inr (18, [.int 0, .int (nI S), .int (nI G), .ref wa, .ref va, .ref na, .int my, .null, .int de, .int aa, .int bb, .ref tz])), (wa, .inl (cI, n, .inl w)), (va, .inl (cI, n, .inl mv)), (na, .inl (cI, n, .inl nx)), (q_1, .inr (18, [.int 0, .int (nI S), .int (nI G), .ref wa_2, .ref va_3, .ref na_4, .int 0, .null, .int 63, .int 0, .int 0, .ref tz_5])), (wa_2, .inl (cI, (S * G), .inl f_8)), (va_3, .inl (cI, (S * G), .inl f_13)), (na_4, .inl (cI, (S * G), .inl gc_22))] := by rw [ef_13]; exact hD
      refine lv_aload_n hx hb dX13_copy_69 rfl (lv_at hl 2 rfl) ?_
      refine va_get (D := (dC, dI)) (ci := 18) (v := .ref na_4) (C := RX13) (T := TX13) (N := 12) hx hb hts iWX13 hown hK hP 4 rfl rfl 5 (by decide) (hts (.fieldLink RX13 37 "BeaverhallModel$Machine" "nexts" "[I") (by decide +kernel)) (fun _ h9 => h9) rfl dX13_copy_70 ?_
      refine lv_iload_n hx hb dX13_copy_73 rfl (lv_at hl 3 rfl) ?_
      refine lv_aload_n hx hb dX13_copy_74 rfl (lv_at hl 0 rfl) ?_
      refine va_get (D := (dC, dI)) (ci := 18) (v := .ref na) (C := RX13) (T := TX13) (N := 12) hx hb hts iWX13 hown hK hP 0 rfl rfl 5 (by decide) (hts (.fieldLink RX13 37 "BeaverhallModel$Machine" "nexts" "[I") (by decide +kernel)) (fun _ h9 => h9) rfl dX13_copy_75 ?_
      refine lv_iload_n hx hb dX13_copy_78 rfl (lv_at hl 3 rfl) ?_
      refine va_iald hx hb hK hP 3 0 rfl rfl (vp_in_nI (nI_step (k := n) (by have := okM_n hM; omega) hI.1 c28_7) (by have := okM_n hM; omega)) dX13_copy_79 ?_
      refine va_iast hx hb hK hP hD hS 7 0 rfl rfl (by rw [← hM.1]; exact vp_in_nI (nI_step (k := n) (by have := okM_n hM; omega) hI.1 c28_7) (by have := okM_n hM; omega)) dX13_copy_80 (fun H locs hP hD hS => ?_)
      obtain ⟨f_14, ef_14⟩ : ∃ z, z = (upd gc_22 (nI j_22).toNatClampNeg (nx (nI j_22).toNatClampNeg)) := ⟨_, rfl⟩
      have hP : va_P (dC, dI) vwCl [(ma, .inr (18, [.int 0, .int (nI S), .int (nI G), .ref wa, .ref va, .ref na, .int my, .null, .int de, .int aa, .int bb, .ref tz])), (wa, .inl (cI, n, .inl w)), (va, .inl (cI, n, .inl mv)), (na, .inl (cI, n, .inl nx)), (q_1, .inr (18, [.int 0, .int (nI S), .int (nI G), .ref wa_2, .ref va_3, .ref na_4, .int 0, .null, .int 63, .int 0, .int 0, .ref tz_5])), (wa_2, .inl (cI, (S * G), .inl f_8)), (va_3, .inl (cI, (S * G), .inl f_13)), (na_4, .inl (cI, (S * G), .inl f_14))] H := by rw [ef_14]; exact hP
      have hD : va_D A [(ma, .inr (18, [.int 0, .int (nI S), .int (nI G), .ref wa, .ref va, .ref na, .int my, .null, .int de, .int aa, .int bb, .ref tz])), (wa, .inl (cI, n, .inl w)), (va, .inl (cI, n, .inl mv)), (na, .inl (cI, n, .inl nx)), (q_1, .inr (18, [.int 0, .int (nI S), .int (nI G), .ref wa_2, .ref va_3, .ref na_4, .int 0, .null, .int 63, .int 0, .int 0, .ref tz_5])), (wa_2, .inl (cI, (S * G), .inl f_8)), (va_3, .inl (cI, (S * G), .inl f_13)), (na_4, .inl (cI, (S * G), .inl f_14))] := by rw [ef_14]; exact hD
      obtain ⟨y_15, ey_15⟩ : ∃ y : Int32, y = (nI j_22) + 1 := ⟨_, rfl⟩
      refine lv_iinc (v := y_15) (lv' := [(3, .int y_15), (0, .ref ma), (1, .int bm), (2, .ref q_1)]) hx hb dX13_copy_81 hl (k := 3) rfl (by rw [ey_15]; rfl) (by decide) rfl (fun ls hl => ?_)
      obtain rfl : y_15 = nI (j_22 + 1) := by rw [ey_15]; exact nI_1 _
      refine lv_goto (tgt := 22) hx hb dX13_copy_84 (by decide) ?_
      exact ih22 ((j_22 + 1), f_8, f_13, f_14) ⟨(nI_step (by have := okM_n hM; omega) hI.1 c28_7), cpA (by have := okM_n hM; omega) (nI_step (by have := okM_n hM; omega) hI.1 c28_7) (ef_8) hI.2.1, cpB (v := fun q => if bm = 0 then mv q else -(mv q)) (by have := okM_n hM; omega) (nI_step (by have := okM_n hM; omega) hI.1 c28_7) (ef_13) hI.2.2.1 (by rw [nI_clamp (by have := okM_n hM; omega)]; simp [c49_9]), cpB (v := nx) (by have := okM_n hM; omega) (nI_step (by have := okM_n hM; omega) hI.1 c28_7) (ef_14) hI.2.2.2 (by rw [nI_clamp (by have := okM_n hM; omega)])⟩ (by have := nI_step (k := n) (by have := okM_n hM; omega) hI.1 c28_7; show n - (j_22 + 1) < n - j_22; omega) _ _ (hP.sub [0, 1, 2, 3, 4, 5, 6, 7] rfl) (hD.sub [0, 1, 2, 3, 4, 5, 6, 7] (by decide) rfl) hS ls (lv_sub hl [1, 2, 3, 0] rfl)

set_option maxHeartbeats 4000000 in
set_option maxRecDepth 100000 in
/-- X15_finds -/
theorem c_X15_finds (l : Launch) (dC : Nat → ClassId) (dI : Nat → Nat → Nat) (xm : Nat) (fA fB lH lN lO lS lM : Int32) (v2 v3 v4 v5 v6 v7 v8 v9 v10 v11 v12 v13 v14 v20 : Value) (a b : Int32) (sz : Nat) : Met l yX15_finds wsX15_finds ({ frames := 0, cells := 0, slots := 0, locals := 0 }) (va_Pc [.ref xm, .int a, .int b] (cPC dC dI [(xm, .inr (20, [.int fA, .int fB, v2, v3, v4, v5, v6, v7, v8, v9, v10, v11, v12, v13, v14, .int lH, .int lN, .int lO, .int lS, .int lM, v20]))] [] sz)) (va_Qi (fun (r : Int32) (u : Unit) => r = 1) (fun (u : Unit) t => cQB dC dI [(xm, .inr (20, [.int a, .int b, v2, v3, v4, v5, v6, v7, v8, v9, v10, v11, v12, v13, v14, .int lH, .int lN, .int lO, .int lS, .int lM, v20]))] [] (va_A [(xm, .inr (20, [.int fA, .int fB, v2, v3, v4, v5, v6, v7, v8, v9, v10, v11, v12, v13, v14, .int lH, .int lN, .int lO, .int lS, .int lM, v20]))] sz) t) (va_A [(xm, .inr (20, [.int fA, .int fB, v2, v3, v4, v5, v6, v7, v8, v9, v10, v11, v12, v13, v14, .int lH, .int lN, .int lO, .int lS, .int lM, v20]))] sz)) 0 0 (va_A [(xm, .inr (20, [.int fA, .int fB, v2, v3, v4, v5, v6, v7, v8, v9, v10, v11, v12, v13, v14, .int lH, .int lN, .int lO, .int lS, .int lM, v20]))] sz) := by
  refine Met.ofW (cc := cX15_finds) (maxL := 3) (ret := (some .boolean)) (by decide) rfl ?_
  intro p e s m args below meth c s₁ B hml hv
  obtain ⟨rfl, hsz, hP, hK, hD0, hN⟩ := hv
  have hx := B.exec
  have hb := B.bytes
  have hr := B.returns
  have hts := atoms_spec (ws := wsX15_finds) B.pre
  have hown : s.vm.findClass RX15 = some m.cls := findClass_of_methodNamed B.named
  have hlocks := B.notSynchronized
  subst hsz
  have hD := hD0.self (sz := s.heap.size)
  generalize hAe : va_A [(xm, .inr (20, [.int fA, .int fB, v2, v3, v4, v5, v6, v7, v8, v9, v10, v11, v12, v13, v14, .int lH, .int lN, .int lO, .int lS, .int lM, v20]))] s.heap.size = A at hD ⊢
  have hA : ∀ q : Nat, s.heap.size ≤ q → A q := fun q h => by rw [← hAe]; exact Or.inr h
  have hS : va_S A s.heap s.heap [] := va_S.rf
  have hP : va_P (dC, dI) vwCl [(xm, .inr (20, [.int fA, .int fB, v2, v3, v4, v5, v6, v7, v8, v9, v10, v11, v12, v13, v14, .int lH, .int lN, .int lO, .int lS, .int lM, v20]))] s.heap := hP
  have hD : va_D A [(xm, .inr (20, [.int fA, .int fB, v2, v3, v4, v5, v6, v7, v8, v9, v10, v11, v12, v13, v14, .int lH, .int lN, .int lO, .int lS, .int lM, v20]))] := hD
  have hl := lv_entry ([.ref xm, .int a, .int b]) (n := 3) (Nat.le_of_ble_eq_true rfl)
  rw [lg_entry_eq]
  generalize (lg_sl ([.ref xm, .int a, .int b]) ++ List.replicate (3 - (lg_sl ([.ref xm, .int a, .int b])).length) Slot.unset).toArray = ls at hl ⊢
  have hl : lv_has ls 3 [(0, .ref xm), (1, .int a), (2, .int b)] := hl
  have iWX15 : ∀ w ∈ u_ws RX15 TX15 21, w ∈ wsX15_finds := by decide +kernel
  refine lv_aload_n hx hb dX15_finds_0 rfl (lv_at hl 0 rfl) ?_
  refine lv_iload_n hx hb dX15_finds_1 rfl (lv_at hl 1 rfl) ?_
  refine va_put (D := (dC, dI)) (ci := 20) (v := .int a) (ty := .int) (C := RX15) (T := TX15) (N := 21) hx hb hts iWX15 tyX15 tyX15_ok nmX15 hown hK hP hD hS 0 rfl rfl 0 (by decide) (hts (.fieldLink RX15 3 "BeaverhallModel" "foundA" "I") (by decide +kernel)) (fun _ h9 => h9) rfl (by decide +kernel) rfl rfl (Nat.le_of_ble_eq_true rfl) dX15_finds_2 (fun H locs hP hD hS => ?_)
  have hP : va_P (dC, dI) vwCl [(xm, .inr (20, [.int a, .int fB, v2, v3, v4, v5, v6, v7, v8, v9, v10, v11, v12, v13, v14, .int lH, .int lN, .int lO, .int lS, .int lM, v20]))] H := hP
  have hD : va_D A [(xm, .inr (20, [.int a, .int fB, v2, v3, v4, v5, v6, v7, v8, v9, v10, v11, v12, v13, v14, .int lH, .int lN, .int lO, .int lS, .int lM, v20]))] := hD
  refine lv_aload_n hx hb dX15_finds_5 rfl (lv_at hl 0 rfl) ?_
  refine lv_iload_n hx hb dX15_finds_6 rfl (lv_at hl 2 rfl) ?_
  refine va_put (D := (dC, dI)) (ci := 20) (v := .int b) (ty := .int) (C := RX15) (T := TX15) (N := 21) hx hb hts iWX15 tyX15 tyX15_ok nmX15 hown hK hP hD hS 0 rfl rfl 1 (by decide) (hts (.fieldLink RX15 7 "BeaverhallModel" "foundB" "I") (by decide +kernel)) (fun _ h9 => h9) rfl (by decide +kernel) rfl rfl (Nat.le_of_ble_eq_true rfl) dX15_finds_7 (fun H locs hP hD hS => ?_)
  have hP : va_P (dC, dI) vwCl [(xm, .inr (20, [.int a, .int b, v2, v3, v4, v5, v6, v7, v8, v9, v10, v11, v12, v13, v14, .int lH, .int lN, .int lO, .int lS, .int lM, v20]))] H := hP
  have hD : va_D A [(xm, .inr (20, [.int a, .int b, v2, v3, v4, v5, v6, v7, v8, v9, v10, v11, v12, v13, v14, .int lH, .int lN, .int lO, .int lS, .int lM, v20]))] := hD
  refine lv_iconst (v := 1) hx hb dX15_finds_10 (by decide) ?_
  have hP9 := hP.sub (ws' := [(xm, .inr (20, [.int a, .int b, v2, v3, v4, v5, v6, v7, v8, v9, v10, v11, v12, v13, v14, .int lH, .int lN, .int lO, .int lS, .int lM, v20]))]) [0] rfl
  have hD9 := hD.sub (ws' := [(xm, .inr (20, [.int a, .int b, v2, v3, v4, v5, v6, v7, v8, v9, v10, v11, v12, v13, v14, .int lH, .int lN, .int lO, .int lS, .int lM, v20]))]) [0] (by decide) rfl
  have hK9 := hK.sub (tys' := []) [] rfl
  exact W.zret (v := 1) hx hb hr (by rfl) (fun t ht hW => ⟨⟨1, (), rfl, rfl, ⟨by rw [ht]; exact hP9, va_K.moved hW.alike hK9, hD9⟩⟩, hS.F ht⟩) hS.2.2 dX15_finds_11

set_option maxHeartbeats 4000000 in
set_option maxRecDepth 100000 in
/-- X15_isRecord -/
theorem c_X15_isRecord (l : Launch) (dC : Nat → ClassId) (dI : Nat → Nat → Nat) (cI : ClassId) (ma wa va na tz n S G : Nat) (my de aa bb : Int32) (w mv nx : Nat → Int32) (hM : okM S G n w mv nx) (ra ta a : Nat) (ha : a < 2 ^ 31) (hal : alvR (nI G) w mv nx a) (sz : Nat) : Met l yX15_isRecord wsX15_isRecord ({ frames := 4, cells := 0, slots := 0, locals := 120 }) (va_Pc [.ref ra, .int (nI a)] (cPC dC dI [(ma, .inr (18, [.int 0, .int (nI S), .int (nI G), .ref wa, .ref va, .ref na, .int my, .null, .int de, .int aa, .int bb, .ref tz])), (wa, .inl (cI, n, .inl w)), (va, .inl (cI, n, .inl mv)), (na, .inl (cI, n, .inl nx)), (ra, .inr (19, [.ref ma, .ref ta, .int 0, .int 0, .int 0, .int 0, .int 0, .int 0, .int 0])), (ta, .inl (cI, 1001, .inl (fun _ => 0)))] [(cI, .int)] sz)) (va_Qi (fun (r : Int32) (u : RunT) => u = seqR (nI G) w mv nx a ∧ ((r = 1 ∧ recP (nI G) w mv nx a) ∨ (r = 0 ∧ ¬ recP (nI G) w mv nx a))) (fun (u : RunT) t => cQB dC dI [(ma, .inr (18, [.int 0, .int (nI S), .int (nI G), .ref wa, .ref va, .ref na, .int my, .null, .int de, .int aa, .int bb, .ref tz])), (wa, .inl (cI, n, .inl w)), (va, .inl (cI, n, .inl mv)), (na, .inl (cI, n, .inl nx)), (ra, .inr (19, [.ref ma, .ref ta, .int u.1, .int u.2.1, .int u.2.2.1, .int u.2.2.2.1, .int u.2.2.2.2.1, .int u.2.2.2.2.2.1, .int u.2.2.2.2.2.2.1])), (ta, .inl (cI, 1001, .inl u.2.2.2.2.2.2.2))] [(cI, .int)] (va_A [(ma, .inr (18, [.int 0, .int (nI S), .int (nI G), .ref wa, .ref va, .ref na, .int my, .null, .int de, .int aa, .int bb, .ref tz])), (wa, .inl (cI, n, .inl w)), (va, .inl (cI, n, .inl mv)), (na, .inl (cI, n, .inl nx)), (ra, .inr (19, [.ref ma, .ref ta, .int 0, .int 0, .int 0, .int 0, .int 0, .int 0, .int 0])), (ta, .inl (cI, 1001, .inl (fun _ => 0)))] sz) t) (va_A [(ma, .inr (18, [.int 0, .int (nI S), .int (nI G), .ref wa, .ref va, .ref na, .int my, .null, .int de, .int aa, .int bb, .ref tz])), (wa, .inl (cI, n, .inl w)), (va, .inl (cI, n, .inl mv)), (na, .inl (cI, n, .inl nx)), (ra, .inr (19, [.ref ma, .ref ta, .int 0, .int 0, .int 0, .int 0, .int 0, .int 0, .int 0])), (ta, .inl (cI, 1001, .inl (fun _ => 0)))] sz)) 0 0 (va_A [(ma, .inr (18, [.int 0, .int (nI S), .int (nI G), .ref wa, .ref va, .ref na, .int my, .null, .int de, .int aa, .int bb, .ref tz])), (wa, .inl (cI, n, .inl w)), (va, .inl (cI, n, .inl mv)), (na, .inl (cI, n, .inl nx)), (ra, .inr (19, [.ref ma, .ref ta, .int 0, .int 0, .int 0, .int 0, .int 0, .int 0, .int 0])), (ta, .inl (cI, 1001, .inl (fun _ => 0)))] sz) := by
  refine Met.ofW (cc := cX15_isRecord) (maxL := 4) (ret := (some .boolean)) (by decide) rfl ?_
  intro p e s m args below meth c s₁ B hml hv
  obtain ⟨rfl, hsz, hP, hK, hD0, hN⟩ := hv
  have hx := B.exec
  have hb := B.bytes
  have hr := B.returns
  have hts := atoms_spec (ws := wsX15_isRecord) B.pre
  have hown : s.vm.findClass RX15 = some m.cls := findClass_of_methodNamed B.named
  have hlocks := B.notSynchronized
  subst hsz
  have hD := hD0.self (sz := s.heap.size)
  generalize hAe : va_A [(ma, .inr (18, [.int 0, .int (nI S), .int (nI G), .ref wa, .ref va, .ref na, .int my, .null, .int de, .int aa, .int bb, .ref tz])), (wa, .inl (cI, n, .inl w)), (va, .inl (cI, n, .inl mv)), (na, .inl (cI, n, .inl nx)), (ra, .inr (19, [.ref ma, .ref ta, .int 0, .int 0, .int 0, .int 0, .int 0, .int 0, .int 0])), (ta, .inl (cI, 1001, .inl (fun _ => 0)))] s.heap.size = A at hD ⊢
  have hA : ∀ q : Nat, s.heap.size ≤ q → A q := fun q h => by rw [← hAe]; exact Or.inr h
  have hS : va_S A s.heap s.heap [] := va_S.rf
  have hP : va_P (dC, dI) vwCl [(ma, .inr (18, [.int 0, .int (nI S), .int (nI G), .ref wa, .ref va, .ref na, .int my, .null, .int de, .int aa, .int bb, .ref tz])), (wa, .inl (cI, n, .inl w)), (va, .inl (cI, n, .inl mv)), (na, .inl (cI, n, .inl nx)), (ra, .inr (19, [.ref ma, .ref ta, .int 0, .int 0, .int 0, .int 0, .int 0, .int 0, .int 0])), (ta, .inl (cI, 1001, .inl (fun _ => 0)))] s.heap := hP
  have hD : va_D A [(ma, .inr (18, [.int 0, .int (nI S), .int (nI G), .ref wa, .ref va, .ref na, .int my, .null, .int de, .int aa, .int bb, .ref tz])), (wa, .inl (cI, n, .inl w)), (va, .inl (cI, n, .inl mv)), (na, .inl (cI, n, .inl nx)), (ra, .inr (19, [.ref ma, .ref ta, .int 0, .int 0, .int 0, .int 0, .int 0, .int 0, .int 0])), (ta, .inl (cI, 1001, .inl (fun _ => 0)))] := hD
  have hl := lv_entry ([.ref ra, .int (nI a)]) (n := 4) (Nat.le_of_ble_eq_true rfl)
  rw [lg_entry_eq]
  generalize (lg_sl ([.ref ra, .int (nI a)]) ++ List.replicate (4 - (lg_sl ([.ref ra, .int (nI a)])).length) Slot.unset).toArray = ls at hl ⊢
  have hl : lv_has ls 4 [(0, .ref ra), (1, .int (nI a))] := hl
  have iWX14 : ∀ w ∈ u_ws RX14 TX14 9, w ∈ wsX15_isRecord := by decide +kernel
  refine lv_iconst (v := 1) hx hb dX15_isRecord_0 (by decide) ?_
  refine lv_istore_n (lv' := [(2, .int 1), (0, .ref ra), (1, .int (nI a))]) hx hb dX15_isRecord_1 rfl hl (by decide) rfl (fun ls hl => ?_)
  refine lp_go (σ := Int32 × Nat × Int32 × Int32 × Int32 × Int32 × Int32 × Int32 × Int32 × (Nat → Int32)) (fun x => match x with | (z_2, i_2, st_2, ce_2, lf_2, rt_2, sp_2, hh_2, ib_2, f_2) => i_2 ≤ a ∧ (st_2, ce_2, lf_2, rt_2, sp_2, hh_2, ib_2, f_2) = seqR (nI G) w mv nx i_2 ∧ ((z_2 = 1 ∧ recP (nI G) w mv nx i_2) ∨ (z_2 = 0 ∧ ¬ recP (nI G) w mv nx i_2))) (fun x => match x with | (z_2, i_2, st_2, ce_2, lf_2, rt_2, sp_2, hh_2, ib_2, f_2) => a - i_2) (fun x => [(ma, .inr (18, [.int 0, .int (nI S), .int (nI G), .ref wa, .ref va, .ref na, .int my, .null, .int de, .int aa, .int bb, .ref tz])), (wa, .inl (cI, n, .inl w)), (va, .inl (cI, n, .inl mv)), (na, .inl (cI, n, .inl nx)), (ra, .inr (19, [.ref ma, .ref ta, .int x.2.2.1, .int x.2.2.2.1, .int x.2.2.2.2.1, .int x.2.2.2.2.2.1, .int x.2.2.2.2.2.2.1, .int x.2.2.2.2.2.2.2.1, .int x.2.2.2.2.2.2.2.2.1])), (ta, .inl (cI, 1001, .inl x.2.2.2.2.2.2.2.2.2))]) (fun x => [(0, .ref ra), (1, .int (nI a)), (2, .int x.1)]) (fun _ => []) (fun x hI ih2 H locs hP hD hS ls hl => ?_) (1, 0, 0, 0, 0, 0, 0, 0, 0, (fun _ => 0)) ⟨Nat.zero_le _, rfl, Or.inl ⟨rfl, trivial⟩⟩ (hP.sub [0, 1, 2, 3, 4, 5] rfl) (hD.sub [0, 1, 2, 3, 4, 5] (by decide) rfl) hS (lv_sub hl [1, 2, 0] rfl)
  obtain ⟨z_2, i_2, st_2, ce_2, lf_2, rt_2, sp_2, hh_2, ib_2, f_2⟩ := x
  have hP : va_P (dC, dI) vwCl [(ma, .inr (18, [.int 0, .int (nI S), .int (nI G), .ref wa, .ref va, .ref na, .int my, .null, .int de, .int aa, .int bb, .ref tz])), (wa, .inl (cI, n, .inl w)), (va, .inl (cI, n, .inl mv)), (na, .inl (cI, n, .inl nx)), (ra, .inr (19, [.ref ma, .ref ta, .int st_2, .int ce_2, .int lf_2, .int rt_2, .int sp_2, .int hh_2, .int ib_2])), (ta, .inl (cI, 1001, .inl f_2))] H := hP
  have hD : va_D A [(ma, .inr (18, [.int 0, .int (nI S), .int (nI G), .ref wa, .ref va, .ref na, .int my, .null, .int de, .int aa, .int bb, .ref tz])), (wa, .inl (cI, n, .inl w)), (va, .inl (cI, n, .inl mv)), (na, .inl (cI, n, .inl nx)), (ra, .inr (19, [.ref ma, .ref ta, .int st_2, .int ce_2, .int lf_2, .int rt_2, .int sp_2, .int hh_2, .int ib_2])), (ta, .inl (cI, 1001, .inl f_2))] := hD
  have hl : lv_has ls 4 [(0, .ref ra), (1, .int (nI a)), (2, .int z_2)] := hl
  try dsimp only at hI
  have ih2 := ih2
  refine lv_aload_n hx hb dX15_isRecord_2 rfl (lv_at hl 0 rfl) ?_
  refine va_getN (D := (dC, dI)) (ci := 19) (v := .int sp_2) (C := RX14) (T := TX14) (N := 9) hx hb hts iWX14 hown hK hP 4 rfl rfl 6 (by decide) (va_Nw.use rfl (hN (.fieldLinkNest RX15 24 "BeaverhallModel$Run" "steps" "I" "BeaverhallModel") (by decide +kernel))) (fun _ h9 => h9) rfl dX15_isRecord_3 ?_
  refine lv_iload_n hx hb dX15_isRecord_6 rfl (lv_at hl 1 rfl) ?_
  refine lv_icmp_ge (tgt := 41) hx hb dX15_isRecord_7 (by decide) (fun c7_1 => ?_) (fun c7_1 => ?_)
  · refine lv_iload_n hx hb dX15_isRecord_41 rfl (lv_at hl 2 rfl) ?_
    have hP9 := hP.sub (ws' := [(ma, .inr (18, [.int 0, .int (nI S), .int (nI G), .ref wa, .ref va, .ref na, .int my, .null, .int de, .int aa, .int bb, .ref tz])), (wa, .inl (cI, n, .inl w)), (va, .inl (cI, n, .inl mv)), (na, .inl (cI, n, .inl nx)), (ra, .inr (19, [.ref ma, .ref ta, .int st_2, .int ce_2, .int lf_2, .int rt_2, .int sp_2, .int hh_2, .int ib_2])), (ta, .inl (cI, 1001, .inl f_2))]) [0, 1, 2, 3, 4, 5] rfl
    have hD9 := hD.sub (ws' := [(ma, .inr (18, [.int 0, .int (nI S), .int (nI G), .ref wa, .ref va, .ref na, .int my, .null, .int de, .int aa, .int bb, .ref tz])), (wa, .inl (cI, n, .inl w)), (va, .inl (cI, n, .inl mv)), (na, .inl (cI, n, .inl nx)), (ra, .inr (19, [.ref ma, .ref ta, .int st_2, .int ce_2, .int lf_2, .int rt_2, .int sp_2, .int hh_2, .int ib_2])), (ta, .inl (cI, 1001, .inl f_2))]) [0, 1, 2, 3, 4, 5] (by decide) rfl
    have hK9 := hK.sub (tys' := [(cI, .int)]) [0] rfl
    exact W.zret (v := z_2) hx hb hr (nar01 (hI.2.2.elim (fun h => Or.inr h.1) (fun h => Or.inl h.1))) (fun t ht hW => ⟨⟨z_2, (st_2, ce_2, lf_2, rt_2, sp_2, hh_2, ib_2, f_2), rfl, (by have hsp2 := (seqR_al (alvR_le hal hI.1)).1; rw [← hI.2.1] at hsp2; dsimp only at hsp2; have h3 := nI_end ha hI.1 (by rw [← hsp2]; exact c7_1); subst h3; exact ⟨hI.2.1, hI.2.2⟩), ⟨by rw [ht]; exact hP9, va_K.moved hW.alike hK9, hD9⟩⟩, hS.F ht⟩) hS.2.2 dX15_isRecord_42
  · refine lv_aload_n hx hb dX15_isRecord_10 rfl (lv_at hl 0 rfl) ?_
    refine va_getN (D := (dC, dI)) (ci := 19) (v := .int rt_2) (C := RX14) (T := TX14) (N := 9) hx hb hts iWX14 hown hK hP 4 rfl rfl 5 (by decide) (va_Nw.use rfl (hN (.fieldLinkNest RX15 58 "BeaverhallModel$Run" "right" "I" "BeaverhallModel") (by decide +kernel))) (fun _ h9 => h9) rfl dX15_isRecord_11 ?_
    refine lv_istore_n (lv' := [(3, .int rt_2), (0, .ref ra), (1, .int (nI a)), (2, .int z_2)]) hx hb dX15_isRecord_14 rfl hl (by decide) rfl (fun ls hl => ?_)
    refine lv_aload_n hx hb dX15_isRecord_15 rfl (lv_at hl 1 rfl) ?_
    have hPc := hP.sub (ws' := [(ma, .inr (18, [.int 0, .int (nI S), .int (nI G), .ref wa, .ref va, .ref na, .int my, .null, .int de, .int aa, .int bb, .ref tz])), (wa, .inl (cI, n, .inl w)), (va, .inl (cI, n, .inl mv)), (na, .inl (cI, n, .inl nx)), (ra, .inr (19, [.ref ma, .ref ta, .int st_2, .int ce_2, .int lf_2, .int rt_2, .int sp_2, .int hh_2, .int ib_2])), (ta, .inl (cI, 1001, .inl f_2))]) [0, 1, 2, 3, 4, 5] rfl
    have hDc := hD.sub (ws' := [(ma, .inr (18, [.int 0, .int (nI S), .int (nI G), .ref wa, .ref va, .ref na, .int my, .null, .int de, .int aa, .int bb, .ref tz])), (wa, .inl (cI, n, .inl w)), (va, .inl (cI, n, .inl mv)), (na, .inl (cI, n, .inl nx)), (ra, .inr (19, [.ref ma, .ref ta, .int st_2, .int ce_2, .int lf_2, .int rt_2, .int sp_2, .int hh_2, .int ib_2])), (ta, .inl (cI, 1001, .inl f_2))]) [0, 1, 2, 3, 4, 5] (by decide) rfl
    have hKc := hK.sub (tys' := [(cI, .int)]) [0] rfl
    have hFc := va_free (wc := [(ma, .inr (18, [.int 0, .int (nI S), .int (nI G), .ref wa, .ref va, .ref na, .int my, .null, .int de, .int aa, .int bb, .ref tz])), (wa, .inl (cI, n, .inl w)), (va, .inl (cI, n, .inl mv)), (na, .inl (cI, n, .inl nx)), (ra, .inr (19, [.ref ma, .ref ta, .int st_2, .int ce_2, .int lf_2, .int rt_2, .int sp_2, .int hh_2, .int ib_2])), (ta, .inl (cI, 1001, .inl f_2))]) hD hS hA [0, 1, 2, 3, 4, 5] rfl
    refine va_calli (va_runV (As := []) (rest := []) ⟨hx, hb, hml, hown, hts⟩ (c_X14_step l dC dI cI ma wa va na tz n S G my de aa bb w mv nx hM ra ta st_2 ce_2 lf_2 rt_2 sp_2 hh_2 ib_2 f_2 (by rw [hI.2.1]; exact seqR_ok hM _)  H.size) (cwV 0 hts gX15_isRecord_X14_step rfl rfl rfl (by decide +kernel) ⟨Nat.le_of_ble_eq_true rfl, Nat.le_of_ble_eq_true rfl⟩) (pcV hPc hDc hKc hN (ci := 19) (q0 := 4) rfl rfl) rfl rfl hl.1 rfl (lv_room (Nat.le_of_ble_eq_true rfl)) dX15_isRecord_16 ⟨Nat.le_of_ble_eq_true rfl, Nat.le_of_ble_eq_true rfl⟩) hS (fun q _ h => hFc q h) hFc (fun r_10 u t H1 locs ht hvm hw_11 hB hz1 hk1 hS => ?_)
    obtain ⟨st_2, ce_3, lf_4, rt_5, sp_6, hh_7, ib_8, f_9⟩ := u
    obtain ⟨hP1, hK1, hD1⟩ := hB
    rw [ht] at hP1
    try dsimp only at hw_11
    obtain ⟨hP, hD⟩ := va_join (wr := []) (w1 := [(ma, .inr (18, [.int 0, .int (nI S), .int (nI G), .ref wa, .ref va, .ref na, .int my, .null, .int de, .int aa, .int bb, .ref tz])), (wa, .inl (cI, n, .inl w)), (va, .inl (cI, n, .inl mv)), (na, .inl (cI, n, .inl nx)), (ra, .inr (19, [.ref ma, .ref ta, .int st_2, .int ce_3, .int lf_4, .int rt_5, .int sp_6, .int hh_7, .int ib_8])), (ta, .inl (cI, 1001, .inl f_9))]) hP hD [0, 1, 2, 3, 4, 5] [] rfl rfl (by decide) (by decide) hk1 hFc hP1 hD1
    generalize H1 = H at hP hS ⊢
    have hP : va_P (dC, dI) vwCl [(ma, .inr (18, [.int 0, .int (nI S), .int (nI G), .ref wa, .ref va, .ref na, .int my, .null, .int de, .int aa, .int bb, .ref tz])), (wa, .inl (cI, n, .inl w)), (va, .inl (cI, n, .inl mv)), (na, .inl (cI, n, .inl nx)), (ra, .inr (19, [.ref ma, .ref ta, .int st_2, .int ce_3, .int lf_4, .int rt_5, .int sp_6, .int hh_7, .int ib_8])), (ta, .inl (cI, 1001, .inl f_9))] H := hP
    have hD : va_D A [(ma, .inr (18, [.int 0, .int (nI S), .int (nI G), .ref wa, .ref va, .ref na, .int my, .null, .int de, .int aa, .int bb, .ref tz])), (wa, .inl (cI, n, .inl w)), (va, .inl (cI, n, .inl mv)), (na, .inl (cI, n, .inl nx)), (ra, .inr (19, [.ref ma, .ref ta, .int st_2, .int ce_3, .int lf_4, .int rt_5, .int sp_6, .int hh_7, .int ib_8])), (ta, .inl (cI, 1001, .inl f_9))] := hD
    have hsp2 := (seqR_al (alvR_le hal hI.1)).1
    rw [← hI.2.1] at hsp2
    dsimp only at hsp2
    have hia : i_2 < a := nI_step ha hI.1 (by rw [← hsp2]; exact c7_1)
    obtain ⟨hb12, hs12⟩ := bit_of hI.2.1 hw_11
    rw [(hal i_2 hia)] at hb12
    subst hb12
    refine lv_if_ne (tgt := 24) hx hb dX15_isRecord_19 (by decide) (fun c19_13 => ?_) (fun c19_13 => ?_)
    · refine lv_aload_n hx hb dX15_isRecord_24 rfl (lv_at hl 1 rfl) ?_
      refine va_getN (D := (dC, dI)) (ci := 19) (v := .int ce_3) (C := RX14) (T := TX14) (N := 9) hx hb hts iWX14 hown hK hP 4 rfl rfl 3 (by decide) (va_Nw.use rfl (hN (.fieldLinkNest RX15 55 "BeaverhallModel$Run" "cell" "I" "BeaverhallModel") (by decide +kernel))) (fun _ h9 => h9) rfl dX15_isRecord_25 ?_
      refine lv_iload_n hx hb dX15_isRecord_28 rfl (lv_at hl 0 rfl) ?_
      refine lv_icmp_le (tgt := 36) hx hb dX15_isRecord_29 (by decide) (fun c29_14 => ?_) (fun c29_14 => ?_)
      · refine lv_iconst (v := 0) hx hb dX15_isRecord_36 (by decide) ?_
        refine lv_istore_n (lv' := [(2, .int 0), (3, .int rt_2), (0, .ref ra), (1, .int (nI a))]) hx hb dX15_isRecord_37 rfl hl (by decide) rfl (fun ls hl => ?_)
        refine lv_goto (tgt := 2) hx hb dX15_isRecord_38 (by decide) ?_
        exact ih2 (0, (i_2 + 1), st_2, ce_3, lf_4, rt_5, sp_6, hh_7, ib_8, f_9) ⟨hia, hs12, Or.inr ⟨rfl, fun h => (Int32.not_lt.mpr c29_14) (by have h2 : (seqR (nI G) w mv nx i_2).2.2.2.1 < (seqR (nI G) w mv nx (i_2 + 1)).2.1 := h; rw [← hs12, ← hI.2.1] at h2; exact h2)⟩⟩ (by show a - (i_2 + 1) < a - i_2; omega) _ _ (hP.sub [0, 1, 2, 3, 4, 5] rfl) (hD.sub [0, 1, 2, 3, 4, 5] (by decide) rfl) hS ls (lv_sub hl [2, 3, 0] rfl)
      · refine lv_iconst (v := 1) hx hb dX15_isRecord_32 (by decide) ?_
        refine lv_goto (tgt := 37) hx hb dX15_isRecord_33 (by decide) ?_
        refine lv_istore_n (lv' := [(2, .int 1), (3, .int rt_2), (0, .ref ra), (1, .int (nI a))]) hx hb dX15_isRecord_37 rfl hl (by decide) rfl (fun ls hl => ?_)
        refine lv_goto (tgt := 2) hx hb dX15_isRecord_38 (by decide) ?_
        exact ih2 (1, (i_2 + 1), st_2, ce_3, lf_4, rt_5, sp_6, hh_7, ib_8, f_9) ⟨hia, hs12, Or.inl ⟨rfl, by show (seqR (nI G) w mv nx i_2).2.2.2.1 < (seqR (nI G) w mv nx (i_2 + 1)).2.1; rw [← hs12, ← hI.2.1]; exact Int32.not_le.mp c29_14⟩⟩ (by show a - (i_2 + 1) < a - i_2; omega) _ _ (hP.sub [0, 1, 2, 3, 4, 5] rfl) (hD.sub [0, 1, 2, 3, 4, 5] (by decide) rfl) hS ls (lv_sub hl [2, 3, 0] rfl)
    · exact absurd c19_13 (by decide)
