theorem dL_decide_0 : decode cL_decide 0 = .ok (.aload 4, 2) := by decide +kernel
theorem dL_decide_2 : decode cL_decide 2 = .ok (.iconst 0, 1) := by decide +kernel
theorem dL_decide_3 : decode cL_decide 3 = .ok (.aload_n 0, 1) := by decide +kernel
theorem dL_decide_4 : decode cL_decide 4 = .ok (.iload_n 1, 1) := by decide +kernel
theorem dL_decide_5 : decode cL_decide 5 = .ok (.iload_n 2, 1) := by decide +kernel
theorem dL_decide_6 : decode cL_decide 6 = .ok (.iload_n 3, 1) := by decide +kernel
theorem gi_app {big a b : List Cond} (h1 : GoodIn big a) (h2 : GoodIn big b) : GoodIn big (a ++ b) := List.forall_mem_append.mpr ⟨h1, h2⟩
theorem gi_cons {big a : List Cond} {c : Cond} (h1 : GoodIn big [c]) (h2 : GoodIn big a) : GoodIn big (c :: a) := fun w h => (List.mem_cons.mp h).elim (fun e => h1 w (List.mem_cons.mpr (Or.inl e))) (h2 w)
theorem gidec_c : GoodIn wsL_decide [.code yX11_decide cX11_decide 5 (some .boolean)] := goodIn_r _ [8] rfl (by decide +kernel)
theorem gidec_r1 : GoodIn wsL_decide wsX11_decide_r1 := goodIn_r _ [9, 10, 11, 12, 13, 14, 15, 7, 16, 17, 18, 19, 20, 21, 22, 23, 24, 25, 26, 27, 28, 29, 30, 31] rfl (by decide +kernel)
theorem gidec_r2 : GoodIn wsL_decide wsX11_decide_r2 := goodIn_r _ [32, 33, 34, 35, 36, 37, 38, 39, 40, 41, 42, 43, 44, 45, 46, 47, 48, 49, 50, 51, 52, 53, 54, 55] rfl (by decide +kernel)
theorem gidec_r3 : GoodIn wsL_decide wsX11_decide_r3 := goodIn_r _ [56, 57, 58, 59, 60, 61, 62, 63, 64, 65, 66, 67, 68, 69, 70, 71, 72, 73, 74, 75, 76, 77, 78, 79] rfl (by decide +kernel)
theorem gidec_r4 : GoodIn wsL_decide wsX11_decide_r4 := goodIn_r _ [80, 81, 82, 83, 84, 85, 86, 87, 88, 89, 90, 91, 92, 93, 94, 95, 96, 97, 98, 99, 100, 101, 102, 103] rfl (by decide +kernel)
theorem gidec_r5 : GoodIn wsL_decide wsX11_decide_r5 := goodIn_r _ [104, 105, 106, 107, 108, 109, 110, 111, 112, 113, 114, 115, 116, 117, 118, 119, 120, 121, 122, 123, 124, 125, 126, 127] rfl (by decide +kernel)
theorem gidec_r6 : GoodIn wsL_decide wsX11_decide_r6 := goodIn_r _ [128, 129, 130, 131, 132, 133, 134, 135, 136, 137, 138, 139, 140, 141, 142, 143, 144, 145, 146, 147, 148, 149, 150, 151] rfl (by decide +kernel)
theorem gidec_r7 : GoodIn wsL_decide wsX11_decide_r7 := goodIn_r _ [152, 153, 154, 155, 156, 157, 158, 159, 160, 161, 162, 163, 164, 165, 166, 167, 168, 169, 170, 171, 172, 173, 174, 175] rfl (by decide +kernel)
theorem gidec_r8 : GoodIn wsL_decide wsX11_decide_r8 := goodIn_r _ [176, 177, 178, 179, 180, 181, 182, 183, 184, 185, 186, 187, 188, 189, 190, 191, 192, 193, 194, 195, 196, 197, 198, 199] rfl (by decide +kernel)
theorem gidec_r9 : GoodIn wsL_decide wsX11_decide_r9 := goodIn_r _ [200, 201, 202, 203, 204, 205, 206, 207, 208, 209, 210, 211, 212, 213, 214, 215, 216, 217, 218, 219, 220, 221, 222, 223] rfl (by decide +kernel)
theorem gidec_r10 : GoodIn wsL_decide wsX11_decide_r10 := goodIn_r _ [224, 225, 226, 227, 228, 229, 230, 231, 232, 233, 234, 235, 236, 237, 238, 239, 240, 241, 242, 243, 244, 245, 246, 247] rfl (by decide +kernel)
theorem gidec_r11 : GoodIn wsL_decide wsX11_decide_r11 := goodIn_r _ [248, 249, 250, 251, 252, 253, 254, 255, 256, 257, 258, 259, 260, 261, 262, 263, 264, 265, 266, 267] rfl (by decide +kernel)
theorem gidec_wsX50 : GoodIn wsL_decide wsX50 := goodIn_r _ [268, 269, 270, 271, 272, 273, 274, 275, 276, 277, 278] rfl (by decide +kernel)
theorem gidec_wsX110 : GoodIn wsL_decide wsX110 := goodIn_r _ [279, 280, 281, 282, 283, 284, 285] rfl (by decide +kernel)
theorem gidec_wsX20 : GoodIn wsL_decide wsX20 := goodIn_r _ [286, 287, 288, 289, 290, 291] rfl (by decide +kernel)
theorem gidec_wsX70 : GoodIn wsL_decide wsX70 := goodIn_r _ [292, 293, 294, 295, 296, 297, 298] rfl (by decide +kernel)
theorem gidec_wsX60 : GoodIn wsL_decide wsX60 := goodIn_r _ [299, 300, 301, 302, 303, 304, 305, 306, 307] rfl (by decide +kernel)
theorem gidec_wsX40 : GoodIn wsL_decide wsX40 := goodIn_r _ [308, 309, 310, 311, 312, 313, 314] rfl (by decide +kernel)
theorem gidec_wsX100 : GoodIn wsL_decide wsX100 := goodIn_r _ [315, 316, 317, 318, 319] rfl (by decide +kernel)
set_option maxRecDepth 20000 in
theorem ggL_decide_X11_decide : GoodIn wsL_decide wsX11_decide := goodIn_ca (goodIn_ca (goodIn_ca (goodIn_ca (gi_cons gidec_c (gi_app (gi_app (gi_app (gi_app (gi_app (gi_app (gi_app (gi_app gidec_r1 (gi_app gidec_r2 (gi_app gidec_r3 (gi_app gidec_r4 (gi_app gidec_r5 (gi_app gidec_r6 (gi_app gidec_r7 (gi_app gidec_r8 (gi_app gidec_r9 (gi_app gidec_r10 gidec_r11)))))))))) gidec_wsX50) gidec_wsX110) gidec_wsX20) gidec_wsX70) gidec_wsX60) gidec_wsX40) gidec_wsX100)) (goodIn_sub (fun _ h => List.mem_cons_of_mem _ (List.mem_append_left _ (List.mem_append_left _ (List.mem_append_right _ h)))) (by decide +kernel))) (goodIn_sub (fun _ h => List.mem_cons_of_mem _ (List.mem_append_left _ (List.mem_append_right _ h))) (by decide +kernel))) (goodIn_sub (fun _ h => List.mem_cons_of_mem _ (List.mem_append_right _ h)) (by decide +kernel))) (goodIn_sub (fun _ h => List.mem_cons_of_mem _ (List.mem_append_left _ (List.mem_append_left _ (List.mem_append_left _ (List.mem_append_right _ h))))) (by decide +kernel))
set_option maxRecDepth 20000 in
theorem gL_decide_X11_decide : GoodIn wsL_decide (wsV RL 59 RX11 yX11_decide wsX11_decide) := goodIn_app (goodIn_of _ (by decide +kernel)) ggL_decide_X11_decide
theorem dL_decide_7 : decode cL_decide 7 = .ok (.invokevirtual 59, 3) := by decide +kernel
theorem dL_decide_22 : decode cL_decide 22 = .ok (.astore 5, 2) := by decide +kernel
theorem dL_decide_24 : decode cL_decide 24 = .ok (.iconst 1, 1) := by decide +kernel
theorem dL_decide_25 : decode cL_decide 25 = .ok (.ireturn, 1) := by decide +kernel
set_option maxHeartbeats 4000000 in
set_option maxRecDepth 100000 in
/-- L_decide -/
theorem c_L_decide (l : Launch) (hfl : l.stackTraces = false) (dC : Nat → ClassId) (dI : Nat → Nat → Nat) (ya ms ju li ct tg fw : Nat) (a1 a2 a3 : Int32) (cL : ClassId) (ou : Nat) (of9 : Nat → Int64) (sz : Nat) : vx_Met l yL_decide wsL_decide ({ frames := 8, cells := 1, slots := 6, locals := 146 }) (va_Pc [.ref ya, .int a1, .int a2, .int a3, .ref ou] (cPCz (zX) dC dI [(ya, .inr (16, [.ref ms, .int 0, .ref ju, .ref li, .ref ct, .ref tg, .ref fw])), (ou, .inl (cL, 1, .inr (.inl of9)))] [(cL, .long)] sz)) (va_Qi (fun (r : Int32) (u : Nat → Int64) => r = 1) (fun (u : Nat → Int64) t => cQB dC dI [(ou, .inl (cL, 1, .inr (.inl u)))] [(cL, .long)] (va_A [(ya, .inr (16, [.ref ms, .int 0, .ref ju, .ref li, .ref ct, .ref tg, .ref fw])), (ou, .inl (cL, 1, .inr (.inl of9)))] sz) t) (va_A [(ya, .inr (16, [.ref ms, .int 0, .ref ju, .ref li, .ref ct, .ref tg, .ref fw])), (ou, .inl (cL, 1, .inr (.inl of9)))] sz)) (vx_X (fun (_ : Unit) => True) (fun (E9 : String) (_ : Unit) (_ : State) => False) (va_A [(ya, .inr (16, [.ref ms, .int 0, .ref ju, .ref li, .ref ct, .ref tg, .ref fw])), (ou, .inl (cL, 1, .inr (.inl of9)))] sz)) 1 6 (va_A [(ya, .inr (16, [.ref ms, .int 0, .ref ju, .ref li, .ref ct, .ref tg, .ref fw])), (ou, .inl (cL, 1, .inr (.inl of9)))] sz) := by
  refine vx_ofWH (cc := cL_decide) (maxL := 6) (ret := (some .int)) (hh := [(0, 19, 22, 21), (0, 19, 26, 13), (0, 19, 30, 63)]) (by decide) rfl ?_
  intro p e s m args below meth c s₁ B hml hv
  obtain ⟨rfl, ⟨hsz, hP, hK, hD0, hN⟩, hZ⟩ := hv
  have hx := B.exec
  have hb := B.bytes
  have hr := B.returns
  have hts := atoms_spec (ws := wsL_decide) B.pre
  have hown : s.vm.findClass RL = some m.cls := findClass_of_methodNamed B.named
  have hlocks := B.notSynchronized
  subst hsz
  have hD := hD0.self (sz := s.heap.size)
  generalize hAe : va_A [(ya, .inr (16, [.ref ms, .int 0, .ref ju, .ref li, .ref ct, .ref tg, .ref fw])), (ou, .inl (cL, 1, .inr (.inl of9)))] s.heap.size = A at hD hZ ⊢
  have hA : ∀ q : Nat, s.heap.size ≤ q → A q := fun q h => by rw [← hAe]; exact Or.inr h
  have hS : va_S A s.heap s.heap [] := va_S.rf
  have hP : va_P (dC, dI) vwCl [(ya, .inr (16, [.ref ms, .int 0, .ref ju, .ref li, .ref ct, .ref tg, .ref fw])), (ou, .inl (cL, 1, .inr (.inl of9)))] s.heap := hP
  have hD : va_D A [(ya, .inr (16, [.ref ms, .int 0, .ref ju, .ref li, .ref ct, .ref tg, .ref fw])), (ou, .inl (cL, 1, .inr (.inl of9)))] := hD
  have hl := lv_entry ([.ref ya, .int a1, .int a2, .int a3, .ref ou]) (n := 6) (Nat.le_of_ble_eq_true rfl)
  rw [lg_entry_eq]
  generalize (lg_sl ([.ref ya, .int a1, .int a2, .int a3, .ref ou]) ++ List.replicate (6 - (lg_sl ([.ref ya, .int a1, .int a2, .int a3, .ref ou])).length) Slot.unset).toArray = ls at hl ⊢
  have hl : lv_has ls 6 [(0, .ref ya), (1, .int a1), (2, .int a2), (3, .int a3), (4, .ref ou)] := hl
  have htab : c.exceptionTable.toList = tableOf [(0, 19, 22, 21), (0, 19, 26, 13), (0, 19, 30, 63)] := vx_table (x := yL_decide) B (hts (.codeWith yL_decide cL_decide 6 (some .int) [(0, 19, 22, 21), (0, 19, 26, 13), (0, 19, 30, 63)]) (show _ ∈ wsL_decide from List.mem_cons_self))
  refine lv_aload hx hb dL_decide_0 (lv_at hl 4 rfl) ?_
  refine lv_iconst (v := 0) hx hb dL_decide_2 (by decide) ?_
  refine lv_aload_n hx hb dL_decide_3 rfl (lv_at hl 0 rfl) ?_
  refine lv_iload_n hx hb dL_decide_4 rfl (lv_at hl 1 rfl) ?_
  refine lv_iload_n hx hb dL_decide_5 rfl (lv_at hl 2 rfl) ?_
  refine lv_iload_n hx hb dL_decide_6 rfl (lv_at hl 3 rfl) ?_
  have hPc := hP.sub (ws' := [(ya, .inr (16, [.ref ms, .int 0, .ref ju, .ref li, .ref ct, .ref tg, .ref fw]))]) [0] rfl
  have hDc := hD.sub (ws' := [(ya, .inr (16, [.ref ms, .int 0, .ref ju, .ref li, .ref ct, .ref tg, .ref fw]))]) [0] (by decide) rfl
  have hKc := hK.sub (tys' := []) [] rfl
  have hFc := va_free (wc := [(ya, .inr (16, [.ref ms, .int 0, .ref ju, .ref li, .ref ct, .ref tg, .ref fw]))]) hD hS hA [0] rfl
  refine vx_callX (vx_runV (As := [.int a1, .int a2, .int a3]) (rest := [.int 0, .ref ou]) ⟨hx, hb, hml, hown, hts⟩ (c_X11_decide l hfl dC dI ya ms ju li ct tg fw a1 a2 a3 s.heap.size) (cwV 3 hts gL_decide_X11_decide rfl rfl rfl (by decide +kernel) ⟨Nat.le_of_ble_eq_true rfl, Nat.le_of_ble_eq_true rfl⟩) (pcVz (zX_ok) hPc hDc hKc hN hZ hS hFc (ci := 16) (q0 := 0) rfl rfl) rfl rfl hl.1 rfl (lv_room (Nat.le_of_ble_eq_true rfl)) dL_decide_7 ⟨Nat.le_of_ble_eq_true rfl, Nat.le_of_ble_eq_true rfl⟩) hS hFc (fun q _ h => hFc q h) (fun _ _ _ h => h) (fun E9 ce9 q9 u9 t9 H9 locs9 ht9 hvm9 hp9 hE9 hz9 hk9 hS9 hc9 hv9 hcl9 => ?_)
  subst hE9
  refine vx_catch (name := "java/lang/IndexOutOfBoundsException") hown [] ⟨0, 19, 22, 21⟩ [⟨0, 19, 26, 13⟩, ⟨0, 19, 30, 63⟩] htab (fun z hz => by cases hz) (by decide) (by decide) (hts (.classLink RL 21 "java/lang/IndexOutOfBoundsException") (by decide +kernel)) (zX_use hZ (.castable "java/lang/IndexOutOfBoundsException" "java/lang/IndexOutOfBoundsException") (by decide)) hc9 hv9 hcl9 ?_
  refine W.eq (g2 := F0 m 22 ls [.ref q9]) rfl ?_
  obtain ⟨hP, hD⟩ := va_join (wr := [(ou, .inl (cL, 1, .inr (.inl of9)))]) (w1 := []) hP hD [0] [1] rfl rfl (by decide) (by decide) hk9 hFc P_nil D_nil
  have hS := hS9
  generalize H9 = H at hP hS ⊢
  have hP : va_P (dC, dI) vwCl [(ou, .inl (cL, 1, .inr (.inl of9)))] H := hP
  have hD : va_D A [(ou, .inl (cL, 1, .inr (.inl of9)))] := hD
  refine W.widen (k := 1) (n := 6) (Nat.le_of_ble_eq_true rfl) (Nat.le_of_ble_eq_true rfl) ?_
  refine lv_astore (lv' := [(5, .ref q9), (0, .ref ya), (1, .int a1), (2, .int a2), (3, .int a3), (4, .ref ou)]) hx hb dL_decide_22 hl (by decide) rfl (fun ls hl => ?_)
  refine lv_iconst (v := 1) hx hb dL_decide_24 (by decide) ?_
  refine vx_ret ?_
  have hP9 := hP.sub (ws' := [(ou, .inl (cL, 1, .inr (.inl of9)))]) [0] rfl
  have hD9 := hD.sub (ws' := [(ou, .inl (cL, 1, .inr (.inl of9)))]) [0] (by decide) rfl
  have hK9 := hK.sub (tys' := [(cL, .long)]) [0] rfl
  exact W.iret (v := 1) hx hb hr (fun t ht hW => ⟨⟨1, of9, rfl, rfl, ⟨by rw [ht]; exact hP9, va_K.moved hW.alike hK9, hD9⟩⟩, hS.F ht⟩) hS.2.2 dL_decide_25
