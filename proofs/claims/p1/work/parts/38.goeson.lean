theorem dX15_goesOn_0 : decode cX15_goesOn 0 = .ok (.aload_n 0, 1) := by decide +kernel
theorem dX15_goesOn_1 : decode cX15_goesOn 1 = .ok (.aload_n 1, 1) := by decide +kernel
theorem dX15_goesOn_2 : decode cX15_goesOn 2 = .ok (.iload_n 2, 1) := by decide +kernel
set_option maxRecDepth 20000 in
theorem ggX15_goesOn_X15_carries : GoodIn wsX15_goesOn wsX15_carries := goodIn_ca (goodIn_r _ [6, 7, 8, 9, 10, 11, 12, 13, 14, 15, 16, 17, 18, 19, 20, 21, 22, 23, 24, 25, 26, 27, 28, 29, 30, 31, 32, 33, 34, 35, 36, 37, 38, 39, 40, 41, 42, 43, 44, 45, 46, 47, 48, 49, 50, 51, 52, 5, 53, 54, 55, 56, 57, 58, 59, 60, 61, 62, 63, 64, 65, 66, 67, 68, 69, 70, 71, 1, 112, 113, 114, 115, 116, 117, 118, 119, 120, 121, 122, 123, 124, 125, 126, 127, 128, 129, 130, 131, 132, 91, 92, 93, 94, 95, 96, 97, 98, 99, 100, 101, 102, 103, 104, 105, 106, 107, 108, 109, 110, 111] rfl (by decide +kernel)) (goodIn_sub (fun _ h => List.mem_cons_of_mem _ (List.mem_append_right _ h)) (by decide +kernel))
set_option maxRecDepth 20000 in
theorem gX15_goesOn_X15_carries : GoodIn wsX15_goesOn (wsV RX15 78 RX15 yX15_carries wsX15_carries) := goodIn_app (goodIn_of _ (by decide +kernel)) ggX15_goesOn_X15_carries
theorem dX15_goesOn_3 : decode cX15_goesOn 3 = .ok (.invokevirtual 78, 3) := by decide +kernel
theorem dX15_goesOn_6 : decode cX15_goesOn 6 = .ok (.ifCond .eq 5, 3) := by decide +kernel
theorem dX15_goesOn_11 : decode cX15_goesOn 11 = .ok (.aload_n 0, 1) := by decide +kernel
theorem dX15_goesOn_12 : decode cX15_goesOn 12 = .ok (.aload_n 1, 1) := by decide +kernel
theorem dX15_goesOn_13 : decode cX15_goesOn 13 = .ok (.iconst 1, 1) := by decide +kernel
set_option maxRecDepth 20000 in
theorem ggX15_goesOn_X13_copy : GoodIn wsX15_goesOn wsX13_copy := goodIn_ca (goodIn_r _ [75, 76, 77, 48, 78, 79, 50, 80, 81, 82, 83, 84, 85, 86, 87, 15, 16, 88, 89, 90, 10, 121, 122, 123, 124, 125, 126, 127, 128, 129, 130, 131, 132] rfl (by decide +kernel)) (goodIn_sub (fun _ h => List.mem_cons_of_mem _ (List.mem_append_right _ h)) (by decide +kernel))
set_option maxRecDepth 20000 in
theorem gX15_goesOn_X13_copy : GoodIn wsX15_goesOn (wsV RX15 82 RX13 yX13_copy wsX13_copy) := goodIn_app (goodIn_of _ (by decide +kernel)) ggX15_goesOn_X13_copy
theorem dX15_goesOn_14 : decode cX15_goesOn 14 = .ok (.invokevirtual 82, 3) := by decide +kernel
theorem dX15_goesOn_17 : decode cX15_goesOn 17 = .ok (.iload_n 2, 1) := by decide +kernel
theorem dX15_goesOn_18 : decode cX15_goesOn 18 = .ok (.invokevirtual 78, 3) := by decide +kernel
theorem dX15_goesOn_21 : decode cX15_goesOn 21 = .ok (.ifCond .eq 14, 3) := by decide +kernel
theorem dX15_goesOn_35 : decode cX15_goesOn 35 = .ok (.iconst 0, 1) := by decide +kernel
theorem dX15_goesOn_36 : decode cX15_goesOn 36 = .ok (.ireturn, 1) := by decide +kernel
theorem dX15_goesOn_24 : decode cX15_goesOn 24 = .ok (.aload_n 0, 1) := by decide +kernel
theorem dX15_goesOn_25 : decode cX15_goesOn 25 = .ok (.aload_n 0, 1) := by decide +kernel
theorem dX15_goesOn_26 : decode cX15_goesOn 26 = .ok (.getfield 7, 3) := by decide +kernel
theorem dX15_goesOn_29 : decode cX15_goesOn 29 = .ok (.ineg, 1) := by decide +kernel
theorem dX15_goesOn_30 : decode cX15_goesOn 30 = .ok (.putfield 7, 3) := by decide +kernel
theorem dX15_goesOn_33 : decode cX15_goesOn 33 = .ok (.iconst 1, 1) := by decide +kernel
theorem dX15_goesOn_34 : decode cX15_goesOn 34 = .ok (.ireturn, 1) := by decide +kernel
theorem dX15_goesOn_9 : decode cX15_goesOn 9 = .ok (.iconst 1, 1) := by decide +kernel
theorem dX15_goesOn_10 : decode cX15_goesOn 10 = .ok (.ireturn, 1) := by decide +kernel
-- ===== machines alike in what they tell run alike =====
def simM (n : Nat) (w mv nx w' mv' nx' : Nat → Int32) : Prop := ∀ q, q < n → w' q = w q ∧ (w q ≠ -1 → mv' q = mv q ∧ nx' q = nx q)
theorem stepR_sim {S G n : Nat} {w mv nx w' mv' nx' : Nat → Int32} (hM : okM S G n w mv nx) (hs : simM n w mv nx w' mv' nx') {x : RunT} (h : okR S G x) : stepR (nI G) w' mv' nx' x = stepR (nI G) w mv nx x := by
  obtain ⟨st, ce, lf, rt, sp, hh, ib, f⟩ := x
  obtain ⟨k, hk, ek⟩ := okR_ord hM h
  have hn := okM_n hM
  have hkc : (nI k).toNatClampNeg = k := nI_clamp (by omega)
  have h1 := hs k hk
  unfold stepR
  simp only [ek, hkc, hnoR, h1.1]
  by_cases e2 : w k = -1
  · by_cases e1 : hh = 0
    · simp [e1, e2]
    · simp [e1, e2]
  · rw [(h1.2 e2).1, (h1.2 e2).2]
theorem seqR_sim {S G n : Nat} {w mv nx w' mv' nx' : Nat → Int32} (hM : okM S G n w mv nx) (hs : simM n w mv nx w' mv' nx') (i : Nat) : seqR (nI G) w' mv' nx' i = seqR (nI G) w mv nx i := by
  induction i with
  | zero => rfl
  | succ i ih => simp only [seqR]; rw [ih, stepR_sim hM hs (seqR_ok hM i)]
theorem bitR_sim {S G n : Nat} {w mv nx w' mv' nx' : Nat → Int32} (hM : okM S G n w mv nx) (hs : simM n w mv nx w' mv' nx') (i : Nat) : bitR (nI G) w' mv' nx' i = bitR (nI G) w mv nx i := by
  unfold bitR; rw [seqR_sim hM hs, stepR_sim hM hs (seqR_ok hM i)]
theorem alvR_sim {S G n : Nat} {w mv nx w' mv' nx' : Nat → Int32} (hM : okM S G n w mv nx) (hs : simM n w mv nx w' mv' nx') (i : Nat) : alvR (nI G) w' mv' nx' i ↔ alvR (nI G) w mv nx i := by
  unfold alvR; simp only [bitR_sim hM hs]
theorem backP_sim {S G n : Nat} {w mv nx w' mv' nx' : Nat → Int32} (hM : okM S G n w mv nx) (hs : simM n w mv nx w' mv' nx') (k : Nat) : backP (nI G) w' mv' nx' k ↔ backP (nI G) w mv nx k := by
  unfold backP; simp only [alvR_sim hM hs, seqR_sim hM hs]
theorem recP_sim {S G n : Nat} {w mv nx w' mv' nx' : Nat → Int32} (hM : okM S G n w mv nx) (hs : simM n w mv nx w' mv' nx') (i : Nat) : recP (nI G) w' mv' nx' i ↔ recP (nI G) w mv nx i := by
  cases i with
  | zero => exact Iff.rfl
  | succ i => simp only [recP, seqR_sim hM hs]
theorem cellN_sim {S G n : Nat} {w mv nx w' mv' nx' : Nat → Int32} (hM : okM S G n w mv nx) (hs : simM n w mv nx w' mv' nx') (i : Nat) : cellN (nI G) w' mv' nx' i = cellN (nI G) w mv nx i := by
  unfold cellN; rw [seqR_sim hM hs]
theorem tapeN_sim {S G n : Nat} {w mv nx w' mv' nx' : Nat → Int32} (hM : okM S G n w mv nx) (hs : simM n w mv nx w' mv' nx') (i : Nat) : tapeN (nI G) w' mv' nx' i = tapeN (nI G) w mv nx i := by
  unfold tapeN; rw [seqR_sim hM hs]
theorem leastN_sim {S G n : Nat} {w mv nx w' mv' nx' : Nat → Int32} (hM : okM S G n w mv nx) (hs : simM n w mv nx w' mv' nx') (a d : Nat) : leastN (nI G) w' mv' nx' a d = leastN (nI G) w mv nx a d := by
  induction d with
  | zero => exact cellN_sim hM hs a
  | succ d ih => simp only [leastN, ih, cellN_sim hM hs]
theorem farP_sim {S G n : Nat} {w mv nx w' mv' nx' : Nat → Int32} (hM : okM S G n w mv nx) (hs : simM n w mv nx w' mv' nx') (k : Nat) : farP (nI G) w' mv' nx' k ↔ farP (nI G) w mv nx k := by
  unfold farP carP; simp only [alvR_sim hM hs, seqR_sim hM hs, recP_sim hM hs, cellN_sim hM hs, tapeN_sim hM hs, leastN_sim hM hs]
/-- left and right exchanged -/
def mirM (mv : Nat → Int32) : Nat → Int32 := fun q => -(mv q)
theorem okM_mir {S G n : Nat} {w mv nx : Nat → Int32} (hM : okM S G n w mv nx) : okM S G n w (mirM mv) nx := by
  obtain ⟨h1, h2, h3, h4, h5, h6⟩ := hM
  refine ⟨h1, h2, h3, h4, h5, fun k hk => (h6 k hk).imp id fun ⟨a, b, c⟩ => ⟨a, ?_, c⟩⟩
  rcases b with e | e
  · right; show -(mv k) = -1; rw [e]
  · left; show -(mv k) = 1; rw [e]; decide
theorem okM_sim {S G n : Nat} {w mv nx w' mv' nx' : Nat → Int32} (hM : okM S G n w mv nx) (hs : simM n w mv nx w' mv' nx') : okM S G n w' mv' nx' := by
  obtain ⟨h1, h2, h3, h4, h5, h6⟩ := hM
  refine ⟨h1, h2, h3, h4, h5, fun k hk => ?_⟩
  by_cases e : w k = -1
  · left; rw [(hs k hk).1, e]
  · right
    rw [(hs k hk).1, ((hs k hk).2 e).1, ((hs k hk).2 e).2]
    exact (h6 k hk).resolve_left e
/-- a copy, mirrored or not, is alike -/
theorem sim_copy {n : Nat} {w mv nx w' mv' nx' : Nat → Int32} {bm : Int32} (h : (∀ q, w' q = if q < n then w q else 0) ∧ (∀ q, mv' q = if q < n then (if bm = 0 then mv q else -(mv q)) else 0) ∧ (∀ q, nx' q = if q < n then nx q else 0)) : simM n w (if bm = 0 then mv else mirM mv) nx w' mv' nx' := by
  intro q hq
  rw [h.1 q, h.2.1 q, h.2.2 q, if_pos hq, if_pos hq, if_pos hq]
  refine ⟨rfl, fun _ => ⟨?_, rfl⟩⟩
  split <;> rfl
def goP (gg : Int32) (w mv nx : Nat → Int32) (k : Nat) : Prop := farP gg w mv nx k ∨ farP gg w (mirM mv) nx k
theorem goP_sim {S G n : Nat} {w mv nx w' mv' nx' : Nat → Int32} (hM : okM S G n w mv nx) (hs : simM n w mv nx w' mv' nx') (k : Nat) : goP (nI G) w' mv' nx' k ↔ goP (nI G) w mv nx k := by
  unfold goP
  rw [farP_sim hM hs, farP_sim (okM_mir hM) (w' := w') (mv' := mirM mv') (nx' := nx') (fun q hq => ⟨(hs q hq).1, fun e => ⟨by show -(mv' q) = -(mv q); rw [((hs q hq).2 e).1], ((hs q hq).2 e).2⟩⟩)]
set_option maxHeartbeats 4000000 in
set_option maxRecDepth 100000 in
/-- X15_goesOn -/
theorem c_X15_goesOn (l : Launch) (dC : Nat → ClassId) (dI : Nat → Nat → Nat) (cI : ClassId) (xm : Nat) (fA fB lH lN lO lS lM : Int32) (v2 v3 v4 v5 v6 v7 v8 v9 v10 v11 v12 v13 v14 v20 : Value) (ma wa va na tz n S G : Nat) (my de aa bb : Int32) (w mv nx : Nat → Int32) (hM : okM S G n w mv nx) (k : Nat) (hk : k ≤ 500) (sz : Nat) : Met l yX15_goesOn wsX15_goesOn ({ frames := 10, cells := 21, slots := 8152, locals := 250 }) (va_Pc [.ref xm, .ref ma, .int (nI k)] (cPC dC dI [(xm, .inr (20, [.int fA, .int fB, v2, v3, v4, v5, v6, v7, v8, v9, v10, v11, v12, v13, v14, .int lH, .int lN, .int lO, .int lS, .int lM, v20])), (ma, .inr (18, [.int 0, .int (nI S), .int (nI G), .ref wa, .ref va, .ref na, .int my, .null, .int de, .int aa, .int bb, .ref tz])), (wa, .inl (cI, n, .inl w)), (va, .inl (cI, n, .inl mv)), (na, .inl (cI, n, .inl nx))] [(cI, .int)] sz)) (va_Qi (fun (r : Int32) (u : Int32 × Int32) => (r = 1 ∧ goP (nI G) w mv nx k) ∨ (r = 0 ∧ ¬ goP (nI G) w mv nx k)) (fun (u : Int32 × Int32) t => cQB dC dI [(xm, .inr (20, [.int u.1, .int u.2, v2, v3, v4, v5, v6, v7, v8, v9, v10, v11, v12, v13, v14, .int lH, .int lN, .int lO, .int lS, .int lM, v20])), (ma, .inr (18, [.int 0, .int (nI S), .int (nI G), .ref wa, .ref va, .ref na, .int my, .null, .int de, .int aa, .int bb, .ref tz])), (wa, .inl (cI, n, .inl w)), (va, .inl (cI, n, .inl mv)), (na, .inl (cI, n, .inl nx))] [(cI, .int)] (va_A [(xm, .inr (20, [.int fA, .int fB, v2, v3, v4, v5, v6, v7, v8, v9, v10, v11, v12, v13, v14, .int lH, .int lN, .int lO, .int lS, .int lM, v20])), (ma, .inr (18, [.int 0, .int (nI S), .int (nI G), .ref wa, .ref va, .ref na, .int my, .null, .int de, .int aa, .int bb, .ref tz])), (wa, .inl (cI, n, .inl w)), (va, .inl (cI, n, .inl mv)), (na, .inl (cI, n, .inl nx))] sz) t) (va_A [(xm, .inr (20, [.int fA, .int fB, v2, v3, v4, v5, v6, v7, v8, v9, v10, v11, v12, v13, v14, .int lH, .int lN, .int lO, .int lS, .int lM, v20])), (ma, .inr (18, [.int 0, .int (nI S), .int (nI G), .ref wa, .ref va, .ref na, .int my, .null, .int de, .int aa, .int bb, .ref tz])), (wa, .inl (cI, n, .inl w)), (va, .inl (cI, n, .inl mv)), (na, .inl (cI, n, .inl nx))] sz)) 21 8152 (va_A [(xm, .inr (20, [.int fA, .int fB, v2, v3, v4, v5, v6, v7, v8, v9, v10, v11, v12, v13, v14, .int lH, .int lN, .int lO, .int lS, .int lM, v20])), (ma, .inr (18, [.int 0, .int (nI S), .int (nI G), .ref wa, .ref va, .ref na, .int my, .null, .int de, .int aa, .int bb, .ref tz])), (wa, .inl (cI, n, .inl w)), (va, .inl (cI, n, .inl mv)), (na, .inl (cI, n, .inl nx))] sz) := by
  refine Met.ofW (cc := cX15_goesOn) (maxL := 3) (ret := (some .boolean)) (by decide) rfl ?_
  intro p e s m args below meth c s₁ B hml hv
  obtain ⟨rfl, hsz, hP, hK, hD0, hN⟩ := hv
  have hx := B.exec
  have hb := B.bytes
  have hr := B.returns
  have hts := atoms_spec (ws := wsX15_goesOn) B.pre
  have hown : s.vm.findClass RX15 = some m.cls := findClass_of_methodNamed B.named
  have hlocks := B.notSynchronized
  subst hsz
  have hD := hD0.self (sz := s.heap.size)
  generalize hAe : va_A [(xm, .inr (20, [.int fA, .int fB, v2, v3, v4, v5, v6, v7, v8, v9, v10, v11, v12, v13, v14, .int lH, .int lN, .int lO, .int lS, .int lM, v20])), (ma, .inr (18, [.int 0, .int (nI S), .int (nI G), .ref wa, .ref va, .ref na, .int my, .null, .int de, .int aa, .int bb, .ref tz])), (wa, .inl (cI, n, .inl w)), (va, .inl (cI, n, .inl mv)), (na, .inl (cI, n, .inl nx))] s.heap.size = A at hD ⊢
  have hA : ∀ q : Nat, s.heap.size ≤ q → A q := fun q h => by rw [← hAe]; exact Or.inr h
  have hS : va_S A s.heap s.heap [] := va_S.rf
  have hP : va_P (dC, dI) vwCl [(xm, .inr (20, [.int fA, .int fB, v2, v3, v4, v5, v6, v7, v8, v9, v10, v11, v12, v13, v14, .int lH, .int lN, .int lO, .int lS, .int lM, v20])), (ma, .inr (18, [.int 0, .int (nI S), .int (nI G), .ref wa, .ref va, .ref na, .int my, .null, .int de, .int aa, .int bb, .ref tz])), (wa, .inl (cI, n, .inl w)), (va, .inl (cI, n, .inl mv)), (na, .inl (cI, n, .inl nx))] s.heap := hP
  have hD : va_D A [(xm, .inr (20, [.int fA, .int fB, v2, v3, v4, v5, v6, v7, v8, v9, v10, v11, v12, v13, v14, .int lH, .int lN, .int lO, .int lS, .int lM, v20])), (ma, .inr (18, [.int 0, .int (nI S), .int (nI G), .ref wa, .ref va, .ref na, .int my, .null, .int de, .int aa, .int bb, .ref tz])), (wa, .inl (cI, n, .inl w)), (va, .inl (cI, n, .inl mv)), (na, .inl (cI, n, .inl nx))] := hD
  have hl := lv_entry ([.ref xm, .ref ma, .int (nI k)]) (n := 3) (Nat.le_of_ble_eq_true rfl)
  rw [lg_entry_eq]
  generalize (lg_sl ([.ref xm, .ref ma, .int (nI k)]) ++ List.replicate (3 - (lg_sl ([.ref xm, .ref ma, .int (nI k)])).length) Slot.unset).toArray = ls at hl ⊢
  have hl : lv_has ls 3 [(0, .ref xm), (1, .ref ma), (2, .int (nI k))] := hl
  have iWX15 : ∀ w ∈ u_ws RX15 TX15 21, w ∈ wsX15_goesOn := by decide +kernel
  refine lv_aload_n hx hb dX15_goesOn_0 rfl (lv_at hl 0 rfl) ?_
  refine lv_aload_n hx hb dX15_goesOn_1 rfl (lv_at hl 1 rfl) ?_
  refine lv_iload_n hx hb dX15_goesOn_2 rfl (lv_at hl 2 rfl) ?_
  have hPc := hP.sub (ws' := [(xm, .inr (20, [.int fA, .int fB, v2, v3, v4, v5, v6, v7, v8, v9, v10, v11, v12, v13, v14, .int lH, .int lN, .int lO, .int lS, .int lM, v20])), (ma, .inr (18, [.int 0, .int (nI S), .int (nI G), .ref wa, .ref va, .ref na, .int my, .null, .int de, .int aa, .int bb, .ref tz])), (wa, .inl (cI, n, .inl w)), (va, .inl (cI, n, .inl mv)), (na, .inl (cI, n, .inl nx))]) [0, 1, 2, 3, 4] rfl
  have hDc := hD.sub (ws' := [(xm, .inr (20, [.int fA, .int fB, v2, v3, v4, v5, v6, v7, v8, v9, v10, v11, v12, v13, v14, .int lH, .int lN, .int lO, .int lS, .int lM, v20])), (ma, .inr (18, [.int 0, .int (nI S), .int (nI G), .ref wa, .ref va, .ref na, .int my, .null, .int de, .int aa, .int bb, .ref tz])), (wa, .inl (cI, n, .inl w)), (va, .inl (cI, n, .inl mv)), (na, .inl (cI, n, .inl nx))]) [0, 1, 2, 3, 4] (by decide) rfl
  have hKc := hK.sub (tys' := [(cI, .int)]) [0] rfl
  have hFc := va_free (wc := [(xm, .inr (20, [.int fA, .int fB, v2, v3, v4, v5, v6, v7, v8, v9, v10, v11, v12, v13, v14, .int lH, .int lN, .int lO, .int lS, .int lM, v20])), (ma, .inr (18, [.int 0, .int (nI S), .int (nI G), .ref wa, .ref va, .ref na, .int my, .null, .int de, .int aa, .int bb, .ref tz])), (wa, .inl (cI, n, .inl w)), (va, .inl (cI, n, .inl mv)), (na, .inl (cI, n, .inl nx))]) hD hS hA [0, 1, 2, 3, 4] rfl
  refine va_calli (va_runV (As := [.ref ma, .int (nI k)]) (rest := []) ⟨hx, hb, hml, hown, hts⟩ (c_X15_carries l dC dI cI xm fA fB lH lN lO lS lM v2 v3 v4 v5 v6 v7 v8 v9 v10 v11 v12 v13 v14 v20 ma wa va na tz n S G my de aa bb w mv nx hM k hk s.heap.size) (cwV 2 hts gX15_goesOn_X15_carries rfl rfl rfl (by decide +kernel) ⟨Nat.le_of_ble_eq_true rfl, Nat.le_of_ble_eq_true rfl⟩) (pcV hPc hDc hKc hN (ci := 20) (q0 := 0) rfl rfl) rfl rfl hl.1 rfl (lv_room (Nat.le_of_ble_eq_true rfl)) dX15_goesOn_3 ⟨Nat.le_of_ble_eq_true rfl, Nat.le_of_ble_eq_true rfl⟩) hS (fun q _ h => hFc q h) hFc (fun r_3 u t H1 locs ht hvm hw_4 hB hz1 hk1 hS => ?_)
  obtain ⟨fA_1, fB_2⟩ := u
  obtain ⟨hP1, hK1, hD1⟩ := hB
  rw [ht] at hP1
  try dsimp only at hw_4
  obtain ⟨hP, hD⟩ := va_join (wr := []) (w1 := [(xm, .inr (20, [.int fA_1, .int fB_2, v2, v3, v4, v5, v6, v7, v8, v9, v10, v11, v12, v13, v14, .int lH, .int lN, .int lO, .int lS, .int lM, v20])), (ma, .inr (18, [.int 0, .int (nI S), .int (nI G), .ref wa, .ref va, .ref na, .int my, .null, .int de, .int aa, .int bb, .ref tz])), (wa, .inl (cI, n, .inl w)), (va, .inl (cI, n, .inl mv)), (na, .inl (cI, n, .inl nx))]) hP hD [0, 1, 2, 3, 4] [] rfl rfl (by decide) (by decide) hk1 hFc hP1 hD1
  generalize H1 = H at hP hS ⊢
  have hP : va_P (dC, dI) vwCl [(xm, .inr (20, [.int fA_1, .int fB_2, v2, v3, v4, v5, v6, v7, v8, v9, v10, v11, v12, v13, v14, .int lH, .int lN, .int lO, .int lS, .int lM, v20])), (ma, .inr (18, [.int 0, .int (nI S), .int (nI G), .ref wa, .ref va, .ref na, .int my, .null, .int de, .int aa, .int bb, .ref tz])), (wa, .inl (cI, n, .inl w)), (va, .inl (cI, n, .inl mv)), (na, .inl (cI, n, .inl nx))] H := hP
  have hD : va_D A [(xm, .inr (20, [.int fA_1, .int fB_2, v2, v3, v4, v5, v6, v7, v8, v9, v10, v11, v12, v13, v14, .int lH, .int lN, .int lO, .int lS, .int lM, v20])), (ma, .inr (18, [.int 0, .int (nI S), .int (nI G), .ref wa, .ref va, .ref na, .int my, .null, .int de, .int aa, .int bb, .ref tz])), (wa, .inl (cI, n, .inl w)), (va, .inl (cI, n, .inl mv)), (na, .inl (cI, n, .inl nx))] := hD
  refine W.widen (k := 8) (n := 4032) (Nat.le_of_ble_eq_true rfl) (Nat.le_of_ble_eq_true rfl) ?_
  refine lv_if_eq (tgt := 11) hx hb dX15_goesOn_6 (by decide) (fun c6_5 => ?_) (fun c6_5 => ?_)
  · refine lv_aload_n hx hb dX15_goesOn_11 rfl (lv_at hl 0 rfl) ?_
    refine lv_aload_n hx hb dX15_goesOn_12 rfl (lv_at hl 1 rfl) ?_
    refine lv_iconst (v := 1) hx hb dX15_goesOn_13 (by decide) ?_
    have hPc := hP.sub (ws' := [(ma, .inr (18, [.int 0, .int (nI S), .int (nI G), .ref wa, .ref va, .ref na, .int my, .null, .int de, .int aa, .int bb, .ref tz])), (wa, .inl (cI, n, .inl w)), (va, .inl (cI, n, .inl mv)), (na, .inl (cI, n, .inl nx))]) [1, 2, 3, 4] rfl
    have hDc := hD.sub (ws' := [(ma, .inr (18, [.int 0, .int (nI S), .int (nI G), .ref wa, .ref va, .ref na, .int my, .null, .int de, .int aa, .int bb, .ref tz])), (wa, .inl (cI, n, .inl w)), (va, .inl (cI, n, .inl mv)), (na, .inl (cI, n, .inl nx))]) [1, 2, 3, 4] (by decide) rfl
    have hKc := hK.sub (tys' := [(cI, .int)]) [0] rfl
    have hFc := va_free (wc := [(ma, .inr (18, [.int 0, .int (nI S), .int (nI G), .ref wa, .ref va, .ref na, .int my, .null, .int de, .int aa, .int bb, .ref tz])), (wa, .inl (cI, n, .inl w)), (va, .inl (cI, n, .inl mv)), (na, .inl (cI, n, .inl nx))]) hD hS hA [1, 2, 3, 4] rfl
    refine va_callr (va_runV (As := [.int 1]) (rest := [.ref xm]) ⟨hx, hb, hml, hown, hts⟩ (c_X13_copy l dC dI cI ma wa va na tz n S G my de aa bb w mv nx hM 1 H.size) (cwV 1 hts gX15_goesOn_X13_copy rfl rfl rfl (by decide +kernel) ⟨Nat.le_of_ble_eq_true rfl, Nat.le_of_ble_eq_true rfl⟩) (pcV hPc hDc hKc hN (ci := 18) (q0 := 0) rfl rfl) rfl rfl hl.1 rfl (lv_room (Nat.le_of_ble_eq_true rfl)) dX15_goesOn_14 ⟨Nat.le_of_ble_eq_true rfl, Nat.le_of_ble_eq_true rfl⟩) hS (fun q _ h => hFc q h) hFc (fun u r_13 t H1 locs ht hvm hw_14 hB hz1 hk1 hS => ?_)
    obtain ⟨⟨wa_6, va_7, na_8, tz_9⟩, w_10, mv_11, nx_12⟩ := u
    obtain ⟨hP1, hK1, hD1⟩ := hB
    rw [ht] at hP1
    try dsimp only at hw_14
    obtain ⟨hP, hD⟩ := va_join (wr := [(xm, .inr (20, [.int fA_1, .int fB_2, v2, v3, v4, v5, v6, v7, v8, v9, v10, v11, v12, v13, v14, .int lH, .int lN, .int lO, .int lS, .int lM, v20]))]) (w1 := [(ma, .inr (18, [.int 0, .int (nI S), .int (nI G), .ref wa, .ref va, .ref na, .int my, .null, .int de, .int aa, .int bb, .ref tz])), (wa, .inl (cI, n, .inl w)), (va, .inl (cI, n, .inl mv)), (na, .inl (cI, n, .inl nx)), (r_13, .inr (18, [.int 0, .int (nI S), .int (nI G), .ref wa_6, .ref va_7, .ref na_8, .int my, .null, .int 63, .int 0, .int 0, .ref tz_9])), (wa_6, .inl (cI, (S * G), .inl w_10)), (va_7, .inl (cI, (S * G), .inl mv_11)), (na_8, .inl (cI, (S * G), .inl nx_12))]) hP hD [1, 2, 3, 4] [0] rfl rfl (by decide) (by decide) hk1 hFc hP1 hD1
    generalize H1 = H at hP hS ⊢
    have hP : va_P (dC, dI) vwCl [(xm, .inr (20, [.int fA_1, .int fB_2, v2, v3, v4, v5, v6, v7, v8, v9, v10, v11, v12, v13, v14, .int lH, .int lN, .int lO, .int lS, .int lM, v20])), (ma, .inr (18, [.int 0, .int (nI S), .int (nI G), .ref wa, .ref va, .ref na, .int my, .null, .int de, .int aa, .int bb, .ref tz])), (wa, .inl (cI, n, .inl w)), (va, .inl (cI, n, .inl mv)), (na, .inl (cI, n, .inl nx)), (r_13, .inr (18, [.int 0, .int (nI S), .int (nI G), .ref wa_6, .ref va_7, .ref na_8, .int my, .null, .int 63, .int 0, .int 0, .ref tz_9])), (wa_6, .inl (cI, (S * G), .inl w_10)), (va_7, .inl (cI, (S * G), .inl mv_11)), (na_8, .inl (cI, (S * G), .inl nx_12))] H := hP
    have hD : va_D A [(xm, .inr (20, [.int fA_1, .int fB_2, v2, v3, v4, v5, v6, v7, v8, v9, v10, v11, v12, v13, v14, .int lH, .int lN, .int lO, .int lS, .int lM, v20])), (ma, .inr (18, [.int 0, .int (nI S), .int (nI G), .ref wa, .ref va, .ref na, .int my, .null, .int de, .int aa, .int bb, .ref tz])), (wa, .inl (cI, n, .inl w)), (va, .inl (cI, n, .inl mv)), (na, .inl (cI, n, .inl nx)), (r_13, .inr (18, [.int 0, .int (nI S), .int (nI G), .ref wa_6, .ref va_7, .ref na_8, .int my, .null, .int 63, .int 0, .int 0, .ref tz_9])), (wa_6, .inl (cI, (S * G), .inl w_10)), (va_7, .inl (cI, (S * G), .inl mv_11)), (na_8, .inl (cI, (S * G), .inl nx_12))] := hD
    refine W.widen (k := 13) (n := 4120) (Nat.le_of_ble_eq_true rfl) (Nat.le_of_ble_eq_true rfl) ?_
    have hsim := sim_copy (bm := 1) hw_14
    rw [if_neg (by decide)] at hsim
    have hMc0 := okM_sim (okM_mir hM) hsim
    have hMc : okM S G (S * G) w_10 mv_11 nx_12 := by rw [← hM.1]; exact hMc0
    refine lv_iload_n hx hb dX15_goesOn_17 rfl (lv_at hl 2 rfl) ?_
    have hPc := hP.sub (ws' := [(xm, .inr (20, [.int fA_1, .int fB_2, v2, v3, v4, v5, v6, v7, v8, v9, v10, v11, v12, v13, v14, .int lH, .int lN, .int lO, .int lS, .int lM, v20])), (r_13, .inr (18, [.int 0, .int (nI S), .int (nI G), .ref wa_6, .ref va_7, .ref na_8, .int my, .null, .int 63, .int 0, .int 0, .ref tz_9])), (wa_6, .inl (cI, (S * G), .inl w_10)), (va_7, .inl (cI, (S * G), .inl mv_11)), (na_8, .inl (cI, (S * G), .inl nx_12))]) [0, 5, 6, 7, 8] rfl
    have hDc := hD.sub (ws' := [(xm, .inr (20, [.int fA_1, .int fB_2, v2, v3, v4, v5, v6, v7, v8, v9, v10, v11, v12, v13, v14, .int lH, .int lN, .int lO, .int lS, .int lM, v20])), (r_13, .inr (18, [.int 0, .int (nI S), .int (nI G), .ref wa_6, .ref va_7, .ref na_8, .int my, .null, .int 63, .int 0, .int 0, .ref tz_9])), (wa_6, .inl (cI, (S * G), .inl w_10)), (va_7, .inl (cI, (S * G), .inl mv_11)), (na_8, .inl (cI, (S * G), .inl nx_12))]) [0, 5, 6, 7, 8] (by decide) rfl
    have hKc := hK.sub (tys' := [(cI, .int)]) [0] rfl
    have hFc := va_free (wc := [(xm, .inr (20, [.int fA_1, .int fB_2, v2, v3, v4, v5, v6, v7, v8, v9, v10, v11, v12, v13, v14, .int lH, .int lN, .int lO, .int lS, .int lM, v20])), (r_13, .inr (18, [.int 0, .int (nI S), .int (nI G), .ref wa_6, .ref va_7, .ref na_8, .int my, .null, .int 63, .int 0, .int 0, .ref tz_9])), (wa_6, .inl (cI, (S * G), .inl w_10)), (va_7, .inl (cI, (S * G), .inl mv_11)), (na_8, .inl (cI, (S * G), .inl nx_12))]) hD hS hA [0, 5, 6, 7, 8] rfl
    refine va_calli (va_runV (As := [.ref r_13, .int (nI k)]) (rest := []) ⟨hx, hb, hml, hown, hts⟩ (c_X15_carries l dC dI cI xm fA_1 fB_2 lH lN lO lS lM v2 v3 v4 v5 v6 v7 v8 v9 v10 v11 v12 v13 v14 v20 r_13 wa_6 va_7 na_8 tz_9 (S * G) S G my 63 0 0 w_10 mv_11 nx_12 hMc k hk H.size) (cwV 2 hts gX15_goesOn_X15_carries rfl rfl rfl (by decide +kernel) ⟨Nat.le_of_ble_eq_true rfl, Nat.le_of_ble_eq_true rfl⟩) (pcV hPc hDc hKc hN (ci := 20) (q0 := 0) rfl rfl) rfl rfl hl.1 rfl (lv_room (Nat.le_of_ble_eq_true rfl)) dX15_goesOn_18 ⟨Nat.le_of_ble_eq_true rfl, Nat.le_of_ble_eq_true rfl⟩) hS (fun q _ h => hFc q h) hFc (fun r_17 u t H1 locs ht hvm hw_18 hB hz1 hk1 hS => ?_)
    obtain ⟨fA_15, fB_16⟩ := u
    obtain ⟨hP1, hK1, hD1⟩ := hB
    rw [ht] at hP1
    try dsimp only at hw_18
    obtain ⟨hP, hD⟩ := va_join (wr := [(ma, .inr (18, [.int 0, .int (nI S), .int (nI G), .ref wa, .ref va, .ref na, .int my, .null, .int de, .int aa, .int bb, .ref tz])), (wa, .inl (cI, n, .inl w)), (va, .inl (cI, n, .inl mv)), (na, .inl (cI, n, .inl nx))]) (w1 := [(xm, .inr (20, [.int fA_15, .int fB_16, v2, v3, v4, v5, v6, v7, v8, v9, v10, v11, v12, v13, v14, .int lH, .int lN, .int lO, .int lS, .int lM, v20])), (r_13, .inr (18, [.int 0, .int (nI S), .int (nI G), .ref wa_6, .ref va_7, .ref na_8, .int my, .null, .int 63, .int 0, .int 0, .ref tz_9])), (wa_6, .inl (cI, (S * G), .inl w_10)), (va_7, .inl (cI, (S * G), .inl mv_11)), (na_8, .inl (cI, (S * G), .inl nx_12))]) hP hD [0, 5, 6, 7, 8] [1, 2, 3, 4] rfl rfl (by decide) (by decide) hk1 hFc hP1 hD1
    generalize H1 = H at hP hS ⊢
    have hP : va_P (dC, dI) vwCl [(ma, .inr (18, [.int 0, .int (nI S), .int (nI G), .ref wa, .ref va, .ref na, .int my, .null, .int de, .int aa, .int bb, .ref tz])), (wa, .inl (cI, n, .inl w)), (va, .inl (cI, n, .inl mv)), (na, .inl (cI, n, .inl nx)), (xm, .inr (20, [.int fA_15, .int fB_16, v2, v3, v4, v5, v6, v7, v8, v9, v10, v11, v12, v13, v14, .int lH, .int lN, .int lO, .int lS, .int lM, v20])), (r_13, .inr (18, [.int 0, .int (nI S), .int (nI G), .ref wa_6, .ref va_7, .ref na_8, .int my, .null, .int 63, .int 0, .int 0, .ref tz_9])), (wa_6, .inl (cI, (S * G), .inl w_10)), (va_7, .inl (cI, (S * G), .inl mv_11)), (na_8, .inl (cI, (S * G), .inl nx_12))] H := hP
    have hD : va_D A [(ma, .inr (18, [.int 0, .int (nI S), .int (nI G), .ref wa, .ref va, .ref na, .int my, .null, .int de, .int aa, .int bb, .ref tz])), (wa, .inl (cI, n, .inl w)), (va, .inl (cI, n, .inl mv)), (na, .inl (cI, n, .inl nx)), (xm, .inr (20, [.int fA_15, .int fB_16, v2, v3, v4, v5, v6, v7, v8, v9, v10, v11, v12, v13, v14, .int lH, .int lN, .int lO, .int lS, .int lM, v20])), (r_13, .inr (18, [.int 0, .int (nI S), .int (nI G), .ref wa_6, .ref va_7, .ref na_8, .int my, .null, .int 63, .int 0, .int 0, .ref tz_9])), (wa_6, .inl (cI, (S * G), .inl w_10)), (va_7, .inl (cI, (S * G), .inl mv_11)), (na_8, .inl (cI, (S * G), .inl nx_12))] := hD
    refine W.widen (k := 21) (n := 8152) (Nat.le_of_ble_eq_true rfl) (Nat.le_of_ble_eq_true rfl) ?_
    refine lv_if_eq (tgt := 35) hx hb dX15_goesOn_21 (by decide) (fun c21_19 => ?_) (fun c21_19 => ?_)
    · refine lv_iconst (v := 0) hx hb dX15_goesOn_35 (by decide) ?_
      have hP9 := hP.sub (ws' := [(xm, .inr (20, [.int fA_15, .int fB_16, v2, v3, v4, v5, v6, v7, v8, v9, v10, v11, v12, v13, v14, .int lH, .int lN, .int lO, .int lS, .int lM, v20])), (ma, .inr (18, [.int 0, .int (nI S), .int (nI G), .ref wa, .ref va, .ref na, .int my, .null, .int de, .int aa, .int bb, .ref tz])), (wa, .inl (cI, n, .inl w)), (va, .inl (cI, n, .inl mv)), (na, .inl (cI, n, .inl nx))]) [4, 0, 1, 2, 3] rfl
      have hD9 := hD.sub (ws' := [(xm, .inr (20, [.int fA_15, .int fB_16, v2, v3, v4, v5, v6, v7, v8, v9, v10, v11, v12, v13, v14, .int lH, .int lN, .int lO, .int lS, .int lM, v20])), (ma, .inr (18, [.int 0, .int (nI S), .int (nI G), .ref wa, .ref va, .ref na, .int my, .null, .int de, .int aa, .int bb, .ref tz])), (wa, .inl (cI, n, .inl w)), (va, .inl (cI, n, .inl mv)), (na, .inl (cI, n, .inl nx))]) [4, 0, 1, 2, 3] (by decide) rfl
      have hK9 := hK.sub (tys' := [(cI, .int)]) [0] rfl
      exact W.zret (v := 0) hx hb hr (by rfl) (fun t ht hW => ⟨⟨0, (fA_15, fB_16), rfl, (Or.inr ⟨rfl, fun h => h.elim (hw_4.elim (fun h => absurd (h.1.symm.trans c6_5) (by decide)) (fun h => h.2)) (fun h2 => (hw_18.elim (fun h => absurd (h.1.symm.trans c21_19) (by decide)) (fun h => h.2)) ((farP_sim (okM_mir hM) hsim k).mpr h2))⟩), ⟨by rw [ht]; exact hP9, va_K.moved hW.alike hK9, hD9⟩⟩, hS.F ht⟩) hS.2.2 dX15_goesOn_36
    · refine lv_aload_n hx hb dX15_goesOn_24 rfl (lv_at hl 0 rfl) ?_
      refine lv_aload_n hx hb dX15_goesOn_25 rfl (lv_at hl 0 rfl) ?_
      refine va_get (D := (dC, dI)) (ci := 20) (v := .int fB_16) (C := RX15) (T := TX15) (N := 21) hx hb hts iWX15 hown hK hP 4 rfl rfl 1 (by decide) (hts (.fieldLink RX15 7 "BeaverhallModel" "foundB" "I") (by decide +kernel)) (fun _ h9 => h9) rfl dX15_goesOn_26 ?_
      refine lv_ineg hx hb dX15_goesOn_29 ?_
      refine lv_topi (fun x_20 ex_20 => ?_)
      refine va_put (D := (dC, dI)) (ci := 20) (v := .int x_20) (ty := .int) (C := RX15) (T := TX15) (N := 21) hx hb hts iWX15 tyX15 tyX15_ok nmX15 hown hK hP hD hS 4 rfl rfl 1 (by decide) (hts (.fieldLink RX15 7 "BeaverhallModel" "foundB" "I") (by decide +kernel)) (fun _ h9 => h9) rfl (by decide +kernel) rfl rfl (Nat.le_of_ble_eq_true rfl) dX15_goesOn_30 (fun H locs hP hD hS => ?_)
      have hP : va_P (dC, dI) vwCl [(ma, .inr (18, [.int 0, .int (nI S), .int (nI G), .ref wa, .ref va, .ref na, .int my, .null, .int de, .int aa, .int bb, .ref tz])), (wa, .inl (cI, n, .inl w)), (va, .inl (cI, n, .inl mv)), (na, .inl (cI, n, .inl nx)), (xm, .inr (20, [.int fA_15, .int x_20, v2, v3, v4, v5, v6, v7, v8, v9, v10, v11, v12, v13, v14, .int lH, .int lN, .int lO, .int lS, .int lM, v20])), (r_13, .inr (18, [.int 0, .int (nI S), .int (nI G), .ref wa_6, .ref va_7, .ref na_8, .int my, .null, .int 63, .int 0, .int 0, .ref tz_9])), (wa_6, .inl (cI, (S * G), .inl w_10)), (va_7, .inl (cI, (S * G), .inl mv_11)), (na_8, .inl (cI, (S * G), .inl nx_12))] H := hP
      have hD : va_D A [(ma, .inr (18, [.int 0, .int (nI S), .int (nI G), .ref wa, .ref va, .ref na, .int my, .null, .int de, .int aa, .int bb, .ref tz])), (wa, .inl (cI, n, .inl w)), (va, .inl (cI, n, .inl mv)), (na, .inl (cI, n, .inl nx)), (xm, .inr (20, [.int fA_15, .int x_20, v2, v3, v4, v5, v6, v7, v8, v9, v10, v11, v12, v13, v14, .int lH, .int lN, .int lO, .int lS, .int lM, v20])), (r_13, .inr (18, [.int 0, .int (nI S), .int (nI G), .ref wa_6, .ref va_7, .ref na_8, .int my, .null, .int 63, .int 0, .int 0, .ref tz_9])), (wa_6, .inl (cI, (S * G), .inl w_10)), (va_7, .inl (cI, (S * G), .inl mv_11)), (na_8, .inl (cI, (S * G), .inl nx_12))] := hD
      refine lv_iconst (v := 1) hx hb dX15_goesOn_33 (by decide) ?_
      have hP9 := hP.sub (ws' := [(xm, .inr (20, [.int fA_15, .int x_20, v2, v3, v4, v5, v6, v7, v8, v9, v10, v11, v12, v13, v14, .int lH, .int lN, .int lO, .int lS, .int lM, v20])), (ma, .inr (18, [.int 0, .int (nI S), .int (nI G), .ref wa, .ref va, .ref na, .int my, .null, .int de, .int aa, .int bb, .ref tz])), (wa, .inl (cI, n, .inl w)), (va, .inl (cI, n, .inl mv)), (na, .inl (cI, n, .inl nx))]) [4, 0, 1, 2, 3] rfl
      have hD9 := hD.sub (ws' := [(xm, .inr (20, [.int fA_15, .int x_20, v2, v3, v4, v5, v6, v7, v8, v9, v10, v11, v12, v13, v14, .int lH, .int lN, .int lO, .int lS, .int lM, v20])), (ma, .inr (18, [.int 0, .int (nI S), .int (nI G), .ref wa, .ref va, .ref na, .int my, .null, .int de, .int aa, .int bb, .ref tz])), (wa, .inl (cI, n, .inl w)), (va, .inl (cI, n, .inl mv)), (na, .inl (cI, n, .inl nx))]) [4, 0, 1, 2, 3] (by decide) rfl
      have hK9 := hK.sub (tys' := [(cI, .int)]) [0] rfl
      exact W.zret (v := 1) hx hb hr (by rfl) (fun t ht hW => ⟨⟨1, (fA_15, x_20), rfl, (Or.inl ⟨rfl, Or.inr ((farP_sim (okM_mir hM) hsim k).mp (hw_18.elim (fun h => h.2) (fun h => absurd h.1 c21_19)))⟩), ⟨by rw [ht]; exact hP9, va_K.moved hW.alike hK9, hD9⟩⟩, hS.F ht⟩) hS.2.2 dX15_goesOn_34
  · refine lv_iconst (v := 1) hx hb dX15_goesOn_9 (by decide) ?_
    have hP9 := hP.sub (ws' := [(xm, .inr (20, [.int fA_1, .int fB_2, v2, v3, v4, v5, v6, v7, v8, v9, v10, v11, v12, v13, v14, .int lH, .int lN, .int lO, .int lS, .int lM, v20])), (ma, .inr (18, [.int 0, .int (nI S), .int (nI G), .ref wa, .ref va, .ref na, .int my, .null, .int de, .int aa, .int bb, .ref tz])), (wa, .inl (cI, n, .inl w)), (va, .inl (cI, n, .inl mv)), (na, .inl (cI, n, .inl nx))]) [0, 1, 2, 3, 4] rfl
    have hD9 := hD.sub (ws' := [(xm, .inr (20, [.int fA_1, .int fB_2, v2, v3, v4, v5, v6, v7, v8, v9, v10, v11, v12, v13, v14, .int lH, .int lN, .int lO, .int lS, .int lM, v20])), (ma, .inr (18, [.int 0, .int (nI S), .int (nI G), .ref wa, .ref va, .ref na, .int my, .null, .int de, .int aa, .int bb, .ref tz])), (wa, .inl (cI, n, .inl w)), (va, .inl (cI, n, .inl mv)), (na, .inl (cI, n, .inl nx))]) [0, 1, 2, 3, 4] (by decide) rfl
    have hK9 := hK.sub (tys' := [(cI, .int)]) [0] rfl
    refine W.widen (k := 21) (n := 8152) (Nat.le_of_ble_eq_true rfl) (Nat.le_of_ble_eq_true rfl) ?_
    exact W.zret (v := 1) hx hb hr (by rfl) (fun t ht hW => ⟨⟨1, (fA_1, fB_2), rfl, (Or.inl ⟨rfl, Or.inl (hw_4.elim (fun h => h.2) (fun h => absurd h.1 c6_5))⟩), ⟨by rw [ht]; exact hP9, va_K.moved hW.alike hK9, hD9⟩⟩, hS.F ht⟩) hS.2.2 dX15_goesOn_10
