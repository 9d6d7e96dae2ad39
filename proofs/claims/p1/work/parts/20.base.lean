abbrev vwCl : List vw_C := [(RJ0, TJ0, 4), (RJ4, TJ4, 4), (RJx00060, TJx00060, 6), (RJx35411, TJx35411, 4), (RJx4a65c, TJx4a65c, 3), (RX0, TX0, 6), (RX1, TX1, 6), (RX2, TX2, 6), (RX3, TX3, 9), (RX4, TX4, 7), (RX5, TX5, 11), (RX6, TX6, 9), (RX7, TX7, 7), (RX8, TX8, 8), (RX9, TX9, 6), (RX10, TX10, 5), (RX11, TX11, 7), (RX12, TX12, 11), (RX13, TX13, 12), (RX14, TX14, 9), (RX15, TX15, 21)]
/-! the nest's words; what a contract's start and end say -/
def nwL : List Cond := [.methodLinkNest RX11 21 yX2_init "Beaverhall", .methodLinkNest RX11 28 yX3_init "Beaverhall", .methodLinkNest RX11 35 yX0_init "Beaverhall", .methodLinkNest RX11 42 yX9_init "Beaverhall", .methodLinkNest RX11 49 yX1_init "Beaverhall", .methodLinkNest RX0 29 yX11_put "Beaverhall", .methodLinkNest RX0 51 yX11_at "Beaverhall", .methodLinkNest RX1 35 yX11_put "Beaverhall", .methodLinkNest RX1 49 yX11_at "Beaverhall", .methodLinkNest RX2 11 yX7_init "Beaverhall", .methodLinkNest RX2 20 yX6_init "Beaverhall", .methodLinkNest RX2 27 yX10_init "Beaverhall", .methodLinkNest RX2 37 yX8_init "Beaverhall", .methodLinkNest RX2 44 yX4_init "Beaverhall", .methodLinkNest RX4 54 yX11_at "Beaverhall", .methodLinkNest RX4 87 yX11_put "Beaverhall", .methodLinkNest RX5 11 yX7_init "Beaverhall", .methodLinkNest RX5 60 yX11_put "Beaverhall", .methodLinkNest RX6 20 yX7_init "Beaverhall", .methodLinkNest RX6 63 yX11_put "Beaverhall", .methodLinkNest RX6 89 yX11_at "Beaverhall", .methodLinkNest RX8 38 yX11_put "Beaverhall", .methodLinkNest RX8 76 yX11_at "Beaverhall", .methodLinkNest RX9 29 yX11_at "Beaverhall", .methodLinkNest RX9 35 yX11_put "Beaverhall", .methodLinkNest RX10 33 yX11_at "Beaverhall", .methodLinkNest RX10 59 yX11_put "Beaverhall", .fieldLinkNest RX15 101 "BeaverhallModel$Machine" "writes" "[I" "BeaverhallModel", .fieldLinkNest RX15 104 "BeaverhallModel$Machine" "moves" "[I" "BeaverhallModel", .fieldLinkNest RX15 107 "BeaverhallModel$Machine" "nexts" "[I" "BeaverhallModel", .fieldLinkNest RX15 110 "BeaverhallModel$Machine" "signs" "I" "BeaverhallModel", .fieldLinkNest RX15 135 "BeaverhallModel$Looks" "many" "I" "BeaverhallModel", .fieldLinkNest RX15 156 "BeaverhallModel$Machine" "a" "I" "BeaverhallModel", .fieldLinkNest RX15 159 "BeaverhallModel$Machine" "b" "I" "BeaverhallModel", .fieldLinkNest RX15 162 "BeaverhallModel$Machine" "decider" "C" "BeaverhallModel", .fieldLinkNest RX15 20 "BeaverhallModel$Run" "hasHalted" "Z" "BeaverhallModel", .fieldLinkNest RX15 235 "BeaverhallModel$Machine" "states" "I" "BeaverhallModel", .fieldLinkNest RX15 24 "BeaverhallModel$Run" "steps" "I" "BeaverhallModel", .fieldLinkNest RX15 248 "BeaverhallModel$Machine" "many" "I" "BeaverhallModel", .fieldLinkNest RX15 255 "BeaverhallModel$Machine" "last" "LBeaverhallModel$Run;" "BeaverhallModel", .fieldLinkNest RX15 268 "BeaverhallModel$Run" "left" "I" "BeaverhallModel", .fieldLinkNest RX15 282 "BeaverhallModel$Machine" "hasEnd" "Z" "BeaverhallModel", .fieldLinkNest RX15 339 "BeaverhallModel$Machine" "tells" "[C" "BeaverhallModel", .fieldLinkNest RX15 55 "BeaverhallModel$Run" "cell" "I" "BeaverhallModel", .fieldLinkNest RX15 58 "BeaverhallModel$Run" "right" "I" "BeaverhallModel", .fieldLinkNest RX15 67 "BeaverhallModel$Run" "state" "I" "BeaverhallModel", .fieldLinkNest RX15 70 "BeaverhallModel$Run" "tape" "[I" "BeaverhallModel", .fieldLinkNest RX12 23 "BeaverhallModel$Machine" "signs" "I" "BeaverhallModel", .fieldLinkNest RX12 34 "BeaverhallModel$Machine" "writes" "[I" "BeaverhallModel", .fieldLinkNest RX12 65 "BeaverhallModel$Machine" "moves" "[I" "BeaverhallModel", .fieldLinkNest RX12 68 "BeaverhallModel$Machine" "nexts" "[I" "BeaverhallModel", .fieldLinkNest RX14 48 "BeaverhallModel$Machine" "writes" "[I" "BeaverhallModel", .fieldLinkNest RX14 59 "BeaverhallModel$Machine" "moves" "[I" "BeaverhallModel", .fieldLinkNest RX14 62 "BeaverhallModel$Machine" "nexts" "[I" "BeaverhallModel", .fieldLinkNest RX14 65 "BeaverhallModel$Machine" "hasEnd" "Z" "BeaverhallModel"]
/-- the nest's links stand -/
def nwA (U : State) : Prop := ∀ w ∈ nwL, va_Nw w U
def nwK : Cond → Bool := fun w => match w with
  | .methodLinkNest _ _ _ _ => true
  | .fieldLinkNest _ _ _ _ _ _ => true
  | _ => false
theorem nwL_k : ∀ w ∈ nwL, nwK w = true := by decide +kernel
theorem nwA.warm {s U : State} (hW : s.WarmedH U.vm) (h : nwA s) : nwA U := by
  intro w hw
  have hk := nwL_k w hw
  have h1 := h w hw
  cases w <;> first | exact va_Nw.warmM hW h1 | exact va_Nw.warmF hW h1 | (exact absurd hk (by simp [nwK]))
theorem nwA.same {u U : State} (h : u.vm = U.vm) (hZ : nwA u) : nwA U := by
  intro w hw
  have hk := nwL_k w hw
  have h1 := hZ w hw
  cases w <;> first | exact va_Nw.same rfl h h1 | (exact absurd hk (by simp [nwK]))
/-- a contract's start: the world, the tables, the nest -/
def cPC (dC : Nat → ClassId) (dI : Nat → Nat → Nat) (ws : va_W) (tys : List (ClassId × FieldType)) (sz : Nat) : State → Prop := fun U => U.heap.size = sz ∧ va_P (dC, dI) vwCl ws U.heap ∧ va_K (dC, dI) vwCl tys U ∧ va_D (fun _ => True) ws ∧ nwA U
/-- a contract's end -/
def cQB (dC : Nat → ClassId) (dI : Nat → Nat → Nat) (ws : va_W) (tys : List (ClassId × FieldType)) (A : Nat → Prop) : State → Prop := fun t => va_P (dC, dI) vwCl ws t.heap ∧ va_K (dC, dI) vwCl tys t ∧ va_D A ws
theorem pcB {dC : Nat → ClassId} {dI : Nat → Nat → Nat} {ws : va_W} {tys : List (ClassId × FieldType)} {sz : Nat} {av : List Value} : FrameBlind (va_Pc av (cPC dC dI ws tys sz)) := by
  intro a U g mk q
  obtain ⟨q0, q1, qP, qK, qD, qN⟩ := q
  exact ⟨q0, q1, qP, va_K.moved (u := U) (U := U.calling g mk a) (Vm.Alike.refl U.vm) qK, qD, nwA.same (u := U) (U := U.calling g mk a) rfl qN⟩
theorem pcS {dC : Nat → ClassId} {dI : Nat → Nat → Nat} {ws : va_W} {tys : List (ClassId × FieldType)} {av : List Value} {s : State} {H : Heap} {A : Nat → Prop} (hP : va_P (dC, dI) vwCl ws H) (hD : va_D A ws) (hK : va_K (dC, dI) vwCl tys s) (hN : nwA s) : PreS s H (va_Pc av (cPC dC dI ws tys H.size)) av :=
  ⟨pcB, fun U hU hW => ⟨rfl, by rw [hU], by rw [hU]; exact hP, va_K.moved hW.alike hK, hD.weaken (fun _ _ _ _ => trivial), nwA.warm hW hN⟩⟩
theorem pcV {dC : Nat → ClassId} {dI : Nat → Nat → Nat} {ws : va_W} {tys : List (ClassId × FieldType)} {As : List Value} {b : Nat} {s : State} {H : Heap} {A : Nat → Prop} (hP : va_P (dC, dI) vwCl ws H) (hD : va_D A ws) (hK : va_K (dC, dI) vwCl tys s) (hN : nwA s) {ci q0 : Nat} {q : vw_C} {fs : List Value} (hc : vwCl[ci]? = some q) (he : ws[q0]? = some (b, .inr (ci, fs))) : PreV s H q.1 b (va_Pc (.ref b :: As) (cPC dC dI ws tys H.size)) As :=
  ⟨pcB, va_recv hK hP hc he, fun U hU hW => ⟨rfl, by rw [hU], by rw [hU]; exact hP, va_K.moved hW.alike hK, hD.weaken (fun _ _ _ _ => trivial), nwA.warm hW hN⟩⟩
/-- one class of arrays of a kind -/
theorem cA_one {dC : Nat → ClassId} {dI : Nat → Nat → Nat} {tys : List (ClassId × FieldType)} {s : State} (hK : va_K (dC, dI) vwCl tys s) {i j : Nat} {ca cb : ClassId} {ty : FieldType} (hi : tys[i]? = some (ca, ty)) (hj : tys[j]? = some (cb, ty)) : ca = cb := by
  have h1 := (hK.2 i _ hi).2
  have h2 := (hK.2 j _ hj).2
  cases ty with
  | object C =>
    obtain ⟨_, _, _, _, _, h4⟩ := h1
    obtain ⟨_, _, _, _, _, h5⟩ := h2
    exact Option.some.inj (h4.symm.trans h5)
  | _ => exact Option.some.inj (Eq.trans (Eq.symm h1) h2)
def imaxJ (x y : Int32) : Int32 := if x < y then y else x
def iminJ (x y : Int32) : Int32 := if y < x then y else x
theorem vpin_of {i : Int32} {n : Nat} (hn : n < 2 ^ 31) (h1 : ¬ i < 0) (h2 : ¬ Int32.ofNat n ≤ i) : vp_in i n := by
  rcases pk_ix i hn with h | h | ⟨j, hj, rfl⟩
  · exact absurd h h1
  · exact absurd h h2
  · exact vp_in_nI hj hn
/-- what the class reads of a row, and writes into it: nothing beyond its ends -/
def atJ (f : Nat → Int32) (n : Nat) (i : Int32) : Int32 := if i < 0 then 0 else if Int32.ofNat n ≤ i then 0 else f i.toNatClampNeg
def putJ (f : Nat → Int32) (n : Nat) (i x : Int32) : Nat → Int32 := if i < 0 then f else if Int32.ofNat n ≤ i then f else upd f i.toNatClampNeg x
/-- a loop: the state x of its variables, an invariant, a measure that falls -/
theorem lp_go {p : Program} {l : Launch} {e : Env} {R : Room} {s : State} {m : MethodId} {args : Array Value} {below : List Frame} {meth : Method} {c : Code} {Q : State → Prop} {D : va_G} {cl : List vw_C} {A : Nat → Prop} {H0 : Heap} {pc nL : Nat} {cells slots : Nat}
    {σ : Type} (I : σ → Prop) (μ : σ → Nat) (ws : σ → va_W) (lv : σ → List (Nat × Value)) (st : σ → List Value)
    (step : ∀ x, I x → (∀ x', I x' → μ x' < μ x → ∀ (H : Heap) (locs : List Loc), va_P D cl (ws x') H → va_D A (ws x') → va_S A H0 H locs → ∀ ls : Array Slot, lv_has ls nL (lv x') → W p l e R s m args below meth c H locs cells slots Q (F0 m pc ls (st x'))) →
      ∀ (H : Heap) (locs : List Loc), va_P D cl (ws x) H → va_D A (ws x) → va_S A H0 H locs → ∀ ls : Array Slot, lv_has ls nL (lv x) → W p l e R s m args below meth c H locs cells slots Q (F0 m pc ls (st x)))
    (x : σ) (hI : I x) {H : Heap} {locs : List Loc} (hP : va_P D cl (ws x) H) (hD : va_D A (ws x)) (hS : va_S A H0 H locs) {ls : Array Slot} (hl : lv_has ls nL (lv x)) : W p l e R s m args below meth c H locs cells slots Q (F0 m pc ls (st x)) := by
  have key : ∀ (k : Nat) (x : σ), μ x < k → I x → ∀ (H : Heap) (locs : List Loc), va_P D cl (ws x) H → va_D A (ws x) → va_S A H0 H locs → ∀ ls : Array Slot, lv_has ls nL (lv x) → W p l e R s m args below meth c H locs cells slots Q (F0 m pc ls (st x)) := by
    intro k
    induction k with
    | zero => intro x h; exact absurd h (Nat.not_lt_zero _)
    | succ k ih => intro x h hI; exact step x hI (fun x' hI' hμ => ih x' (Nat.lt_of_lt_of_le hμ (Nat.le_of_lt_succ h)) hI')
  exact key (μ x + 1) x (Nat.lt_succ_self _) hI H locs hP hD hS ls hl
-- ===== what the class' small methods say =====
def signJ (f : Nat → Int32) (w : Int32) : Int32 := if w < -500 then 0 else if 500 < w then 0 else f (w + 500).toNatClampNeg
def writeJ (f : Nat → Int32) (w x : Int32) : Nat → Int32 := if w < -500 then f else if 500 < w then f else upd f (w + 500).toNatClampNeg x
theorem i32_le_of_not {x y : Int32} (h : ¬ x ≤ y) : y < x := Int32.not_le.mp h
theorem i32_le_of_nlt {x y : Int32} (h : ¬ x < y) : y ≤ x := Int32.not_lt.mp h
theorem sign_in {w : Int32} (h1 : ¬ w < -500) (h2 : ¬ 500 < w) : vp_in (w + 500) 1001 := by
  have a := Int32.le_iff_toInt_le.mp (Int32.not_lt.mp h1)
  have b := Int32.le_iff_toInt_le.mp (Int32.not_lt.mp h2)
  have e1 : (-500 : Int32).toInt = -500 := by decide
  have e2 : (500 : Int32).toInt = 500 := by decide
  rw [e1] at a; rw [e2] at b
  rw [vp_in_iff, Int32.toInt_add, e2]
  have hb : (w.toInt + 500).bmod (2 ^ 32) = w.toInt + 500 := by
    rw [Int.bmod_eq_of_le] <;> omega
  rw [hb]
  omega
def moveJ (o : Int32) : Int32 := if 40 < o then 1 else -1
def wrJ (o : Int32) : Int32 := ((o - 1) - (o - 1) / 40 * 40) - ((o - 1) - (o - 1) / 40 * 40) / 4 * 4
def nxJ (o : Int32) : Int32 := ((o - 1) - (o - 1) / 40 * 40) / 4
def codeJ (w r n : Int32) : Int32 := 1 + w + 4 * n + (if r = 0 then 0 else 40)
def hasJ (ss gg a b : Int32) : Int32 := if a < 0 then 0 else if ss ≤ a then 0 else if b < 0 then 0 else if gg ≤ b then 0 else 1
def ordJ (ss gg : Int32) (o : Nat → Int32) (a b : Int32) : Int32 := if a < 0 then 0 else if ss ≤ a then 0 else if b < 0 then 0 else if gg ≤ b then 0 else if 24 ≤ a * 4 + b then 0 else o (a * 4 + b).toNatClampNeg
theorem ord_in {a b ss gg : Int32} (hs : ss ≤ 6) (hg : gg ≤ 4) (h1 : ¬ a < 0) (h2 : ¬ ss ≤ a) (h3 : ¬ b < 0) (h4 : ¬ gg ≤ b) : vp_in (a * 4 + b) 24 := by
  obtain ⟨j, hj, rfl⟩ := nI_of2 (M := 6) (n := 6) (by decide) h1 (Int32.le_of_lt (Int32.lt_of_lt_of_le (Int32.not_le.mp h2) hs))
  obtain ⟨k, hk, rfl⟩ := nI_of2 (M := 4) (n := 4) (by decide) h3 (Int32.le_of_lt (Int32.lt_of_lt_of_le (Int32.not_le.mp h4) hg))
  have h5 : nI j < nI 6 := Int32.lt_of_lt_of_le (Int32.not_le.mp h2) hs
  have h6 : nI k < nI 4 := Int32.lt_of_lt_of_le (Int32.not_le.mp h4) hg
  rw [nI_ltI (by omega) (by omega)] at h5 h6
  rw [show (4 : Int32) = nI 4 from rfl, pk_mul, nI_add]
  exact vp_in_nI (by omega) (by omega)
/-- a run's state: state, cell, steps, leftmost, rightmost, hasFallen, tape -/
abbrev RunS := Int32 × Int32 × Int32 × Int32 × Int32 × Int32 × (Nat → Int32)
def fillJ (f : Nat → Int32) (n : Nat) (v : Int32) : Nat → Int32 := fun q => if q < n then v else f q
def beginJ (f : Nat → Int32) : RunS := (0, 0, 0, 0, 0, 0, fillJ f 1001 0)
def stepJ (he ss gg : Int32) (o : Nat → Int32) (x : RunS) : Int32 × RunS :=
  match x with
  | (st, ce, sp, lm, rm, fa, f) =>
    let od := if fa = 0 then ordJ ss gg o st (signJ f ce) else 0
    if od = 0 then (0, x) else
    let to := ce + moveJ od
    if he = 0 ∨ ¬ to < 0 then
      if to < -500 then (0, x) else if ¬ to ≤ 500 then (0, x) else
      (1, (nxJ od, to, sp + 1, iminJ lm to, imaxJ rm to, 0, writeJ f ce (wrJ od)))
    else (1, (nxJ od, ce, sp + 1, iminJ lm ce, imaxJ rm ce, 1, writeJ f ce (wrJ od)))
def goJ (he ss gg : Int32) (o : Nat → Int32) : Nat → RunS → RunS
  | 0, x => x
  | k + 1, x => match stepJ he ss gg o x with
    | (b, y) => if b = 0 then y else goJ he ss gg o k y
theorem nI_step {i k : Nat} (hk : k < 2 ^ 31) (hi : i ≤ k) (h : ¬ nI k ≤ nI i) : i < k := by
  rcases Nat.lt_or_ge i k with q | q
  · exact q
  · exact absurd (nI_le q (by omega)) h
theorem nI_end {i k : Nat} (hk : k < 2 ^ 31) (hi : i ≤ k) (h : nI k ≤ nI i) : i = k := by
  rw [nI_leI hk (by omega)] at h
  omega
theorem fill_upd {f : Nat → Int32} {v : Int32} {j : Nat} : upd (fun q => if q < j then v else f q) j v = (fun q => if q < j + 1 then v else f q) := by
  funext q
  by_cases h : q = j
  · subst h; simp [upd]
  · simp only [upd, if_neg h]
    by_cases h2 : q < j
    · rw [if_pos h2, if_pos (by omega)]
    · rw [if_neg h2, if_neg (by omega)]
def haltJ (ss gg : Int32) (o : Nat → Int32) (x : RunS) : Int32 :=
  match x with
  | (st, ce, _, _, _, fa, f) => if fa = 0 then (if ordJ ss gg o st (signJ f ce) = 0 then 1 else 0) else 1
-- ===== the reference: machines and runs, without ends =====
/-- the orders of a machine of S states and G signs, in rows of n places -/
def okM (S G n : Nat) (w mv nx : Nat → Int32) : Prop := n = S * G ∧ 1 ≤ S ∧ S ≤ 6 ∧ 1 ≤ G ∧ G ≤ 4 ∧ ∀ k < n, w k = -1 ∨ ((∃ j < G, w k = nI j) ∧ (mv k = 1 ∨ mv k = -1) ∧ ∃ j < S, nx k = nI j)
/-- state, cell, left, right, steps, hasHalted, isBound, tape -/
abbrev RunT := Int32 × Int32 × Int32 × Int32 × Int32 × Int32 × Int32 × (Nat → Int32)
def okR (S G : Nat) (x : RunT) : Prop := match x with
  | (st, ce, lf, rt, _, hh, ib, f) => ∃ a c lo hi : Nat, st = nI a ∧ ce = nI c - 500 ∧ lf = nI lo - 500 ∧ rt = nI hi - 500 ∧ a < S ∧ lo ≤ c ∧ c ≤ hi ∧ lo ≤ 500 ∧ 500 ≤ hi ∧ hi ≤ 1000 ∧ (hh = 0 ∨ hh = 1) ∧ (ib = 0 ∨ ib = 1) ∧ (∀ j, ∃ t < G, f j = nI t) ∧ ∀ j, j < lo ∨ hi < j → f j = 0
def ordR (gg st ce : Int32) (f : Nat → Int32) : Int32 := st * gg + f (500 + ce).toNatClampNeg
def hnoR (gg : Int32) (w : Nat → Int32) (st ce : Int32) (f : Nat → Int32) : Int32 := if w (ordR gg st ce f).toNatClampNeg = -1 then 1 else 0
theorem cell_nI (c : Nat) : 500 + (nI c - 500) = nI c := by
  rw [Int32.add_comm, Int32.sub_add_cancel]
theorem okR_ix {S G : Nat} {st ce lf rt sp hh ib : Int32} {f : Nat → Int32} (h : okR S G (st, ce, lf, rt, sp, hh, ib, f)) : vp_in (500 + ce) 1001 := by
  obtain ⟨a, c, lo, hi, -, rfl, -, -, -, -, h2, -, -, h3, -⟩ := h
  rw [cell_nI]
  exact vp_in_nI (by omega) (by omega)
theorem okR_ord {S G n : Nat} {w mv nx : Nat → Int32} (hM : okM S G n w mv nx) {st ce lf rt sp hh ib : Int32} {f : Nat → Int32} (h : okR S G (st, ce, lf, rt, sp, hh, ib, f)) : ∃ k < n, ordR (nI G) st ce f = nI k := by
  obtain ⟨a, c, lo, hi, rfl, rfl, -, -, ha, h2, h3, h4, h5, h7, -, -, hf, -⟩ := h
  obtain ⟨hn, h1, h6, hg1, hg, -⟩ := hM
  unfold ordR
  rw [cell_nI, nI_clamp (by omega)]
  obtain ⟨t, ht, e⟩ := hf c
  rw [e, pk_mul, nI_add]
  refine ⟨a * G + t, ?_, rfl⟩
  rw [hn]
  calc a * G + t < a * G + G := by omega
    _ = (a + 1) * G := by rw [Nat.add_mul, Nat.one_mul]
    _ ≤ S * G := Nat.mul_le_mul_right G ha
theorem okM_n {S G n : Nat} {w mv nx : Nat → Int32} (hM : okM S G n w mv nx) : n ≤ 24 := by
  obtain ⟨hn, h1, h6, hg1, hg, -⟩ := hM
  rw [hn]
  exact Nat.le_trans (Nat.mul_le_mul h6 hg) (by decide)
theorem okR_oin {S G n : Nat} {w mv nx : Nat → Int32} (hM : okM S G n w mv nx) {st ce lf rt sp hh ib : Int32} {f : Nat → Int32} (h : okR S G (st, ce, lf, rt, sp, hh, ib, f)) : vp_in (ordR (nI G) st ce f) n := by
  obtain ⟨k, hk, e⟩ := okR_ord hM h
  have := okM_n hM
  rw [e]
  exact vp_in_nI hk (by omega)
def stepR (gg : Int32) (w mv nx : Nat → Int32) (x : RunT) : Int32 × RunT :=
  match x with
  | (st, ce, lf, rt, sp, hh, ib, f) =>
    let o := (ordR gg st ce f).toNatClampNeg
    let hh1 : Int32 := if hh = 0 then (if hnoR gg w st ce f = 0 then 0 else 1) else 1
    let to := if hh1 = 0 then ce + mv o else ce
    let ib1 : Int32 := if ib = 0 then (if 500 < to then 1 else if to < -500 then 1 else 0) else 1
    if hh1 = 0 then
      if ib1 = 0 then (1, (nx o, to, iminJ lf to, imaxJ rt to, sp + 1, 0, 0, upd f (500 + ce).toNatClampNeg (w o)))
      else (0, (st, ce, lf, rt, sp, 0, 1, f))
    else (0, (st, ce, lf, rt, sp, 1, ib1, f))
theorem okR_fl {S G : Nat} {st ce lf rt sp hh ib hh' ib' : Int32} {f : Nat → Int32} (h : okR S G (st, ce, lf, rt, sp, hh, ib, f)) (h1 : hh' = 0 ∨ hh' = 1) (h2 : ib' = 0 ∨ ib' = 1) : okR S G (st, ce, lf, rt, sp, hh', ib', f) :=
  let ⟨a, c, lo, hi, e1, e2, e3, e4, e5, e6, e7, e8, e9, e10, _, _, e13, e14⟩ := h
  ⟨a, c, lo, hi, e1, e2, e3, e4, e5, e6, e7, e8, e9, e10, h1, h2, e13, e14⟩
theorem okR_ib {S G : Nat} {st ce lf rt sp hh ib : Int32} {f : Nat → Int32} (h : okR S G (st, ce, lf, rt, sp, hh, ib, f)) : ib = 0 ∨ ib = 1 := by
  obtain ⟨a, c, lo, hi, -, -, -, -, -, -, -, -, -, -, -, h, -⟩ := h
  exact h
theorem okR_hh {S G : Nat} {st ce lf rt sp hh ib : Int32} {f : Nat → Int32} (h : okR S G (st, ce, lf, rt, sp, hh, ib, f)) : hh = 0 ∨ hh = 1 := by
  obtain ⟨a, c, lo, hi, -, -, -, -, -, -, -, -, -, -, h, -⟩ := h
  exact h
theorem okR_ix0 {S G : Nat} {st ce lf rt sp hh ib : Int32} {f : Nat → Int32} (h : okR S G (st, ce, lf, rt, sp, hh, ib, f)) : vp_in (500 + ce) 1001 := okR_ix h
theorem cN_toInt {a : Nat} (ha : a ≤ 2000) : (nI a - 500).toInt = (a : Int) - 500 := by
  rw [show (500 : Int32) = nI 500 from rfl, pk_sub_toInt (by omega) (by omega)]
  rfl
theorem cN_lt {a b : Nat} (ha : a ≤ 2000) (hb : b ≤ 2000) : nI a - 500 < nI b - 500 ↔ a < b := by
  rw [Int32.lt_iff_toInt_lt, cN_toInt ha, cN_toInt hb]; omega
theorem cN_le {a b : Nat} (ha : a ≤ 2000) (hb : b ≤ 2000) : nI a - 500 ≤ nI b - 500 ↔ a ≤ b := by
  rw [Int32.le_iff_toInt_le, cN_toInt ha, cN_toInt hb]; omega
theorem cN_eq {a b : Nat} (ha : a ≤ 2000) (hb : b ≤ 2000) : nI a - 500 = nI b - 500 ↔ a = b := by
  constructor
  · intro h
    have := congrArg Int32.toInt h
    rw [cN_toInt ha, cN_toInt hb] at this
    omega
  · rintro rfl; rfl
theorem cN_succ (a : Nat) : nI a - 500 + 1 = nI (a + 1) - 500 := by
  rw [← nI_1]
  simp only [Int32.sub_eq_add_neg, Int32.add_assoc]
  rw [Int32.add_comm (-500) 1]
theorem cN_pred (a : Nat) : nI (a + 1) - 500 + -1 = nI a - 500 := by
  rw [← cN_succ]
  simp only [Int32.sub_eq_add_neg, Int32.add_assoc]
  rw [show (1 : Int32) + -1 = 0 from by decide, Int32.add_zero]
theorem cN_500 : (500 : Int32) = nI 1000 - 500 := by decide
theorem cN_m500 : (-500 : Int32) = nI 0 - 500 := by decide
theorem cN_0 : (0 : Int32) = nI 500 - 500 := by decide
theorem cN_gt {c : Nat} (hc : c ≤ 2000) : 500 < nI c - 500 ↔ 1000 < c := by
  rw [Int32.lt_iff_toInt_lt, cN_toInt hc, show (500 : Int32).toInt = 500 from by decide]; omega
theorem cN_ltm {c : Nat} (hc : c ≤ 2000) : ¬ nI c - 500 < -500 := by
  rw [Int32.lt_iff_toInt_lt, cN_toInt hc, show (-500 : Int32).toInt = -500 from by decide]; omega
theorem cN_min {a b : Nat} (ha : a ≤ 2000) (hb : b ≤ 2000) : iminJ (nI a - 500) (nI b - 500) = nI (min a b) - 500 := by
  simp only [iminJ, cN_lt hb ha]
  by_cases h : b < a
  · rw [if_pos h, Nat.min_eq_right (by omega)]
  · rw [if_neg h, Nat.min_eq_left (by omega)]
theorem cN_max {a b : Nat} (ha : a ≤ 2000) (hb : b ≤ 2000) : imaxJ (nI a - 500) (nI b - 500) = nI (max a b) - 500 := by
  simp only [imaxJ, cN_lt ha hb]
  by_cases h : a < b
  · rw [if_pos h, Nat.max_eq_right (by omega)]
  · rw [if_neg h, Nat.max_eq_left (by omega)]
theorem okM_at {S G n : Nat} {w mv nx : Nat → Int32} (hM : okM S G n w mv nx) {k : Nat} (hk : k < n) (hw : ¬ w k = -1) : (∃ j < G, w k = nI j) ∧ (mv k = 1 ∨ mv k = -1) ∧ ∃ j < S, nx k = nI j := by
  rcases hM.2.2.2.2.2 k hk with h | h
  · exact absurd h hw
  · exact h
theorem okR_step {S G n : Nat} {w mv nx : Nat → Int32} (hM : okM S G n w mv nx) {x : RunT} (h : okR S G x) : okR S G (stepR (nI G) w mv nx x).2 := by
  obtain ⟨st, ce, lf, rt, sp, hh, ib, f⟩ := x
  obtain ⟨k, hk, ek⟩ := okR_ord hM h
  have hn := okM_n hM
  have hkc : (nI k).toNatClampNeg = k := nI_clamp (by omega)
  obtain ⟨a, c, lo, hi, rfl, rfl, rfl, rfl, ha, h1, h2, h3, h4, h5, h6, h7, h8, h9⟩ := id h
  unfold stepR
  simp only [ek, hkc, hnoR]
  by_cases e1 : hh = 0
  · by_cases e2 : w k = -1
    · simp only [e1, e2, if_true, if_false, (by decide : ¬ (1 : Int32) = 0)]
      exact okR_fl h (by decide) (by split <;> (try split) <;> (try split) <;> simp)
    · simp only [e1, e2, if_true, if_false]
      obtain ⟨⟨t, ht, et⟩, hmv, j, hj, ej⟩ := okM_at hM hk e2
      by_cases e3 : ib = 0
      · simp only [e3, if_true]
        by_cases e4 : 500 < nI c - 500 + mv k
        · simp only [e4, if_true, if_false, (by decide : ¬ (1 : Int32) = 0)]
          exact okR_fl h (by decide) (by decide)
        · by_cases e5 : nI c - 500 + mv k < -500
          · simp only [e4, e5, if_true, if_false, (by decide : ¬ (1 : Int32) = 0)]
            exact okR_fl h (by decide) (by decide)
          · simp only [e4, e5, if_true, if_false]
            obtain ⟨c', hc', ec'⟩ : ∃ c' ≤ 1000, nI c - 500 + mv k = nI c' - 500 := by
              rcases hmv with e | e
              · rw [e, cN_succ] at e4 ⊢
                rw [cN_gt (by omega)] at e4
                exact ⟨c + 1, by omega, rfl⟩
              · rw [e] at e5 ⊢
                cases c with
                | zero => exact absurd (by decide) e5
                | succ c => exact ⟨c, by omega, cN_pred c⟩
            rw [ec', cN_min (by omega) (by omega), cN_max (by omega) (by omega), cell_nI, nI_clamp (by omega), et, ej]
            refine ⟨j, c', min lo c', max hi c', rfl, rfl, rfl, rfl, hj, by omega, by omega, by omega, by omega, by omega, by decide, by decide, fun q => ?_, fun q hq => ?_⟩
            · by_cases hqc : q = c
              · exact ⟨t, ht, by simp [upd, hqc]⟩
              · obtain ⟨t', h'⟩ := h8 q
                exact ⟨t', h'.1, by simp [upd, hqc, h'.2]⟩
            · have : q ≠ c := by omega
              simp only [upd, if_neg this]
              exact h9 q (by omega)
      · simp only [e3, if_false, (by decide : ¬ (1 : Int32) = 0), if_true]
        exact okR_fl h (by decide) (by decide)
  · simp only [e1, if_false, (by decide : ¬ (1 : Int32) = 0)]
    exact okR_fl h (by decide) (by split <;> (try split) <;> (try split) <;> simp)
/-- the run before its first step -/
def zeroR : RunT := (0, 0, 0, 0, 0, 0, 0, fun _ => 0)
theorem okR_zero {S G : Nat} (hS : 1 ≤ S) (hG : 1 ≤ G) : okR S G zeroR := ⟨0, 500, 500, 500, by decide, by decide, by decide, by decide, hS, by decide, by decide, by decide, by decide, by decide, by decide, by decide, fun _ => ⟨0, hG, nI_0.symm⟩, fun _ _ => rfl⟩
/-- how many cells from lo on are marked -/
def cntN (f : Nat → Int32) (lo : Nat) : Nat → Int32
  | 0 => 0
  | m + 1 => cntN f lo m + (if f (lo + m) = 0 then 0 else 1)
def marksR (lf rt : Int32) (f : Nat → Int32) : Int32 := cntN f (500 + lf).toNatClampNeg ((500 + rt).toNatClampNeg + 1 - (500 + lf).toNatClampNeg)
theorem nar01 {v : Int32} (h : v = 0 ∨ v = 1) : narrow .boolean (.int v) = .int v := by rcases h with rfl | rfl <;> rfl
theorem fit01 {v : Int32} (h : v = 0 ∨ v = 1) : fits .boolean (.int v) = true := by rcases h with rfl | rfl <;> rfl
theorem cell_cl {c : Nat} (hc : c ≤ 2000) : (500 + (nI c - 500)).toNatClampNeg = c := by rw [cell_nI, nI_clamp (by omega)]
theorem cell_in {c : Nat} (hc : c ≤ 1000) : vp_in (500 + (nI c - 500)) 1001 := by rw [cell_nI]; exact vp_in_nI (by omega) (by omega)
theorem cell_sw {c k : Nat} (h : k ≤ c) : 500 + (nI c - 500) - nI k = nI (c - k) := by
  rw [cell_nI, pk_sub h]
/-- both runs are alike in state, cell and tape -/
def alikeR (x y : RunT) : Prop := x.1 = y.1 ∧ x.2.1 = y.2.1 ∧ x.2.2.2.2.2.2.2 = y.2.2.2.2.2.2.2
theorem okA {j hi hi2 : Nat} {x : Int32} (hj : j ≤ 1001) (h1 : hi ≤ 1000) (h2 : hi2 ≤ 1000) (e : x = imaxJ (nI hi - 500) (nI hi2 - 500)) (h : ¬ x < nI j - 500) : j ≤ max hi hi2 := by
  rw [e, cN_max (by omega) (by omega), cN_lt (by omega) (by omega)] at h
  omega
theorem okB {j hi hi2 : Nat} {x : Int32} (hj : j ≤ 1001) (h1 : hi ≤ 1000) (h2 : hi2 ≤ 1000) (e : x = imaxJ (nI hi - 500) (nI hi2 - 500)) (h : x < nI j - 500) : max hi hi2 < j := by
  rw [e, cN_max (by omega) (by omega), cN_lt (by omega) (by omega)] at h
  omega
-- ===== the reference's run as a row of states =====
def seqR (gg : Int32) (w mv nx : Nat → Int32) : Nat → RunT
  | 0 => zeroR
  | n + 1 => (stepR gg w mv nx (seqR gg w mv nx n)).2
def bitR (gg : Int32) (w mv nx : Nat → Int32) (n : Nat) : Int32 := (stepR gg w mv nx (seqR gg w mv nx n)).1
/-- each of the first n steps was one -/
def alvR (gg : Int32) (w mv nx : Nat → Int32) (n : Nat) : Prop := ∀ i, i < n → bitR gg w mv nx i = 1
def flR (x : RunT) (hh ib : Int32) : RunT := match x with | (st, ce, lf, rt, sp, _, _, f) => (st, ce, lf, rt, sp, hh, ib, f)
def hnoX (gg : Int32) (w : Nat → Int32) (x : RunT) : Int32 := match x with | (st, ce, _, _, _, _, _, f) => hnoR gg w st ce f
theorem hnoX_01 (gg : Int32) (w : Nat → Int32) (x : RunT) : hnoX gg w x = 0 ∨ hnoX gg w x = 1 := by
  obtain ⟨st, ce, lf, rt, sp, hh, ib, f⟩ := x
  simp only [hnoX, hnoR]
  split
  · exact Or.inr rfl
  · exact Or.inl rfl
def hhR (gg : Int32) (w : Nat → Int32) (x : RunT) : Int32 := if x.2.2.2.2.2.1 = 0 then (if hnoX gg w x = 0 then 0 else 1) else 1
def toR (gg : Int32) (w mv : Nat → Int32) (x : RunT) : Int32 := if hhR gg w x = 0 then x.2.1 + mv (ordR gg x.1 x.2.1 x.2.2.2.2.2.2.2).toNatClampNeg else x.2.1
def ibR (gg : Int32) (w mv : Nat → Int32) (x : RunT) : Int32 := if x.2.2.2.2.2.2.1 = 0 then (if 500 < toR gg w mv x then 1 else if toR gg w mv x < -500 then 1 else 0) else 1
def onR (gg : Int32) (w mv nx : Nat → Int32) (x : RunT) : RunT := (nx (ordR gg x.1 x.2.1 x.2.2.2.2.2.2.2).toNatClampNeg, toR gg w mv x, iminJ x.2.2.1 (toR gg w mv x), imaxJ x.2.2.2.1 (toR gg w mv x), x.2.2.2.2.1 + 1, 0, 0, upd x.2.2.2.2.2.2.2 (500 + x.2.1).toNatClampNeg (w (ordR gg x.1 x.2.1 x.2.2.2.2.2.2.2).toNatClampNeg))
theorem stepR_eq (gg : Int32) (w mv nx : Nat → Int32) (x : RunT) : stepR gg w mv nx x = if hhR gg w x = 0 then (if ibR gg w mv x = 0 then (1, onR gg w mv nx x) else (0, flR x 0 1)) else (0, flR x 1 (ibR gg w mv x)) := by
  obtain ⟨st, ce, lf, rt, sp, hh, ib, f⟩ := x
  rfl
theorem hhR_01 (gg : Int32) (w : Nat → Int32) (x : RunT) : hhR gg w x = 0 ∨ hhR gg w x = 1 := by
  unfold hhR
  split
  · split
    · exact Or.inl rfl
    · exact Or.inr rfl
  · exact Or.inr rfl
theorem ibR_01 (gg : Int32) (w mv : Nat → Int32) (x : RunT) : ibR gg w mv x = 0 ∨ ibR gg w mv x = 1 := by
  unfold ibR
  split
  · split
    · exact Or.inr rfl
    · split
      · exact Or.inr rfl
      · exact Or.inl rfl
  · exact Or.inr rfl
theorem stepR_01 (gg : Int32) (w mv nx : Nat → Int32) (x : RunT) : (stepR gg w mv nx x).1 = 0 ∨ (stepR gg w mv nx x).1 = 1 := by
  rw [stepR_eq]
  rcases hhR_01 gg w x with h | h <;> rcases ibR_01 gg w mv x with h2 | h2 <;> simp [h, h2]
theorem bitR_01 (gg : Int32) (w mv nx : Nat → Int32) (n : Nat) : bitR gg w mv nx n = 0 ∨ bitR gg w mv nx n = 1 := stepR_01 gg w mv nx _
theorem alvR_succ {gg : Int32} {w mv nx : Nat → Int32} {n : Nat} (h : alvR gg w mv nx n) (hb : bitR gg w mv nx n = 1) : alvR gg w mv nx (n + 1) := by
  intro i hi
  rcases Nat.lt_or_ge i n with q | q
  · exact h i q
  · have : i = n := by omega
    rw [this]; exact hb
theorem alvR_le {gg : Int32} {w mv nx : Nat → Int32} {n k : Nat} (h : alvR gg w mv nx n) (hk : k ≤ n) : alvR gg w mv nx k := fun i hi => h i (Nat.lt_of_lt_of_le hi hk)
theorem seqR_ok {S G n : Nat} {w mv nx : Nat → Int32} (hM : okM S G n w mv nx) (k : Nat) : okR S G (seqR (nI G) w mv nx k) := by
  induction k with
  | zero => exact okR_zero hM.2.1 hM.2.2.2.1
  | succ k ih => exact okR_step hM ih
/-- a step that is one leaves both flags down, and counts -/
theorem stepR_one {gg : Int32} {w mv nx : Nat → Int32} {x : RunT} (h : (stepR gg w mv nx x).1 = 1) : (stepR gg w mv nx x).2.2.2.2.2.1 = x.2.2.2.2.1 + 1 ∧ (stepR gg w mv nx x).2.2.2.2.2.2.1 = 0 ∧ (stepR gg w mv nx x).2.2.2.2.2.2.2.1 = 0 := by
  rw [stepR_eq] at h ⊢
  rcases hhR_01 gg w x with h1 | h1 <;> rcases ibR_01 gg w mv x with h2 | h2 <;> simp [h1, h2] at h ⊢
  exact ⟨rfl, rfl, rfl⟩
theorem seqR_al {gg : Int32} {w mv nx : Nat → Int32} {n : Nat} (h : alvR gg w mv nx n) : (seqR gg w mv nx n).2.2.2.2.1 = nI n ∧ (seqR gg w mv nx n).2.2.2.2.2.1 = 0 ∧ (seqR gg w mv nx n).2.2.2.2.2.2.1 = 0 := by
  induction n with
  | zero => exact ⟨rfl, rfl, rfl⟩
  | succ n ih =>
    have h1 := stepR_one (h n (Nat.lt_succ_self n))
    refine ⟨?_, h1.2.1, h1.2.2⟩
    show (stepR gg w mv nx (seqR gg w mv nx n)).2.2.2.2.2.1 = nI (n + 1)
    rw [h1.1, (ih (alvR_le h (Nat.le_succ n))).1, nI_1]
/-- a step that is none moves the flags alone -/
theorem stepR_none {gg : Int32} {w mv nx : Nat → Int32} {x : RunT} (h0 : x.2.2.2.2.2.1 = 0) (h : (stepR gg w mv nx x).1 = 0) : ∃ hh ib, (stepR gg w mv nx x).2 = flR x hh ib ∧ ((hh = 1 ∧ hnoX gg w x = 1 ∧ (ib = 0 ∨ ib = 1)) ∨ (hh = 0 ∧ ib = 1 ∧ hnoX gg w x = 0)) := by
  have h01 := hnoX_01 gg w x
  have e1 : hhR gg w x = if hnoX gg w x = 0 then 0 else 1 := by unfold hhR; rw [if_pos h0]
  rw [stepR_eq] at h ⊢
  rcases h01 with e | e
  · rw [e1, if_pos e] at h ⊢
    rcases ibR_01 gg w mv x with h2 | h2
    · rw [if_pos rfl, if_pos h2] at h; exact absurd (show (1 : Int32) = 0 from h) (by decide)
    · exact ⟨0, 1, by rw [if_pos rfl, h2, if_neg (by decide)], Or.inr ⟨rfl, rfl, e⟩⟩
  · have e2 : hhR gg w x = 1 := by rw [e1, e]; decide
    rw [e2]
    exact ⟨1, _, by rw [if_neg (by decide)], Or.inl ⟨rfl, e, ibR_01 gg w mv x⟩⟩
/-- what a run of at most k steps comes to -/
def goneR (gg : Int32) (w mv nx : Nat → Int32) (k : Nat) (u : RunT) : Prop := ∃ (m : Nat) (ib : Int32), m ≤ k ∧ alvR gg w mv nx m ∧ (m = k ∨ bitR gg w mv nx m = 0) ∧ (ib = 0 ∨ ib = 1) ∧ u = flR (seqR gg w mv nx m) (hnoX gg w (seqR gg w mv nx m)) ib
theorem goneR_of {gg : Int32} {w mv nx : Nat → Int32} {k i : Nat} {st ce lf rt sp hh ib hh9 : Int32} {f : Nat → Int32} (hi : i ≤ k) (ha : alvR gg w mv nx i)
    (hx : ((st, ce, lf, rt, sp, hh, ib, f) = seqR gg w mv nx i ∧ i = k) ∨ (bitR gg w mv nx i = 0 ∧ (st, ce, lf, rt, sp, hh, ib, f) = (stepR gg w mv nx (seqR gg w mv nx i)).2))
    (h9 : hh9 = if hh = 0 then (if ib = 0 then (if hnoR gg w st ce f = 0 then 0 else 1) else 0) else 1) : goneR gg w mv nx k (st, ce, lf, rt, sp, hh9, ib, f) := by
  have hs := seqR_al ha
  rcases hx with ⟨e, hk⟩ | ⟨hb, e⟩
  · refine ⟨i, ib, hi, ha, Or.inl hk, ?_, ?_⟩
    · rw [← e] at hs; exact Or.inl hs.2.2
    · rw [← e] at hs ⊢
      dsimp only at hs
      rw [h9, hs.2.1, hs.2.2]
      simp only [flR, hnoX, if_true]
      rcases hnoX_01 gg w (st, ce, lf, rt, sp, hh, ib, f) with q | q <;> (dsimp only [hnoX] at q; simp [q])
  · obtain ⟨hh1, ib1, e1, h1⟩ := stepR_none hs.2.1 hb
    rw [e1] at e
    generalize hy : seqR gg w mv nx i = y at *
    obtain ⟨st', ce', lf', rt', sp', hh', ib', f'⟩ := y
    simp only [flR, Prod.mk.injEq] at e
    obtain ⟨rfl, rfl, rfl, rfl, rfl, rfl, rfl, rfl⟩ := e
    refine ⟨i, ib, hi, ha, Or.inr hb, ?_, ?_⟩
    · rcases h1 with ⟨-, -, h⟩ | ⟨-, h, -⟩
      · exact h
      · exact Or.inr h
    · rw [hy, h9]
      dsimp only [hnoX] at h1
      rcases h1 with ⟨e2, e3, -⟩ | ⟨e2, e3, e4⟩
      · simp [flR, hnoX, e2, e3]
      · simp [flR, hnoX, e2, e3, e4]
theorem nI_mulneg {S G : Nat} (h : S * G ≤ 24) : ¬ nI S * nI G < 0 := by rw [pk_mul]; exact nI_pos (by omega)
theorem nI_mulcl {S G : Nat} (h : S * G ≤ 24) : (nI S * nI G).toNatClampNeg = S * G := by rw [pk_mul]; exact nI_clamp (by omega)
-- ===== records, and what carries on =====
def recP (gg : Int32) (w mv nx : Nat → Int32) : Nat → Prop
  | 0 => True
  | n + 1 => (seqR gg w mv nx n).2.2.2.1 < (seqR gg w mv nx (n + 1)).2.1
def cellN (gg : Int32) (w mv nx : Nat → Int32) (i : Nat) : Nat := (500 + (seqR gg w mv nx i).2.1).toNatClampNeg
def leastN (gg : Int32) (w mv nx : Nat → Int32) (a : Nat) : Nat → Nat
  | 0 => cellN gg w mv nx a
  | d + 1 => min (leastN gg w mv nx a d) (cellN gg w mv nx (a + d + 1))
def tapeN (gg : Int32) (w mv nx : Nat → Int32) (i : Nat) : Nat → Int32 := (seqR gg w mv nx i).2.2.2.2.2.2.2
/-- behind b steps it is as behind a, farther on -/
def carP (gg : Int32) (w mv nx : Nat → Int32) (a b : Nat) : Prop := recP gg w mv nx a ∧ recP gg w mv nx b ∧ (seqR gg w mv nx b).1 = (seqR gg w mv nx a).1 ∧ ∀ k, k ≤ cellN gg w mv nx a - leastN gg w mv nx a (b - a) → tapeN gg w mv nx a (cellN gg w mv nx a - k) = tapeN gg w mv nx b (cellN gg w mv nx b - k)
def farP (gg : Int32) (w mv nx : Nat → Int32) (k : Nat) : Prop := ∃ b, 1 ≤ b ∧ b ≤ k ∧ alvR gg w mv nx b ∧ ∃ a, a < b ∧ carP gg w mv nx a b
def backP (gg : Int32) (w mv nx : Nat → Int32) (k : Nat) : Prop := ∃ a b, 1 ≤ b ∧ a + b ≤ k ∧ alvR gg w mv nx (a + b) ∧ alikeR (seqR gg w mv nx (a + b)) (seqR gg w mv nx a)
/-- the numbers behind a run's words -/
theorem seqR_nat {S G n : Nat} {w mv nx : Nat → Int32} (hM : okM S G n w mv nx) (i : Nat) : ∃ lo hi : Nat, (seqR (nI G) w mv nx i).2.1 = nI (cellN (nI G) w mv nx i) - 500 ∧ (seqR (nI G) w mv nx i).2.2.1 = nI lo - 500 ∧ (seqR (nI G) w mv nx i).2.2.2.1 = nI hi - 500 ∧ lo ≤ cellN (nI G) w mv nx i ∧ cellN (nI G) w mv nx i ≤ hi ∧ hi ≤ 1000 := by
  have h := seqR_ok hM i
  unfold cellN
  generalize seqR (nI G) w mv nx i = x at *
  obtain ⟨st, ce, lf, rt, sp, hh, ib, f⟩ := x
  obtain ⟨a, c, lo, hi, rfl, rfl, rfl, rfl, -, h1, h2, h3, h4, h5, -⟩ := h
  refine ⟨lo, hi, ?_, rfl, rfl, ?_, ?_, h5⟩ <;> simp only [cell_nI] <;> rw [nI_clamp (by omega)] <;> assumption
theorem bit_of {gg : Int32} {w mv nx : Nat → Int32} {i : Nat} {x y : RunT} {r : Int32} (hx : x = seqR gg w mv nx i) (hw : (r, y) = stepR gg w mv nx x) : r = bitR gg w mv nx i ∧ y = seqR gg w mv nx (i + 1) := by
  subst hx
  exact ⟨congrArg Prod.fst hw, congrArg Prod.snd hw⟩
theorem cpA {n j : Nat} {w g g' : Nat → Int32} (hn : n < 2 ^ 31) (hj : j < n) (e : g' = upd g (nI j).toNatClampNeg (w (nI j).toNatClampNeg)) (h : ∀ q, g q = if q < j then w q else if q < n then -1 else 0) : ∀ q, g' q = if q < j + 1 then w q else if q < n then -1 else 0 := by
  intro q
  have hc : (nI j).toNatClampNeg = j := nI_clamp (by omega)
  rw [e, hc]
  by_cases hq : q = j
  · subst hq; simp [upd]
  · simp only [upd, if_neg hq]
    rw [h q]
    by_cases h2 : q < j
    · have h5 : q < j + 1 := by omega
      rw [if_pos h2, if_pos h5]
    · have h5 : ¬ q < j + 1 := by omega
      rw [if_neg h2, if_neg h5]
theorem cpB {n j : Nat} {v g g' : Nat → Int32} (hn : n < 2 ^ 31) (hj : j < n) {z : Int32} (e : g' = upd g (nI j).toNatClampNeg z) (h : ∀ q, g q = if q < j then v q else 0) (hz : z = v j) : ∀ q, g' q = if q < j + 1 then v q else 0 := by
  intro q
  have hc : (nI j).toNatClampNeg = j := nI_clamp (by omega)
  rw [e, hc]
  by_cases hq : q = j
  · subst hq; simp [upd, hz]
  · simp only [upd, if_neg hq]
    rw [h q]
    by_cases h2 : q < j
    · rw [if_pos h2, if_pos (by omega)]
    · rw [if_neg h2, if_neg (by omega)]
def hiN (gg : Int32) (w mv nx : Nat → Int32) (i : Nat) : Nat := (500 + (seqR gg w mv nx i).2.2.2.1).toNatClampNeg
theorem seqR_hi {S G n : Nat} {w mv nx : Nat → Int32} (hM : okM S G n w mv nx) (i : Nat) : (seqR (nI G) w mv nx i).2.2.2.1 = nI (hiN (nI G) w mv nx i) - 500 ∧ cellN (nI G) w mv nx i ≤ hiN (nI G) w mv nx i ∧ hiN (nI G) w mv nx i ≤ 1000 := by
  obtain ⟨lo, hi, e1, e2, e3, h1, h2, h3⟩ := seqR_nat hM i
  have e : hiN (nI G) w mv nx i = hi := by unfold hiN; rw [e3, cell_cl (by omega)]
  rw [e]
  exact ⟨e3, h2, h3⟩
theorem seqR_ce {S G n : Nat} {w mv nx : Nat → Int32} (hM : okM S G n w mv nx) (i : Nat) : (seqR (nI G) w mv nx i).2.1 = nI (cellN (nI G) w mv nx i) - 500 := (seqR_nat hM i).choose_spec.choose_spec.1
theorem hiN_succ {S G n : Nat} {w mv nx : Nat → Int32} (hM : okM S G n w mv nx) (i : Nat) : hiN (nI G) w mv nx i ≤ hiN (nI G) w mv nx (i + 1) := by
  have h0 := seqR_hi hM i
  have h1 := seqR_hi hM (i + 1)
  have hc := seqR_ce hM (i + 1)
  have hs : seqR (nI G) w mv nx (i + 1) = (stepR (nI G) w mv nx (seqR (nI G) w mv nx i)).2 := rfl
  rw [stepR_eq] at hs
  split at hs
  · split at hs
    · have e1 : (seqR (nI G) w mv nx (i + 1)).2.2.2.1 = imaxJ (seqR (nI G) w mv nx i).2.2.2.1 (seqR (nI G) w mv nx (i + 1)).2.1 := by rw [hs]; rfl
      rw [h0.1, hc, cN_max (by omega) (by omega), h1.1, cN_eq (by omega) (by omega)] at e1
      omega
    · have e1 : (seqR (nI G) w mv nx (i + 1)).2.2.2.1 = (seqR (nI G) w mv nx i).2.2.2.1 := by rw [hs]; rfl
      rw [h0.1, h1.1, cN_eq (by omega) (by omega)] at e1
      omega
  · have e1 : (seqR (nI G) w mv nx (i + 1)).2.2.2.1 = (seqR (nI G) w mv nx i).2.2.2.1 := by rw [hs]; rfl
    rw [h0.1, h1.1, cN_eq (by omega) (by omega)] at e1
    omega
theorem hiN_le {S G n : Nat} {w mv nx : Nat → Int32} (hM : okM S G n w mv nx) {i j : Nat} (h : i ≤ j) : hiN (nI G) w mv nx i ≤ hiN (nI G) w mv nx j := by
  induction j with
  | zero => have : i = 0 := by omega
            rw [this]; exact Nat.le_refl _
  | succ j ih =>
    rcases Nat.lt_or_ge i (j + 1) with q | q
    · exact Nat.le_trans (ih (by omega)) (hiN_succ hM j)
    · have : i = j + 1 := by omega
      rw [this]; exact Nat.le_refl _
theorem leastN_le (gg : Int32) (w mv nx : Nat → Int32) (a d : Nat) : leastN gg w mv nx a d ≤ cellN gg w mv nx a := by
  induction d with
  | zero => exact Nat.le_refl _
  | succ d ih => exact Nat.le_trans (Nat.min_le_left _ _) ih
theorem recP_lt {S G n : Nat} {w mv nx : Nat → Int32} (hM : okM S G n w mv nx) {a b : Nat} (hab : a < b) (h : recP (nI G) w mv nx b) : cellN (nI G) w mv nx a < cellN (nI G) w mv nx b := by
  cases b with
  | zero => omega
  | succ b =>
    have h2 : (seqR (nI G) w mv nx b).2.2.2.1 < (seqR (nI G) w mv nx (b + 1)).2.1 := h
    have h0 := seqR_hi hM b
    have h1 := seqR_hi hM a
    have h3 := seqR_hi hM (b + 1)
    rw [h0.1, seqR_ce hM (b + 1), cN_lt (by omega) (by omega)] at h2
    have := hiN_le hM (show a ≤ b from by omega)
    omega
theorem cN_sub {a b : Nat} (h : b ≤ a) : (nI a - 500) - (nI b - 500) = nI (a - b) := by
  rw [← pk_sub h]
  simp only [Int32.sub_eq_add_neg, Int32.neg_add, Int32.neg_neg]
  rw [Int32.add_assoc, Int32.add_comm (-nI b) 500, ← Int32.add_assoc (-500), show (-500 : Int32) + 500 = 0 from by decide, Int32.zero_add]
theorem cell_sub {c k : Nat} (h : k ≤ c) : (500 + (nI c - 500)) - nI k = nI (c - k) := by rw [cell_nI, pk_sub h]
theorem least_step {S G n : Nat} {w mv nx : Nat → Int32} (hM : okM S G n w mv nx) {a i : Nat} (h : a ≤ i) {le ce x : Int32} (hl : le = nI (leastN (nI G) w mv nx a (i - a)) - 500) (hc : ce = (seqR (nI G) w mv nx (i + 1)).2.1) (hx : x = iminJ le ce) : x = nI (leastN (nI G) w mv nx a (i + 1 - a)) - 500 := by
  have h1 := seqR_hi hM (i + 1)
  have h2 := seqR_hi hM a
  have h3 := leastN_le (nI G) w mv nx a (i - a)
  rw [hx, hl, hc, seqR_ce hM, cN_min (by omega) (by omega), show i + 1 - a = (i - a) + 1 from by omega]
  simp only [leastN]
  rw [show a + (i - a) + 1 = i + 1 from by omega]
