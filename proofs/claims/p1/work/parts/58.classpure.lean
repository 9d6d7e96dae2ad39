-- ===== the class' runs beside the reference's, over one table =====
def tabJ (S : Nat) (o T : Nat → Int32) : Prop := ∀ s g, s < S → g < 2 → o (s * 4 + g) = T (s * 2 + g)
def mJ (S : Nat) (o T : Nat → Int32) : Prop := okT S T ∧ 1 ≤ S ∧ S ≤ 2 ∧ tabJ S o T
/-- the class' run x is as the reference's y, which has neither halted nor come to its end -/
def relJ (x : RunS) (y : RunT) : Prop := x.1 = y.1 ∧ x.2.1 = y.2.1 ∧ x.2.2.1 = y.2.2.2.2.1 ∧ x.2.2.2.1 = y.2.2.1 ∧ x.2.2.2.2.1 = y.2.2.2.1 ∧ x.2.2.2.2.2.1 = 0 ∧ ∀ q, q < 1001 → x.2.2.2.2.2.2 q = y.2.2.2.2.2.2.2 q
theorem relJ_begin (f : Nat → Int32) : relJ (beginJ f) zeroR := ⟨rfl, rfl, rfl, rfl, rfl, rfl, fun q hq => by show fillJ f 1001 0 q = 0; unfold fillJ; rw [if_pos hq]⟩
theorem ord_tab {S : Nat} {o T : Nat → Int32} (h : tabJ S o T) (h2 : S ≤ 2) {s g : Nat} (hs : s < S) (hg : g < 2) : ordJ 2 2 o (nI s) (nI g) = T (s * 2 + g) := by
  unfold ordJ
  rw [if_neg (nI_pos (by omega)), if_neg (show ¬ (2 : Int32) ≤ nI s from nI_ge (b := 2) (by omega) (by decide)), if_neg (nI_pos (by omega)), if_neg (show ¬ (2 : Int32) ≤ nI g from nI_ge (b := 2) (by omega) (by decide))]
  rw [show nI s * 4 + nI g = nI (s * 4 + g) from by rw [show (4 : Int32) = nI 4 from rfl, pk_mul, nI_add]]
  rw [if_neg (show ¬ (24 : Int32) ≤ nI (s * 4 + g) from nI_ge (b := 24) (by omega) (by decide)), nI_clamp (by omega)]
  exact h s g hs hg
theorem signJ_at {f : Nat → Int32} {c : Nat} (hc : c ≤ 1000) : signJ f (nI c - 500) = f c := by
  unfold signJ
  rw [if_neg (cN_ltm (by omega)), if_neg (fun h => by have := (cN_gt (c := c) (by omega)).mp h; omega), Int32.sub_add_cancel, nI_clamp (by omega)]
theorem writeJ_at {f : Nat → Int32} {c : Nat} {x : Int32} (hc : c ≤ 1000) : writeJ f (nI c - 500) x = upd f c x := by
  unfold writeJ
  rw [if_neg (cN_ltm (by omega)), if_neg (fun h => by have := (cN_gt (c := c) (by omega)).mp h; omega), Int32.sub_add_cancel, nI_clamp (by omega)]
theorem put_at {f : Nat → Int32} {n j : Nat} {i x : Int32} (hi : i = nI j) (hj : j < n) (hn : n < 2 ^ 31) : putJ f n i x = upd f j x := by
  unfold putJ
  rw [hi, if_neg (nI_pos (by omega)), if_neg (show ¬ Int32.ofNat n ≤ nI j from nI_ge hj hn), nI_clamp (by omega)]
theorem at_at {f : Nat → Int32} {n j : Nat} {i : Int32} (hi : i = nI j) (hj : j < n) (hn : n < 2 ^ 31) : atJ f n i = f j := by
  unfold atJ
  rw [hi, if_neg (nI_pos (by omega)), if_neg (show ¬ Int32.ofNat n ≤ nI j from nI_ge hj hn), nI_clamp (by omega)]
theorem tab_none {S : Nat} {T : Nat → Int32} (hT : okT S T) {q : Nat} (hq : q < S * 2) (h6 : S ≤ 6) : cW T q = -1 ↔ T q = 0 := ⟨cW_none hT hq h6, fun h => by unfold cW; rw [if_pos h]⟩
theorem rel_step {S : Nat} {o T : Nat → Int32} (hm : mJ S o T) {n : Nat} (hal : alvR (nI 2) (cW T) (cM T) (cN T) n) {x : RunS} (hr : relJ x (seqR (nI 2) (cW T) (cM T) (cN T) n)) :
    (stepJ 0 2 2 o x).1 = (stepR (nI 2) (cW T) (cM T) (cN T) (seqR (nI 2) (cW T) (cM T) (cN T) n)).1 ∧ ((stepR (nI 2) (cW T) (cM T) (cN T) (seqR (nI 2) (cW T) (cM T) (cN T) n)).1 = 1 → relJ (stepJ 0 2 2 o x).2 (stepR (nI 2) (cW T) (cM T) (cN T) (seqR (nI 2) (cW T) (cM T) (cN T) n)).2) ∧ ((stepR (nI 2) (cW T) (cM T) (cN T) (seqR (nI 2) (cW T) (cM T) (cN T) n)).1 = 0 → (stepJ 0 2 2 o x).2 = x) := by
  obtain ⟨hT, h1, h2, ho⟩ := hm
  have hok : okR S 2 (seqR (nI 2) (cW T) (cM T) (cN T) n) := seqR_ok (okM_T hT h1 (by omega)) n
  have hfl := (seqR_al hal).2
  generalize seqR (nI 2) (cW T) (cM T) (cN T) n = y at hr hok hfl ⊢
  obtain ⟨st, ce, lf, rt, sp, hh, ib, f⟩ := y
  obtain ⟨st', ce', sp', lm, rm, fa, g⟩ := x
  obtain ⟨e1, e2, e3, e4, e5, e6, e7⟩ := hr
  dsimp only at e1 e2 e3 e4 e5 e6 e7 hfl
  obtain ⟨hh0, ib0⟩ := hfl
  obtain ⟨a, c, lo, hi, q1, q2, q3, q4, ha, h3, h4, h5, h6, h7, -, -, h8, h9⟩ := hok
  subst q1 q2 q3 q4 e1 e2 e3 e4 e5 e6 hh0 ib0
  obtain ⟨t, ht, et⟩ := h8 c
  have es : signJ g (nI c - 500) = nI t := by rw [signJ_at (by omega), e7 c (by omega), et]
  have hq : a * 2 + t < S * 2 := by omega
  have ej : ordJ 2 2 o (nI a) (nI t) = T (a * 2 + t) := ord_tab ho h2 ha ht
  have ed : ordR (nI 2) (nI a) (nI c - 500) f = nI (a * 2 + t) := by unfold ordR; rw [cell_nI, nI_clamp (by omega), et, pk_mul, nI_add]
  have hc : (nI (a * 2 + t)).toNatClampNeg = a * 2 + t := nI_clamp (by omega)
  have hn := tab_none hT hq (by omega)
  unfold stepJ stepR
  simp only [es, ej, ed, hc, hnoR, if_true]
  by_cases z : T (a * 2 + t) = 0
  · have hw := hn.mpr z
    simp [z, hw]
  · have hw : ¬ cW T (a * 2 + t) = -1 := fun h => z (hn.mp h)
    have hw2 : cW T (a * 2 + t) = wrJ (T (a * 2 + t)) := by unfold cW; rw [if_neg z]
    simp only [if_neg z, if_neg hw, if_true, true_or, cM, cN]
    by_cases z1 : nI c - 500 + moveJ (T (a * 2 + t)) < -500
    · have z2 : ¬ 500 < nI c - 500 + moveJ (T (a * 2 + t)) := fun h => absurd (Int32.lt_trans h z1) (by decide)
      simp [z1, z2]
    · by_cases z2 : 500 < nI c - 500 + moveJ (T (a * 2 + t))
      · have z3 : ¬ nI c - 500 + moveJ (T (a * 2 + t)) ≤ 500 := Int32.not_le.mpr z2
        simp [z1, z2, z3]
      · have z3 : nI c - 500 + moveJ (T (a * 2 + t)) ≤ 500 := Int32.not_lt.mp z2
        simp only [z1, z2, z3, if_false, not_true_eq_false, if_true]
        refine ⟨trivial, fun _ => ⟨rfl, rfl, rfl, rfl, rfl, rfl, fun q hq9 => ?_⟩, fun h => absurd h (by decide)⟩
        show writeJ g (nI c - 500) (wrJ (T (a * 2 + t))) q = upd f (500 + (nI c - 500)).toNatClampNeg (cW T (a * 2 + t)) q
        rw [writeJ_at (by omega), cell_cl (by omega), hw2]
        by_cases hqc : q = c
        · rw [hqc, pk_us, pk_us]
        · rw [pk_un hqc, pk_un hqc, e7 q hq9]
theorem rel_of {S : Nat} {o T : Nat → Int32} (hm : mJ S o T) {n : Nat} (hal : alvR (nI 2) (cW T) (cM T) (cN T) n) {x y : RunS} {r : Int32} (hr : relJ x (seqR (nI 2) (cW T) (cM T) (cN T) n)) (hw : (r, y) = stepJ 0 2 2 o x) : r = bitR (nI 2) (cW T) (cM T) (cN T) n ∧ (bitR (nI 2) (cW T) (cM T) (cN T) n = 1 → relJ y (seqR (nI 2) (cW T) (cM T) (cN T) (n + 1))) ∧ (bitR (nI 2) (cW T) (cM T) (cN T) n = 0 → y = x) := by
  have h := rel_step hm hal hr
  have h1 : r = (stepJ 0 2 2 o x).1 := congrArg Prod.fst hw
  have h2 : y = (stepJ 0 2 2 o x).2 := congrArg Prod.snd hw
  rw [h1, h2]
  exact h
theorem rel_go {S : Nat} {o T : Nat → Int32} (hm : mJ S o T) (k : Nat) : ∀ (n : Nat) (x : RunS), alvR (nI 2) (cW T) (cM T) (cN T) n → relJ x (seqR (nI 2) (cW T) (cM T) (cN T) n) → ∃ m, m ≤ n + k ∧ alvR (nI 2) (cW T) (cM T) (cN T) m ∧ (m = n + k ∨ bitR (nI 2) (cW T) (cM T) (cN T) m = 0) ∧ relJ (goJ 0 2 2 o k x) (seqR (nI 2) (cW T) (cM T) (cN T) m) := by
  induction k with
  | zero => intro n x h1 h2; exact ⟨n, Nat.le_refl _, h1, Or.inl rfl, h2⟩
  | succ k ih =>
    intro n x h1 h2
    obtain ⟨r, y, e⟩ : ∃ r y, stepJ 0 2 2 o x = (r, y) := ⟨_, _, rfl⟩
    have h := rel_of hm h1 h2 e.symm
    simp only [goJ, e]
    rcases bitR_01 (nI 2) (cW T) (cM T) (cN T) n with hb | hb
    · rw [if_pos (h.1.trans hb), h.2.2 hb]
      exact ⟨n, by omega, h1, Or.inr hb, h2⟩
    · rw [if_neg (by rw [h.1, hb]; decide)]
      obtain ⟨m, h3, h4, h5, h6⟩ := ih (n + 1) y (alvR_succ h1 hb) (h.2.1 hb)
      exact ⟨m, by omega, h4, h5.imp (fun h => by omega) id, h6⟩
/-- how far a table's run of at most k steps goes -/
def lnT (T : Nat → Int32) (k : Nat) : Nat := lenR (nI 2) (cW T) (cM T) (cN T) k
theorem lnT_al (T : Nat → Int32) (k : Nat) : alvR (nI 2) (cW T) (cM T) (cN T) (lnT T k) ∧ lnT T k ≤ k := lenR_al _ _ _ _ k
theorem lnT_ge {T : Nat → Int32} {k b : Nat} (hb : b ≤ k) (ha : alvR (nI 2) (cW T) (cM T) (cN T) b) : b ≤ lnT T k := by
  induction k with
  | zero => omega
  | succ k ih =>
    have h := lnT_al T k
    unfold lnT at ih h ⊢
    simp only [lenR]
    rcases Nat.lt_or_ge k b with q | q
    · have e : b = k + 1 := by omega
      have e2 : lenR (nI 2) (cW T) (cM T) (cN T) k = k := lenR_full.mpr (alvR_le ha (by omega))
      rw [if_pos e2, if_pos (ha k (by omega))]
      omega
    · have h3 := ih q
      split
      · split <;> omega
      · exact h3
theorem lnT_eq {T : Nat → Int32} {k m : Nat} (h1 : m ≤ k) (h2 : alvR (nI 2) (cW T) (cM T) (cN T) m) (h3 : m = k ∨ bitR (nI 2) (cW T) (cM T) (cN T) m = 0) : lnT T k = m := lenR_eq h1 h2 h3
theorem rel_fin {S : Nat} {o T : Nat → Int32} (hm : mJ S o T) (k : Nat) (f : Nat → Int32) : relJ (goJ 0 2 2 o k (beginJ f)) (finX T k) := by
  obtain ⟨m, h1, h2, h3, h4⟩ := rel_go hm k 0 (beginJ f) (fun i hi => absurd hi (Nat.not_lt_zero i)) (relJ_begin f)
  have e := lnT_eq (T := T) (k := k) (m := m) (by omega) h2 (h3.imp (fun h => by omega) id)
  unfold finX
  rw [show lenR (nI 2) (cW T) (cM T) (cN T) k = m from e]
  exact h4
theorem rel_halt {S : Nat} {o T : Nat → Int32} (hm : mJ S o T) {x : RunS} {y : RunT} (hr : relJ x y) (hok : okR S 2 y) : haltJ 2 2 o x = hnoX (nI 2) (cW T) y := by
  obtain ⟨hT, h1, h2, ho⟩ := hm
  obtain ⟨st, ce, lf, rt, sp, hh, ib, f⟩ := y
  obtain ⟨st', ce', sp', lm, rm, fa, g⟩ := x
  obtain ⟨e1, e2, e3, e4, e5, e6, e7⟩ := hr
  dsimp only at e1 e2 e3 e4 e5 e6 e7
  obtain ⟨a, c, lo, hi, q1, q2, q3, q4, ha, h3, h4, h5, h6, h7, -, -, h8, h9⟩ := hok
  subst q1 q2 q3 q4 e1 e2 e3 e4 e5 e6
  obtain ⟨t, ht, et⟩ := h8 c
  have es : signJ g (nI c - 500) = nI t := by rw [signJ_at (by omega), e7 c (by omega), et]
  have hq : a * 2 + t < S * 2 := by omega
  have ej : ordJ 2 2 o (nI a) (nI t) = T (a * 2 + t) := ord_tab ho h2 ha ht
  have ed : ordR (nI 2) (nI a) (nI c - 500) f = nI (a * 2 + t) := by unfold ordR; rw [cell_nI, nI_clamp (by omega), et, pk_mul, nI_add]
  have hc : (nI (a * 2 + t)).toNatClampNeg = a * 2 + t := nI_clamp (by omega)
  have hn := tab_none hT hq (by omega)
  simp only [haltJ, hnoX, hnoR, es, ej, ed, hc, if_true]
  by_cases z : T (a * 2 + t) = 0
  · rw [if_pos z, if_pos (hn.mpr z)]
  · rw [if_neg z, if_neg (fun h => z (hn.mp h))]
theorem rel_bd {S G : Nat} {x : RunS} {y : RunT} (hr : relJ x y) (hok : okR S G y) : ∃ lo hi c : Nat, x.2.2.2.1 = nI lo - 500 ∧ x.2.2.2.2.1 = nI hi - 500 ∧ x.2.1 = nI c - 500 ∧ lo ≤ c ∧ c ≤ hi ∧ hi ≤ 1000 ∧ lo ≤ 500 ∧ 500 ≤ hi := by
  obtain ⟨st, ce, lf, rt, sp, hh, ib, f⟩ := y
  obtain ⟨e1, e2, e3, e4, e5, e6, e7⟩ := hr
  obtain ⟨a, c, lo, hi, q1, q2, q3, q4, ha, h3, h4, h5, h6, h7, -⟩ := hok
  exact ⟨lo, hi, c, e4.trans q3, e5.trans q4, e2.trans q2, h3, h4, h7, h5, h6⟩
theorem cntN_eq {f g : Nat → Int32} {lo m : Nat} (h : ∀ q, q < 1001 → f q = g q) (h2 : lo + m ≤ 1001) : cntN f lo m = cntN g lo m := by
  induction m with
  | zero => rfl
  | succ m ih => simp only [cntN]; rw [ih (by omega), h (lo + m) (by omega)]
theorem marks_eq {f g : Nat → Int32} {lo hi : Nat} (h : ∀ q, q < 1001 → f q = g q) (h1 : lo ≤ 1000) (h2 : hi ≤ 1000) : marksR (nI lo - 500) (nI hi - 500) f = marksR (nI lo - 500) (nI hi - 500) g := by
  unfold marksR
  rw [cell_cl (by omega), cell_cl (by omega)]
  rcases Nat.lt_or_ge hi lo with q | q
  · rw [show hi + 1 - lo = 0 from by omega]; rfl
  · exact cntN_eq h (by omega)
-- ===== what a step leaves of the tape; how many cells are unlike =====
theorem tape_step {gg : Int32} {w mv nx : Nat → Int32} {i : Nat} (hb : bitR gg w mv nx i = 1) {q : Nat} (hq : q ≠ cellN gg w mv nx i) : tapeN gg w mv nx (i + 1) q = tapeN gg w mv nx i q := by
  unfold bitR at hb
  have hs : seqR gg w mv nx (i + 1) = (stepR gg w mv nx (seqR gg w mv nx i)).2 := rfl
  unfold tapeN cellN at *
  rw [hs]
  generalize seqR gg w mv nx i = x at *
  rw [stepR_eq] at hb ⊢
  rcases hhR_01 gg w x with c1 | c1
  · rcases ibR_01 gg w mv x with c2 | c2
    · rw [if_pos c1, if_pos c2]; exact pk_un hq
    · rw [if_pos c1, if_neg (by rw [c2]; decide)] at hb; exact absurd (show (0 : Int32) = 1 from hb) (by decide)
  · rw [if_neg (by rw [c1]; decide)] at hb; exact absurd (show (0 : Int32) = 1 from hb) (by decide)
def dfN (g f : Nat → Int32) : Nat → Nat
  | 0 => 0
  | m + 1 => dfN g f m + (if g m = f m then 0 else 1)
theorem df_zero {g f : Nat → Int32} {m : Nat} : dfN g f m = 0 ↔ ∀ q, q < m → g q = f q := by
  induction m with
  | zero => exact ⟨fun _ q h => absurd h (Nat.not_lt_zero _), fun _ => rfl⟩
  | succ m ih =>
    simp only [dfN]
    by_cases z : g m = f m
    · rw [if_pos z, Nat.add_zero, ih]
      exact ⟨fun h q hq => by rcases Nat.lt_or_ge q m with y | y; exact h q y; (have : q = m := by omega); rw [this]; exact z, fun h q hq => h q (by omega)⟩
    · rw [if_neg z]
      exact ⟨fun h => by omega, fun h => absurd (h m (by omega)) z⟩
theorem df_le {g f : Nat → Int32} {m : Nat} : dfN g f m ≤ m := by
  induction m with
  | zero => exact Nat.le_refl _
  | succ m ih => simp only [dfN]; split <;> omega
theorem df_out {g f : Nat → Int32} {m c : Nat} {v : Int32} (h : m ≤ c) : dfN (upd g c v) f m = dfN g f m := by
  induction m with
  | zero => rfl
  | succ m ih => simp only [dfN]; rw [ih (by omega), pk_un (by omega)]
theorem df_upd {g f : Nat → Int32} {m c : Nat} {v : Int32} (h : c < m) : dfN (upd g c v) f m + (if g c = f c then 0 else 1) = dfN g f m + (if v = f c then 0 else 1) := by
  induction m with
  | zero => omega
  | succ m ih =>
    simp only [dfN]
    rcases Nat.lt_or_ge c m with q | q
    · have := ih q
      rw [pk_un (show m ≠ c by omega)]
      omega
    · have e : c = m := by omega
      subst e
      rw [df_out (Nat.le_refl _), pk_us]
      omega
theorem un_eq {d d' a b : Nat} {x y : Int32} (h : d' + a = d + b) (hx : x = nI d - nI a) (hy : y = x + nI b) : y = nI d' := by
  have e : nI d + nI b = nI d' + nI a := by rw [nI_add, nI_add, h]
  have e2 : nI d - nI a + nI b = (nI d + nI b) - nI a := by simp only [Int32.sub_eq_add_neg]; rw [Int32.add_assoc, Int32.add_comm (-nI a), ← Int32.add_assoc]
  rw [hy, hx, e2, e, Int32.add_sub_cancel]
theorem al_iff {S G n : Nat} {w mv nx : Nat → Int32} (hM : okM S G n w mv nx) (i j : Nat) : alikeR (seqR (nI G) w mv nx i) (seqR (nI G) w mv nx j) ↔ (seqR (nI G) w mv nx i).1 = (seqR (nI G) w mv nx j).1 ∧ (seqR (nI G) w mv nx i).2.1 = (seqR (nI G) w mv nx j).2.1 ∧ ∀ q, q < 1001 → tapeN (nI G) w mv nx i q = tapeN (nI G) w mv nx j q := by
  constructor
  · intro h; exact ⟨h.1, h.2.1, fun q _ => congrFun h.2.2 q⟩
  · rintro ⟨h1, h2, h3⟩
    refine ⟨h1, h2, funext fun q => ?_⟩
    rcases Nat.lt_or_ge q 1001 with z | z
    · exact h3 q z
    · have k1 := seqR_ok hM i
      have k2 := seqR_ok hM j
      generalize seqR (nI G) w mv nx i = x at *
      generalize seqR (nI G) w mv nx j = y at *
      obtain ⟨st, ce, lf, rt, sp, hh, ib, f⟩ := x
      obtain ⟨st2, ce2, lf2, rt2, sp2, hh2, ib2, f2⟩ := y
      obtain ⟨a, c, lo, hi, -, -, -, -, -, -, -, -, -, e1, -, -, -, e2⟩ := k1
      obtain ⟨a', c', lo', hi', -, -, -, -, -, -, -, -, -, e3, -, -, -, e4⟩ := k2
      show f q = f2 q
      rw [e2 q (by omega), e4 q (by omega)]
/-- what is written down of a run of n steps -/
def wdP (T : Nat → Int32) (n : Nat) (C St Rd : Nat → Int32) : Prop := (∀ j, j ≤ n → C j = (seqR (nI 2) (cW T) (cM T) (cN T) j).2.1) ∧ (∀ j, j ≤ n → St j = (seqR (nI 2) (cW T) (cM T) (cN T) j).1) ∧ ∀ j, j < n → Rd j = tapeN (nI 2) (cW T) (cM T) (cN T) j (cellN (nI 2) (cW T) (cM T) (cN T) j)
theorem wdP_zero {T C St Rd : Nat → Int32} (h1 : C 0 = 0) (h2 : St 0 = 0) : wdP T 0 C St Rd := by
  refine ⟨fun j hj => ?_, fun j hj => ?_, fun j hj => absurd hj (Nat.not_lt_zero j)⟩
  · have : j = 0 := by omega
    subst this; exact h1
  · have : j = 0 := by omega
    subst this; exact h2
theorem wdP_read {T C St Rd : Nat → Int32} {n : Nat} {v : Int32} (h : wdP T n C St Rd) : wdP T n C St (upd Rd n v) := ⟨h.1, h.2.1, fun j hj => by rw [pk_un (by omega)]; exact h.2.2 j hj⟩
theorem wdP_succ {T C St Rd : Nat → Int32} {n : Nat} {v x y : Int32} (h : wdP T n C St Rd) (hv : v = tapeN (nI 2) (cW T) (cM T) (cN T) n (cellN (nI 2) (cW T) (cM T) (cN T) n)) (hx : x = (seqR (nI 2) (cW T) (cM T) (cN T) (n + 1)).2.1) (hy : y = (seqR (nI 2) (cW T) (cM T) (cN T) (n + 1)).1) : wdP T (n + 1) (upd C (n + 1) x) (upd St (n + 1) y) (upd Rd n v) := by
  refine ⟨fun j hj => ?_, fun j hj => ?_, fun j hj => ?_⟩
  · by_cases e : j = n + 1
    · rw [e, pk_us, hx]
    · rw [pk_un e]; exact h.1 j (by omega)
  · by_cases e : j = n + 1
    · rw [e, pk_us, hy]
    · rw [pk_un e]; exact h.2.1 j (by omega)
  · by_cases e : j = n
    · rw [e, pk_us, hv]
    · rw [pk_un e]; exact h.2.2 j (by omega)
/-- the tape one step back -/
theorem tape_back {T : Nat → Int32} {i : Nat} {g : Nat → Int32} (hb : bitR (nI 2) (cW T) (cM T) (cN T) i = 1) (h : ∀ q, q < 1001 → g q = tapeN (nI 2) (cW T) (cM T) (cN T) (i + 1) q) : ∀ q, q < 1001 → upd g (cellN (nI 2) (cW T) (cM T) (cN T) i) (tapeN (nI 2) (cW T) (cM T) (cN T) i (cellN (nI 2) (cW T) (cM T) (cN T) i)) q = tapeN (nI 2) (cW T) (cM T) (cN T) i q := by
  intro q hq
  by_cases e : q = cellN (nI 2) (cW T) (cM T) (cN T) i
  · rw [e, pk_us]
  · rw [pk_un e, h q hq]; exact tape_step hb e
-- ===== the side on which a run goes farther =====
def sdP (T : Nat → Int32) (σ : Int32) (Q : Nat → Int32) : Prop := (σ = 1 ∧ Q = cM T) ∨ (σ = -1 ∧ Q = mirM (cM T))
theorem sd_okM {S : Nat} {T Q : Nat → Int32} {σ : Int32} (hT : okT S T) (h1 : 1 ≤ S) (h6 : S ≤ 6) (h : sdP T σ Q) : okM S 2 (S * 2) (cW T) Q (cN T) := by
  rcases h with ⟨-, rfl⟩ | ⟨-, rfl⟩
  · exact okM_T hT h1 h6
  · exact okM_mir (okM_T hT h1 h6)
theorem sd_al {S : Nat} {T Q : Nat → Int32} {σ : Int32} (hT : okT S T) (h1 : 1 ≤ S) (h6 : S ≤ 6) (h : sdP T σ Q) (i : Nat) : alvR (nI 2) (cW T) Q (cN T) i ↔ alvR (nI 2) (cW T) (cM T) (cN T) i := by
  rcases h with ⟨-, rfl⟩ | ⟨-, rfl⟩
  · exact Iff.rfl
  · exact mir_alv (okM_T hT h1 h6) i
theorem sd_st {S : Nat} {T Q : Nat → Int32} {σ : Int32} (hT : okT S T) (h1 : 1 ≤ S) (h6 : S ≤ 6) (h : sdP T σ Q) (i : Nat) : (seqR (nI 2) (cW T) Q (cN T) i).1 = (seqR (nI 2) (cW T) (cM T) (cN T) i).1 := by
  rcases h with ⟨-, rfl⟩ | ⟨-, rfl⟩
  · rfl
  · exact (mirP_seq (okM_T hT h1 h6) i).1
theorem mul_m1 (x : Int32) : x * -1 = -x := by rw [Int32.mul_neg, Int32.mul_one]
theorem sd_ce {S : Nat} {T Q : Nat → Int32} {σ : Int32} (hT : okT S T) (h1 : 1 ≤ S) (h6 : S ≤ 6) (h : sdP T σ Q) (i : Nat) : (seqR (nI 2) (cW T) (cM T) (cN T) i).2.1 * σ = (seqR (nI 2) (cW T) Q (cN T) i).2.1 := by
  rcases h with ⟨rfl, rfl⟩ | ⟨rfl, rfl⟩
  · exact Int32.mul_one _
  · rw [mul_m1]; exact (mirP_seq (okM_T hT h1 h6) i).2.1.symm
theorem sd_sign {S : Nat} {T Q : Nat → Int32} {σ : Int32} (hT : okT S T) (h1 : 1 ≤ S) (h6 : S ≤ 6) (h : sdP T σ Q) {i k : Nat} (hk : k ≤ cellN (nI 2) (cW T) Q (cN T) i) {f : Nat → Int32} (hf : ∀ q, q < 1001 → f q = tapeN (nI 2) (cW T) (cM T) (cN T) i q) : signJ f ((seqR (nI 2) (cW T) (cM T) (cN T) i).2.1 - nI k * σ) = tapeN (nI 2) (cW T) Q (cN T) i (cellN (nI 2) (cW T) Q (cN T) i - k) := by
  have hM := sd_okM hT h1 h6 h
  have hc := seqR_hi hM i
  have hx := seqR_ce hM i
  rcases h with ⟨rfl, rfl⟩ | ⟨rfl, rfl⟩
  · rw [hx, Int32.mul_one, show nI (cellN (nI 2) (cW T) (cM T) (cN T) i) - 500 - nI k = nI (cellN (nI 2) (cW T) (cM T) (cN T) i - k) - 500 from by rw [← pk_sub hk]; simp only [Int32.sub_eq_add_neg]; rw [Int32.add_assoc, Int32.add_comm (-500), ← Int32.add_assoc], signJ_at (by omega), hf _ (by omega)]
  · have hm := mirP_seq (okM_T hT h1 h6) i
    have e1 : (seqR (nI 2) (cW T) (cM T) (cN T) i).2.1 = nI (1000 - cellN (nI 2) (cW T) (mirM (cM T)) (cN T) i) - 500 := by
      have h9 := hm.2.1
      rw [hx] at h9
      rw [← neg_cell (by omega), h9, Int32.neg_neg]
    rw [e1, mul_m1, show nI (1000 - cellN (nI 2) (cW T) (mirM (cM T)) (cN T) i) - 500 - -nI k = nI (1000 - cellN (nI 2) (cW T) (mirM (cM T)) (cN T) i + k) - 500 from by rw [← nI_add]; simp only [Int32.sub_eq_add_neg, Int32.neg_neg]; rw [Int32.add_assoc, Int32.add_comm (-500), ← Int32.add_assoc], signJ_at (by omega), hf _ (by omega)]
    have h9 := hm.2.2.2.2.2.2.2 (cellN (nI 2) (cW T) (mirM (cM T)) (cN T) i - k) (by omega)
    unfold tapeN
    rw [h9]
    exact congrArg _ (show 1000 - cellN (nI 2) (cW T) (mirM (cM T)) (cN T) i + k = 1000 - (cellN (nI 2) (cW T) (mirM (cM T)) (cN T) i - k) by omega)
theorem least_left (gg : Int32) (w mv nx : Nat → Int32) (a d : Nat) : leastN gg w mv nx a (d + 1) = min (cellN gg w mv nx a) (leastN gg w mv nx (a + 1) d) := by
  induction d with
  | zero => rfl
  | succ d ih =>
    show min (leastN gg w mv nx a (d + 1)) (cellN gg w mv nx (a + (d + 1) + 1)) = min _ (min (leastN gg w mv nx (a + 1) d) (cellN gg w mv nx (a + 1 + d + 1)))
    rw [ih, show a + (d + 1) + 1 = a + 1 + d + 1 from by omega]
    omega
theorem least_go {S n : Nat} {w mv nx : Nat → Int32} (hM : okM S 2 n w mv nx) {s e : Nat} (h : s < e) {x le ce : Int32} (hl : le = nI (leastN (nI 2) w mv nx (s + 1) (e - (s + 1))) - 500) (hc : ce = (seqR (nI 2) w mv nx s).2.1) (hx : x = iminJ le ce) : x = nI (leastN (nI 2) w mv nx s (e - s)) - 500 := by
  have h1 := seqR_hi hM s
  have h2 := seqR_hi hM (s + 1)
  have h3 := leastN_le (nI 2) w mv nx (s + 1) (e - (s + 1))
  rw [hx, hl, hc, seqR_ce hM, cN_min (by omega) (by omega), show e - s = (e - (s + 1)) + 1 from by omega, least_left]
  rw [Nat.min_comm]
/-- the first m of a row are the records up to i, in order -/
def frP (gg : Int32) (w mv nx : Nat → Int32) (i m : Nat) (F : Nat → Int32) : Prop := (∀ q, q < m → ∃ b, b ≤ i ∧ recP gg w mv nx b ∧ F q = nI b) ∧ (∀ b, b ≤ i → recP gg w mv nx b → ∃ q, q < m ∧ F q = nI b) ∧ ∀ q q' b b', q < q' → q' < m → F q = nI b → F q' = nI b' → b ≤ i → b' ≤ i → b < b'
theorem frP_zero {gg : Int32} {w mv nx F : Nat → Int32} (h : F 0 = 0) : frP gg w mv nx 0 1 F := by
  refine ⟨fun q hq => ⟨0, Nat.le_refl _, trivial, ?_⟩, fun b hb _ => ⟨0, by omega, ?_⟩, fun q q' b b' h1 h2 => by omega⟩
  · have : q = 0 := by omega
    rw [this, h]; rfl
  · have : b = 0 := by omega
    rw [this, h]; rfl
theorem frP_skip {gg : Int32} {w mv nx F : Nat → Int32} {i m : Nat} (hi : i < 2 ^ 30) (h : frP gg w mv nx i m F) (h2 : ¬ recP gg w mv nx (i + 1)) : frP gg w mv nx (i + 1) m F := by
  have hb : ∀ q b, q < m → F q = nI b → b ≤ i + 1 → b ≤ i := fun q b hq e h3 => by
    obtain ⟨b2, h4, -, h5⟩ := h.1 q hq
    rw [e, nI_eq (by omega) (by omega)] at h5
    omega
  refine ⟨fun q hq => ?_, fun b hb hr => ?_, fun q q' b b' h3 h4 h5 h6 h7 h8 => h.2.2 q q' b b' h3 h4 h5 h6 (hb q b (by omega) h5 h7) (hb q' b' h4 h6 h8)⟩
  · obtain ⟨b, h3, h4⟩ := h.1 q hq
    exact ⟨b, by omega, h4⟩
  · rcases Nat.lt_or_ge i b with q | q
    · have : b = i + 1 := by omega
      rw [this] at hr
      exact absurd hr h2
    · exact h.2.1 b q hr
theorem frP_push {gg : Int32} {w mv nx F : Nat → Int32} {i m : Nat} (hi : i < 2 ^ 30) (h : frP gg w mv nx i m F) (h2 : recP gg w mv nx (i + 1)) : frP gg w mv nx (i + 1) (m + 1) (upd F m (nI (i + 1))) := by
  have hb : ∀ q b, q < m → F q = nI b → b ≤ i + 1 → b ≤ i := fun q b hq e h3 => by
    obtain ⟨b2, h4, -, h5⟩ := h.1 q hq
    rw [e, nI_eq (by omega) (by omega)] at h5
    omega
  refine ⟨fun q hq => ?_, fun b hb hr => ?_, fun q q' b b' h3 h4 h5 h6 h7 h8 => ?_⟩
  · by_cases e : q = m
    · exact ⟨i + 1, Nat.le_refl _, h2, by rw [e, pk_us]⟩
    · obtain ⟨b, h3, h4⟩ := h.1 q (by omega)
      exact ⟨b, by omega, by rw [pk_un e]; exact h4⟩
  · rcases Nat.lt_or_ge i b with q | q
    · have : b = i + 1 := by omega
      exact ⟨m, by omega, by rw [this, pk_us]⟩
    · obtain ⟨q2, h3, h4⟩ := h.2.1 b q hr
      exact ⟨q2, by omega, by rw [pk_un (by omega)]; exact h4⟩
  · rw [pk_un (show q ≠ m by omega)] at h5
    have h9 := hb q b (by omega) h5 h7
    by_cases e : q' = m
    · rw [e, pk_us, nI_eq (by omega) (by omega)] at h6
      omega
    · rw [pk_un e] at h6
      exact h.2.2 q q' b b' h3 (by omega) h5 h6 h9 (hb q' b' (by omega) h6 h8)
theorem rel_sign {S : Nat} {o T : Nat → Int32} (hm : mJ S o T) {i : Nat} {x : RunS} (hr : relJ x (seqR (nI 2) (cW T) (cM T) (cN T) i)) : signJ x.2.2.2.2.2.2 x.2.1 = tapeN (nI 2) (cW T) (cM T) (cN T) i (cellN (nI 2) (cW T) (cM T) (cN T) i) := by
  have hM := okM_T hm.1 hm.2.1 (by have := hm.2.2.1; omega)
  have h := seqR_hi hM i
  rw [hr.2.1, seqR_ce hM, signJ_at (by omega)]
  exact hr.2.2.2.2.2.2 _ (by omega)
theorem neg_pred {j : Nat} (hj : j < 2 ^ 31) : nI j - 1 < 0 ↔ j = 0 := by
  constructor
  · intro h
    rcases Nat.eq_zero_or_pos j with z | z
    · exact z
    · obtain ⟨i, rfl⟩ : ∃ i, j = i + 1 := ⟨j - 1, by omega⟩
      rw [nI_pred] at h
      exact absurd h (nI_pos (by omega))
  · rintro rfl; decide
/-- an order told, or untold -/
def setJ (ss gg : Int32) (o : Nat → Int32) (tl a b od : Int32) : Int32 × (Nat → Int32) := if hasJ ss gg a b = 0 then (tl, o) else (tl + ((if od = 0 then 0 else 1) - (if ordJ ss gg o a b = 0 then 0 else 1)), putJ o 24 (a * 4 + b) od)
-- ===== farther on: what the class compares =====
theorem like_car {S : Nat} {T Q : Nat → Int32} {σ : Int32} (hT : okT S T) (h1 : 1 ≤ S) (h6 : S ≤ 6) (h : sdP T σ Q) {b e : Nat} (hbe : b < e) (hrb : recP (nI 2) (cW T) Q (cN T) b) (hre : recP (nI 2) (cW T) Q (cN T) e) (hst : (seqR (nI 2) (cW T) (cM T) (cN T) e).1 = (seqR (nI 2) (cW T) (cM T) (cN T) b).1) {nf g : Nat → Int32} {ce cb : Int32} (hce : ce = (seqR (nI 2) (cW T) (cM T) (cN T) e).2.1) (hcb : cb = (seqR (nI 2) (cW T) (cM T) (cN T) b).2.1) (hnf : ∀ q, q < 1001 → nf q = tapeN (nI 2) (cW T) (cM T) (cN T) e q) (hg : ∀ q, q < 1001 → g q = tapeN (nI 2) (cW T) (cM T) (cN T) b q) :
    carP (nI 2) (cW T) Q (cN T) b e ↔ ∀ k, k < cellN (nI 2) (cW T) Q (cN T) b - leastN (nI 2) (cW T) Q (cN T) b (e - b) + 1 → signJ nf (ce - nI k * σ) = signJ g (cb - nI k * σ) := by
  have hM := sd_okM hT h1 h6 h
  have hlt := recP_lt hM hbe hre
  have key : ∀ k, k ≤ cellN (nI 2) (cW T) Q (cN T) b - leastN (nI 2) (cW T) Q (cN T) b (e - b) → (signJ nf (ce - nI k * σ) = tapeN (nI 2) (cW T) Q (cN T) e (cellN (nI 2) (cW T) Q (cN T) e - k) ∧ signJ g (cb - nI k * σ) = tapeN (nI 2) (cW T) Q (cN T) b (cellN (nI 2) (cW T) Q (cN T) b - k)) := by
    intro k hk
    rw [hce, hcb]
    exact ⟨sd_sign hT h1 h6 h (by omega) hnf, sd_sign hT h1 h6 h (by omega) hg⟩
  constructor
  · intro hc k hk
    have h2 := key k (by omega)
    rw [h2.1, h2.2]
    exact (hc.2.2.2 k (by omega)).symm
  · intro hl
    refine ⟨hrb, hre, ?_, fun k hk => ?_⟩
    · rw [sd_st hT h1 h6 h, sd_st hT h1 h6 h]; exact hst
    · have h2 := key k hk
      have h3 := hl k (by omega)
      rw [h2.1, h2.2] at h3
      exact h3.symm
theorem not_car {S : Nat} {T Q : Nat → Int32} {σ : Int32} (hT : okT S T) (h1 : 1 ≤ S) (h6 : S ≤ 6) (h : sdP T σ Q) {b e : Nat} (hst : ¬ (seqR (nI 2) (cW T) (cM T) (cN T) e).1 = (seqR (nI 2) (cW T) (cM T) (cN T) b).1) : ¬ carP (nI 2) (cW T) Q (cN T) b e := by
  intro hc
  have h2 := hc.2.2.1
  rw [sd_st hT h1 h6 h, sd_st hT h1 h6 h] at h2
  exact hst h2
theorem rt_step {gg : Int32} {w mv nx : Nat → Int32} {i : Nat} (hb : bitR gg w mv nx i = 1) : (seqR gg w mv nx (i + 1)).2.2.2.1 = imaxJ (seqR gg w mv nx i).2.2.2.1 (seqR gg w mv nx (i + 1)).2.1 := by
  unfold bitR at hb
  have hs : seqR gg w mv nx (i + 1) = (stepR gg w mv nx (seqR gg w mv nx i)).2 := rfl
  rw [hs]
  generalize seqR gg w mv nx i = x at *
  rw [stepR_eq] at hb ⊢
  rcases hhR_01 gg w x with c1 | c1
  · rcases ibR_01 gg w mv x with c2 | c2
    · rw [if_pos c1, if_pos c2]; rfl
    · rw [if_pos c1, if_neg (by rw [c2]; decide)] at hb; exact absurd (show (0 : Int32) = 1 from hb) (by decide)
  · rw [if_neg (by rw [c1]; decide)] at hb; exact absurd (show (0 : Int32) = 1 from hb) (by decide)
theorem noF_more {gg : Int32} {w mv nx : Nat → Int32} {i : Nat} (h : noF gg w mv nx i) (h2 : ∀ a, a < i + 1 → ¬ carP gg w mv nx a (i + 1)) : noF gg w mv nx (i + 1) := by
  intro b a h3 h4
  rcases Nat.lt_or_ge i b with q | q
  · have e : b = i + 1 := by omega
    rw [e]; exact h2 a (by omega)
  · exact h b a q h4
theorem far_no {S : Nat} {T Q : Nat → Int32} {σ : Int32} (hT : okT S T) (h1 : 1 ≤ S) (h6 : S ≤ 6) (h : sdP T σ Q) (k : Nat) : farP (nI 2) (cW T) Q (cN T) k ↔ ¬ noF (nI 2) (cW T) Q (cN T) (lnT T k) := by
  constructor
  · rintro ⟨b, h3, h4, h5, a, h7, h8⟩ hn
    exact hn b a (lnT_ge h4 ((sd_al hT h1 h6 h b).mp h5)) h7 h8
  · intro hn
    have hln := lnT_al T k
    refine Classical.byContradiction fun hc => hn fun b a h3 h4 h5 => hc ⟨b, by omega, by omega, (sd_al hT h1 h6 h b).mpr (alvR_le hln.1 h3), a, h4, h5⟩
-- ===== the class' listing: what is told, how many states are used =====
theorem rel_marks {S G : Nat} {x : RunS} {y : RunT} (hr : relJ x y) (hok : okR S G y) : marksR x.2.2.2.1 x.2.2.2.2.1 x.2.2.2.2.2.2 = marksR y.2.2.1 y.2.2.2.1 y.2.2.2.2.2.2.2 := by
  obtain ⟨lo, hi, c, h1, h2, h3, h4, h5, h6, h7, h8⟩ := rel_bd hr hok
  rw [← hr.2.2.2.1, ← hr.2.2.2.2.1, h1, h2]
  exact marks_eq hr.2.2.2.2.2.2 (by omega) (by omega)
theorem miss_at {S : Nat} (h6 : S ≤ 6) {x : RunS} {y : RunT} (hr : relJ x y) (hok : okR S 2 y) : ∃ a t : Nat, a < S ∧ t < 2 ∧ x.1 = nI a ∧ signJ x.2.2.2.2.2.2 x.2.1 = nI t ∧ orX y = a * 2 + t := by
  obtain ⟨st, ce, lf, rt, sp, hh, ib, f⟩ := y
  obtain ⟨e1, e2, e3, e4, e5, e6, e7⟩ := hr
  obtain ⟨a, c, lo, hi, q1, q2, q3, q4, ha, h3, h4, h5, h6', h7, -, -, h8, h9⟩ := hok
  obtain ⟨t, ht, et⟩ := h8 c
  dsimp only at e1 e2 e7
  refine ⟨a, t, ha, ht, e1.trans q1, ?_, ?_⟩
  · rw [e2, q2, signJ_at (by omega), e7 c (by omega), et]
  · unfold orX ordR
    dsimp only
    rw [q1, q2, cell_nI, nI_clamp (by omega), et, pk_mul, nI_add, nI_clamp (by omega)]
def usP (S : Nat) (T : Nat → Int32) (us : Nat) : Prop := 1 ≤ us ∧ us ≤ S ∧ (∀ q, q < S * 2 → ¬ T q = 0 → q / 2 < us ∧ ∃ j, j < us ∧ cN T q = nI j) ∧ (us = 1 ∨ ∃ q, q < S * 2 ∧ ¬ T q = 0 ∧ cN T q = nI (us - 1))
theorem usP_zero {S : Nat} (h : 1 ≤ S) : usP S (fun _ => 0) 1 := ⟨Nat.le_refl _, h, fun q hq h9 => absurd rfl h9, Or.inl rfl⟩
theorem st_us {S us : Nat} {T : Nat → Int32} (hT : okT S T) (h1 : 1 ≤ S) (h6 : S ≤ 6) (hu : usP S T us) (n : Nat) : ∃ a, a < us ∧ (seqR (nI 2) (cW T) (cM T) (cN T) n).1 = nI a := by
  induction n with
  | zero => exact ⟨0, hu.1, rfl⟩
  | succ n ih =>
    have hM := okM_T hT h1 h6
    have hok := seqR_ok hM n
    have hs : seqR (nI 2) (cW T) (cM T) (cN T) (n + 1) = (stepR (nI 2) (cW T) (cM T) (cN T) (seqR (nI 2) (cW T) (cM T) (cN T) n)).2 := rfl
    rw [hs]
    generalize seqR (nI 2) (cW T) (cM T) (cN T) n = x at *
    obtain ⟨st, ce, lf, rt, sp, hh, ib, f⟩ := x
    obtain ⟨k, hk, ek⟩ := okR_ord hM hok
    have hkc : (nI k).toNatClampNeg = k := nI_clamp (by omega)
    rw [stepR_eq]
    by_cases c1 : hhR (nI 2) (cW T) (st, ce, lf, rt, sp, hh, ib, f) = 0
    · rw [if_pos c1]
      have hw := hhR_w (k := k) c1 (by show (ordR (nI 2) st ce f).toNatClampNeg = k; rw [ek, hkc])
      have ht : ¬ T k = 0 := fun h => hw (by unfold cW; rw [if_pos h])
      by_cases c2 : ibR (nI 2) (cW T) (cM T) (st, ce, lf, rt, sp, hh, ib, f) = 0
      · rw [if_pos c2]
        obtain ⟨j, hj, ej⟩ := (hu.2.2.1 k hk ht).2
        refine ⟨j, hj, ?_⟩
        show cN T (ordR (nI 2) st ce f).toNatClampNeg = nI j
        rw [ek, hkc, ej]
      · rw [if_neg c2]; exact ih
    · rw [if_neg c1]; exact ih
theorem top_le {S us : Nat} {T : Nat → Int32} (hT : okT S T) (h6 : S ≤ 6) (hu : usP S T us) {a : Nat} (ha : a < us) (q : Nat) (hq : q ≤ S * 2) : ∃ b, b < us ∧ topL T q (nI a) = nI b ∧ ∀ q', q' < q → ¬ T q' = 0 → ∀ j, j < us → cN T q' = nI j → j ≤ b := by
  have hus := hu.2.1
  induction q with
  | zero => exact ⟨a, ha, rfl, fun q' h => absurd h (Nat.not_lt_zero _)⟩
  | succ q ih =>
    obtain ⟨b, hb, e, hall⟩ := ih (by omega)
    have hn := tab_none hT (show q < S * 2 by omega) h6
    simp only [topL]
    by_cases e2 : cW T q = -1
    · rw [if_pos e2]
      refine ⟨b, hb, e, fun q' h1 h2 j h3 h4 => ?_⟩
      rcases Nat.lt_or_ge q' q with z | z
      · exact hall q' z h2 j h3 h4
      · have h7 : q' = q := by omega
        rw [h7] at h2
        exact absurd (hn.mp e2) h2
    · rw [if_neg e2]
      obtain ⟨h8, j0, hj0, ej0⟩ := hu.2.2.1 q (by omega) (fun h => e2 (hn.mpr h))
      rw [e, ej0, pk_div (by omega) (by decide) (by decide), imaxN (by omega) (by omega), imaxN (by omega) (by omega)]
      refine ⟨max b (max (q / 2) j0), by omega, rfl, fun q' h1 h2 j h3 h4 => ?_⟩
      rcases Nat.lt_or_ge q' q with z | z
      · have := hall q' z h2 j h3 h4
        omega
      · have h7 : q' = q := by omega
        rw [h7, ej0, nI_eq (by omega) (by omega)] at h4
        omega
theorem top_us {S us : Nat} {T : Nat → Int32} (hT : okT S T) (h6 : S ≤ 6) (hu : usP S T us) {a : Nat} (ha : a < us) : topI S T (nI a) = nI (min S (us + 1) - 1) := by
  obtain ⟨b, hb, e, hall⟩ := top_le hT h6 hu ha (S * 2) (Nat.le_refl _)
  have h1 := hu.1
  have h2 := hu.2.1
  have hbe : b = us - 1 := by
    rcases hu.2.2.2 with h | ⟨q, h3, h4, h5⟩
    · omega
    · have := hall q h3 h4 (us - 1) (by omega) h5
      omega
  unfold topI
  rw [e, hbe, nI_1, show (1 : Int32) = nI 1 from rfl, pk_sub (by omega), iminN (by omega) (by omega), show us - 1 + 1 = us from by omega, show min (S - 1) us = min S (us + 1) - 1 from by omega]
/-- the order at o9 is v, and the machine tells one order more if it isn't 0 -/
def stP (S : Nat) (T : Nat → Int32) (o9 z : Nat) (tl : Int32) (o : Nat → Int32) : Prop := ∃ v : Int32, tabJ S o (upd T o9 v) ∧ tl = if v = 0 then nI z else nI (z + 1)
theorem upd_zero {T : Nat → Int32} {o9 : Nat} (h0 : T o9 = 0) : upd T o9 0 = T := by
  funext q
  by_cases hq : q = o9
  · rw [hq, pk_us, h0]
  · rw [pk_un hq]
theorem stP_zero {S : Nat} {T o : Nat → Int32} {o9 z : Nat} (h : tabJ S o T) (h0 : T o9 = 0) : stP S T o9 z (nI z) o := ⟨0, by rw [upd_zero h0]; exact h, by rw [if_pos rfl]⟩
theorem set_tab {S : Nat} {T o : Nat → Int32} {a t : Nat} {v od tl : Int32} (h2 : S ≤ 2) (ha : a < S) (ht : t < 2) (h : tabJ S o (upd T (a * 2 + t) v)) {tl' : Int32} {o' : Nat → Int32} (hw : (tl', o') = setJ 2 2 o tl (nI a) (nI t) od) : tabJ S o' (upd T (a * 2 + t) od) ∧ tl' = tl + ((if od = 0 then 0 else 1) - (if v = 0 then 0 else 1)) := by
  have e1 : ordJ 2 2 o (nI a) (nI t) = v := by rw [ord_tab h h2 ha ht, pk_us]
  have e2 : hasJ 2 2 (nI a) (nI t) = 1 := by
    unfold hasJ
    rw [if_neg (nI_pos (by omega)), if_neg (show ¬ (2 : Int32) ≤ nI a from nI_ge (b := 2) (by omega) (by decide)), if_neg (nI_pos (by omega)), if_neg (show ¬ (2 : Int32) ≤ nI t from nI_ge (b := 2) (by omega) (by decide))]
  have e3 : nI a * 4 + nI t = nI (a * 4 + t) := by rw [show (4 : Int32) = nI 4 from rfl, pk_mul, nI_add]
  unfold setJ at hw
  rw [e2, if_neg (by decide), e1, e3, put_at (n := 24) (i := nI (a * 4 + t)) (j := a * 4 + t) rfl (by omega) (by decide)] at hw
  simp only [Prod.mk.injEq] at hw
  refine ⟨fun s g hs hg => ?_, hw.1⟩
  rw [hw.2]
  have h3 := h s g hs hg
  by_cases q : s * 4 + g = a * 4 + t
  · have q1 : s = a := by omega
    have q2 : g = t := by omega
    rw [q1, q2, pk_us, pk_us]
  · rw [pk_un q, h3, pk_un (by omega), pk_un (by omega)]
theorem stP_set {S : Nat} {T o : Nat → Int32} {a t z : Nat} {od tl : Int32} (h2 : S ≤ 2) (ha : a < S) (ht : t < 2) (h : stP S T (a * 2 + t) z tl o) {tl' : Int32} {o' : Nat → Int32} (hw : (tl', o') = setJ 2 2 o tl (nI a) (nI t) od) : tabJ S o' (upd T (a * 2 + t) od) ∧ tl' = if od = 0 then nI z else nI (z + 1) := by
  obtain ⟨v, h3, h4⟩ := h
  have h5 := set_tab h2 ha ht h3 hw
  refine ⟨h5.1, ?_⟩
  rw [h5.2, h4]
  by_cases v0 : v = 0
  · by_cases o0 : od = 0
    · simp only [if_pos v0, if_pos o0]; rw [show (0 : Int32) - 0 = 0 from by decide, Int32.add_zero]
    · simp only [if_pos v0, if_neg o0]; rw [show (1 : Int32) - 0 = 1 from by decide, nI_1]
  · by_cases o0 : od = 0
    · simp only [if_neg v0, if_pos o0]; rw [show (0 : Int32) - 1 = -1 from by decide, pk_m1]
    · simp only [if_neg v0, if_neg o0]; rw [show (1 : Int32) - 1 = 0 from by decide, Int32.add_zero]
theorem us_child {S us a t j : Nat} {T : Nat → Int32} {wr : Nat} {r : Int32} (h6 : S ≤ 6) (hu : usP S T us) (ha : a < us) (ht : t < 2) (hj : j < min S (us + 1)) (h0 : T (a * 2 + t) = 0) (hw : wr < 2) (hr : r = 0 ∨ r = 1) : usP S (upd T (a * 2 + t) (codeJ (nI wr) r (nI j))) (max us (j + 1)) := by
  obtain ⟨h1, h2, h3, h4⟩ := hu
  have hc := code_r (show wr < 4 by omega) (show j < 6 by omega) hr
  have e9 : cN (upd T (a * 2 + t) (codeJ (nI wr) r (nI j))) (a * 2 + t) = nI j := by unfold cN; rw [pk_us]; exact hc.2.1
  have e8 : ∀ q, q ≠ a * 2 + t → cN (upd T (a * 2 + t) (codeJ (nI wr) r (nI j))) q = cN T q := fun q hq => by unfold cN; rw [pk_un hq]
  refine ⟨by omega, by omega, fun q hq h9 => ?_, ?_⟩
  · by_cases e : q = a * 2 + t
    · rw [e, e9]
      exact ⟨by omega, j, by omega, rfl⟩
    · rw [pk_un e] at h9
      obtain ⟨h7, j', h8, h10⟩ := h3 q hq h9
      exact ⟨by omega, j', by omega, by rw [e8 q e]; exact h10⟩
  · rcases Nat.lt_or_ge us (j + 1) with z | z
    · right
      exact ⟨a * 2 + t, by omega, by rw [pk_us]; exact hc.2.2.2, by rw [e9, show max us (j + 1) - 1 = j from by omega]⟩
    · rw [show max us (j + 1) = us from by omega]
      rcases h4 with h | ⟨q, h5, h7, h8⟩
      · left; exact h
      · right
        have e : q ≠ a * 2 + t := fun e => h7 (by rw [e]; exact h0)
        exact ⟨q, h5, by rw [pk_un e]; exact h7, by rw [e8 q e]; exact h8⟩
theorem okR_fin {S : Nat} {T : Nat → Int32} (hT : okT S T) (h1 : 1 ≤ S) (h6 : S ≤ 6) (k : Nat) : okR S 2 (finX T k) := seqR_ok (okM_T hT h1 h6) _
theorem haltC_of {S G : Nat} {x : RunS} {y : RunT} (hr : relJ x y) (hok : okR S G y) {cn : Cnt} {a b d : Int32} (h1 : a = cn.1 + 1) (h2 : b = if cn.2.2.2.1 < x.2.2.1 then x.2.2.1 else cn.2.2.2.1) (h3 : d = imaxJ cn.2.2.2.2 (marksR x.2.2.2.1 x.2.2.2.2.1 x.2.2.2.2.2.2)) : (a, cn.2.1, cn.2.2.1, b, d) = haltC y cn := by
  unfold haltC
  rw [h1, h2, h3, rel_marks hr hok, hr.2.2.1]
