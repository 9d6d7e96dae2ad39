-- ===== a run that comes back goes round for ever =====
theorem ordR_alike {gg : Int32} {x y : RunT} (h : alikeR x y) : ordR gg x.1 x.2.1 x.2.2.2.2.2.2.2 = ordR gg y.1 y.2.1 y.2.2.2.2.2.2.2 := by
  rw [h.1, h.2.1, h.2.2]
theorem hnoX_pr (gg : Int32) (w : Nat → Int32) (x : RunT) : hnoX gg w x = if w (ordR gg x.1 x.2.1 x.2.2.2.2.2.2.2).toNatClampNeg = -1 then 1 else 0 := rfl
theorem stepR_alike {gg : Int32} {w mv nx : Nat → Int32} {x y : RunT} (h : alikeR x y) (hx : x.2.2.2.2.2.1 = 0 ∧ x.2.2.2.2.2.2.1 = 0) (hy : y.2.2.2.2.2.1 = 0 ∧ y.2.2.2.2.2.2.1 = 0) : (stepR gg w mv nx x).1 = (stepR gg w mv nx y).1 ∧ alikeR (stepR gg w mv nx x).2 (stepR gg w mv nx y).2 := by
  have eo := ordR_alike (gg := gg) h
  have e1 : hhR gg w x = hhR gg w y := by unfold hhR; rw [hnoX_pr, hnoX_pr, eo, hx.1, hy.1]
  have e2 : toR gg w mv x = toR gg w mv y := by unfold toR; rw [e1, eo, h.2.1]
  have e3 : ibR gg w mv x = ibR gg w mv y := by unfold ibR; rw [e2, hx.2, hy.2]
  rw [stepR_eq, stepR_eq gg w mv nx y, e1, e3]
  by_cases c1 : hhR gg w y = 0
  · rw [if_pos c1, if_pos c1]
    by_cases c2 : ibR gg w mv y = 0
    · rw [if_pos c2, if_pos c2]
      refine ⟨rfl, ?_, e2, ?_⟩
      · show nx _ = nx _; rw [eo]
      · show upd _ _ _ = upd _ _ _; rw [eo, h.2.1, h.2.2]
    · rw [if_neg c2, if_neg c2]
      exact ⟨rfl, h⟩
  · rw [if_neg c1, if_neg c1]
    exact ⟨rfl, h⟩
theorem per {gg : Int32} {w mv nx : Nat → Int32} {a b : Nat} (hal : alvR gg w mv nx (a + b)) (hk : alikeR (seqR gg w mv nx (a + b)) (seqR gg w mv nx a)) (hb : 1 ≤ b) (i : Nat) : alvR gg w mv nx (a + b + i) ∧ alikeR (seqR gg w mv nx (a + b + i)) (seqR gg w mv nx (a + i)) := by
  induction i with
  | zero => exact ⟨hal, hk⟩
  | succ i ih =>
    have f1 := (seqR_al ih.1).2
    have f2 := (seqR_al (alvR_le ih.1 (show a + i ≤ a + b + i by omega))).2
    have h1 := stepR_alike (gg := gg) (w := w) (mv := mv) (nx := nx) ih.2 f1 f2
    refine ⟨alvR_succ ih.1 ?_, h1.2⟩
    show (stepR gg w mv nx (seqR gg w mv nx (a + b + i))).1 = 1
    rw [h1.1]
    exact ih.1 (a + i) (by omega)
theorem backP_iff {gg : Int32} {w mv nx : Nat → Int32} {k : Nat} : backP gg w mv nx k ↔ alvR gg w mv nx k ∧ ∃ i, i < k ∧ alikeR (seqR gg w mv nx k) (seqR gg w mv nx i) := by
  constructor
  · rintro ⟨a, b, h1, h2, h3, h4⟩
    have h5 := per h3 h4 h1 (k - (a + b))
    rw [show a + b + (k - (a + b)) = k from by omega] at h5
    exact ⟨h5.1, a + (k - (a + b)), by omega, h5.2⟩
  · rintro ⟨h1, i, h2, h3⟩
    refine ⟨i, k - i, by omega, by omega, ?_, ?_⟩
    · rw [show i + (k - i) = k from by omega]; exact h1
    · rw [show i + (k - i) = k from by omega]; exact h3
theorem lenR_full {gg : Int32} {w mv nx : Nat → Int32} {k : Nat} : lenR gg w mv nx k = k ↔ alvR gg w mv nx k := by
  constructor
  · intro h
    have h2 := (lenR_al gg w mv nx k).1
    rw [h] at h2
    exact h2
  · intro h
    exact lenR_eq (Nat.le_refl _) h (Or.inl rfl)
-- ===== left and right exchanged =====
theorem neg_cell {c : Nat} (h : c ≤ 1000) : -(nI c - 500) = nI (1000 - c) - 500 := by
  apply Int32.toInt_inj.mp
  rw [cN_toInt (by omega), Int32.toInt_neg, cN_toInt (by omega)]
  rw [Int.bmod_eq_of_le] <;> omega
/-- y is x with left and right exchanged -/
def mirP (x y : RunT) : Prop := y.1 = x.1 ∧ y.2.1 = -x.2.1 ∧ y.2.2.1 = -x.2.2.2.1 ∧ y.2.2.2.1 = -x.2.2.1 ∧ y.2.2.2.2.1 = x.2.2.2.2.1 ∧ y.2.2.2.2.2.1 = x.2.2.2.2.2.1 ∧ y.2.2.2.2.2.2.1 = x.2.2.2.2.2.2.1 ∧ ∀ q, q ≤ 1000 → y.2.2.2.2.2.2.2 q = x.2.2.2.2.2.2.2 (1000 - q)
theorem mirP_zero : mirP zeroR zeroR := ⟨rfl, by decide, by decide, by decide, rfl, rfl, rfl, fun _ _ => rfl⟩
theorem mir_ord {S G n : Nat} {w mv nx : Nat → Int32} (hM : okM S G n w mv nx) {x y : RunT} (h : okR S G x) (hm : mirP x y) : ordR (nI G) y.1 y.2.1 y.2.2.2.2.2.2.2 = ordR (nI G) x.1 x.2.1 x.2.2.2.2.2.2.2 := by
  obtain ⟨a, c, lo, hi, h1, h2, -, -, -, h3, h4, -, -, h5, -⟩ := show okR S G (x.1, x.2.1, x.2.2.1, x.2.2.2.1, x.2.2.2.2.1, x.2.2.2.2.2.1, x.2.2.2.2.2.2.1, x.2.2.2.2.2.2.2) from h
  unfold ordR
  rw [hm.1, hm.2.1, h2, neg_cell (by omega), cell_nI, cell_nI, nI_clamp (by omega), nI_clamp (by omega), hm.2.2.2.2.2.2.2 _ (by omega), show 1000 - (1000 - c) = c from by omega]
theorem mir_t1 {c : Nat} {d : Int} {v z : Int32} (hc : c ≤ 1000) (hv : v.toInt = 1 ∨ v.toInt = -1) (hd : d = (c : Int) + v.toInt) (hz : z = nI c - 500 + v) : z.toInt = d - 500 := by
  rw [hz, Int32.toInt_add, cN_toInt (by omega), Int.bmod_eq_of_le] <;> omega
theorem mir_nv {v : Int32} (hv : v.toInt = 1 ∨ v.toInt = -1) : (-v).toInt = -v.toInt := by
  rw [Int32.toInt_neg, Int.bmod_eq_of_le] <;> omega
theorem mir_t2 {c : Nat} {d : Int} {v z : Int32} (hc : c ≤ 1000) (hv : v.toInt = 1 ∨ v.toInt = -1) (hd : d = (c : Int) + v.toInt) (hz : z = -(nI c - 500) + -v) : z.toInt = 500 - d := by
  rw [hz, neg_cell hc, Int32.toInt_add, cN_toInt (by omega), mir_nv hv, Int.bmod_eq_of_le] <;> omega
def ibJ (b t : Int32) : Int32 := if b = 0 then (if 500 < t then 1 else if t < -500 then 1 else 0) else 1
theorem ibR_J (gg : Int32) (w mv : Nat → Int32) (x : RunT) : ibR gg w mv x = ibJ x.2.2.2.2.2.2.1 (toR gg w mv x) := rfl
theorem ibJ_if {b t : Int32} {e : Int} (ht : t.toInt = e) : ibJ b t = if b = 0 ∧ -500 ≤ e ∧ e ≤ 500 then 0 else 1 := by
  have q5 : (500 : Int32).toInt = 500 := by decide
  have q6 : (-500 : Int32).toInt = -500 := by decide
  have g1 : (500 < t) ↔ 500 < e := by rw [Int32.lt_iff_toInt_lt, ht, q5]
  have g2 : (t < -500) ↔ e < -500 := by rw [Int32.lt_iff_toInt_lt, ht, q6]
  unfold ibJ
  by_cases z : b = 0
  · rw [if_pos z]
    by_cases z1 : 500 < e
    · rw [if_pos (g1.mpr z1), if_neg (by omega)]
    · rw [if_neg (fun h => z1 (g1.mp h))]
      by_cases z2 : e < -500
      · rw [if_pos (g2.mpr z2), if_neg (by omega)]
      · rw [if_neg (fun h => z2 (g2.mp h)), if_pos ⟨z, by omega, by omega⟩]
  · rw [if_neg z, if_neg (fun h => z h.1)]
theorem hhR_w {gg : Int32} {w : Nat → Int32} {x : RunT} {k : Nat} (c1 : hhR gg w x = 0) (ek : (ordR gg x.1 x.2.1 x.2.2.2.2.2.2.2).toNatClampNeg = k) : ¬ w k = -1 := by
  intro hq
  unfold hhR at c1
  rw [hnoX_pr, ek, if_pos hq] at c1
  split at c1
  · rw [if_neg (by decide)] at c1; exact absurd c1 (by decide)
  · exact absurd c1 (by decide)
theorem mir_go {S G n : Nat} {w mv nx : Nat → Int32} (hM : okM S G n w mv nx) {x y : RunT} (h : okR S G x) (hm : mirP x y) (c1 : hhR (nI G) w x = 0) (e1 : hhR (nI G) w y = hhR (nI G) w x) : ∃ (c : Nat) (d : Int), x.2.1 = nI c - 500 ∧ c ≤ 1000 ∧ (toR (nI G) w mv x).toInt = d - 500 ∧ (toR (nI G) w (mirM mv) y).toInt = 500 - d := by
  have eo := mir_ord hM h hm
  have hx : okR S G (x.1, x.2.1, x.2.2.1, x.2.2.2.1, x.2.2.2.2.1, x.2.2.2.2.2.1, x.2.2.2.2.2.2.1, x.2.2.2.2.2.2.2) := h
  obtain ⟨k, hk, ek⟩ := okR_ord hM hx
  have hkc : (nI k).toNatClampNeg = k := nI_clamp (by have := okM_n hM; omega)
  obtain ⟨a, c, lo, hi, h1, h2, h3, h4, h5, h6, h7, h8, h9, h10, -⟩ := hx
  have hw : ¬ w k = -1 := hhR_w c1 (by rw [ek, hkc])
  obtain ⟨-, hmv, -⟩ := okM_at hM hk hw
  have hmt : (mv k).toInt = 1 ∨ (mv k).toInt = -1 := by
    rcases hmv with e | e <;> rw [e]
    · left; decide
    · right; decide
  have tx : toR (nI G) w mv x = nI c - 500 + mv k := by unfold toR; rw [if_pos c1, ek, hkc, h2]
  have ty : toR (nI G) w (mirM mv) y = -(nI c - 500) + -(mv k) := by unfold toR; rw [if_pos (e1.trans c1), eo, ek, hkc, hm.2.1, h2]; rfl
  exact ⟨c, _, h2, by omega, mir_t1 (by omega) hmt rfl tx, mir_t2 (by omega) hmt rfl ty⟩
theorem mir_on {S G n : Nat} {w mv nx : Nat → Int32} (hM : okM S G n w mv nx) {x y : RunT} (h : okR S G x) (hm : mirP x y) {c j : Nat} (hc : x.2.1 = nI c - 500) (hc1 : c ≤ 1000) (hj : j ≤ 1000) (u1 : toR (nI G) w mv x = nI j - 500) (u2 : toR (nI G) w (mirM mv) y = nI (1000 - j) - 500) : mirP (onR (nI G) w mv nx x) (onR (nI G) w (mirM mv) nx y) := by
  have eo := mir_ord hM h hm
  obtain ⟨a, c', lo, hi, h1, h2, h3, h4, h5, h6, h7, h8, h9, h10, -⟩ := show okR S G (x.1, x.2.1, x.2.2.1, x.2.2.2.1, x.2.2.2.2.1, x.2.2.2.2.2.1, x.2.2.2.2.2.2.1, x.2.2.2.2.2.2.2) from h
  obtain ⟨m1, m2, m3, m4, m5, m6, m7, m8⟩ := hm
  unfold onR
  refine ⟨?_, ?_, ?_, ?_, ?_, (rfl : (0 : Int32) = 0), (rfl : (0 : Int32) = 0), fun q hq => ?_⟩
  · dsimp only; rw [eo]
  · dsimp only; rw [u1, u2, neg_cell (by omega)]
  · dsimp only
    rw [u1, u2, m3, h4, neg_cell (by omega), cN_min (by omega) (by omega), cN_max (by omega) (by omega), neg_cell (by omega), show min (1000 - hi) (1000 - j) = 1000 - max hi j from by omega]
  · dsimp only
    rw [u1, u2, m4, h3, neg_cell (by omega), cN_min (by omega) (by omega), cN_max (by omega) (by omega), neg_cell (by omega), show max (1000 - lo) (1000 - j) = 1000 - min lo j from by omega]
  · dsimp only; rw [m5]
  · dsimp only
    rw [eo, m2, hc, neg_cell (by omega), cell_nI, cell_nI, nI_clamp (by omega), nI_clamp (by omega)]
    by_cases hqc : q = 1000 - c
    · rw [hqc, pk_us, show 1000 - (1000 - c) = c from by omega, pk_us]
    · rw [pk_un hqc, pk_un (by omega), m8 q hq]
theorem mir_fl {x y : RunT} (hm : mirP x y) (p q : Int32) : mirP (flR x p q) (flR y p q) := ⟨hm.1, hm.2.1, hm.2.2.1, hm.2.2.2.1, hm.2.2.2.2.1, rfl, rfl, hm.2.2.2.2.2.2.2⟩
theorem mirP_step {S G n : Nat} {w mv nx : Nat → Int32} (hM : okM S G n w mv nx) {x y : RunT} (h : okR S G x) (hm : mirP x y) : (stepR (nI G) w (mirM mv) nx y).1 = (stepR (nI G) w mv nx x).1 ∧ mirP (stepR (nI G) w mv nx x).2 (stepR (nI G) w (mirM mv) nx y).2 := by
  have eo := mir_ord hM h hm
  have e1 : hhR (nI G) w y = hhR (nI G) w x := by unfold hhR; rw [hnoX_pr, hnoX_pr, eo, hm.2.2.2.2.2.1]
  rw [stepR_eq, stepR_eq (nI G) w mv nx x, e1]
  by_cases c1 : hhR (nI G) w x = 0
  · rw [if_pos c1, if_pos c1]
    obtain ⟨c, d, hc, hc1, t1, t2⟩ := mir_go hM h hm c1 e1
    have e3 : ibR (nI G) w (mirM mv) y = ibR (nI G) w mv x := by
      rw [ibR_J, ibR_J, ibJ_if t1, ibJ_if t2, hm.2.2.2.2.2.2.1]
      by_cases z : x.2.2.2.2.2.2.1 = 0 ∧ -500 ≤ d - 500 ∧ d - 500 ≤ 500
      · rw [if_pos z, if_pos ⟨z.1, by omega, by omega⟩]
      · rw [if_neg z, if_neg (fun q => z ⟨q.1, by omega, by omega⟩)]
    rw [e3]
    by_cases c2 : ibR (nI G) w mv x = 0
    · rw [if_pos c2, if_pos c2]
      have hd0 : -500 ≤ d - 500 ∧ d - 500 ≤ 500 := by
        rw [ibR_J, ibJ_if t1] at c2
        by_cases z : x.2.2.2.2.2.2.1 = 0 ∧ -500 ≤ d - 500 ∧ d - 500 ≤ 500
        · exact z.2
        · rw [if_neg z] at c2; exact absurd c2 (by decide)
      obtain ⟨j, hj⟩ : ∃ j : Nat, d = j := ⟨d.toNat, by omega⟩
      have u1 : toR (nI G) w mv x = nI j - 500 := Int32.toInt_inj.mp (by rw [t1, cN_toInt (by omega), hj])
      have u2 : toR (nI G) w (mirM mv) y = nI (1000 - j) - 500 := Int32.toInt_inj.mp (by rw [t2, cN_toInt (by omega), hj]; omega)
      exact ⟨rfl, mir_on hM h hm hc hc1 (by omega) u1 u2⟩
    · rw [if_neg c2, if_neg c2]
      exact ⟨rfl, mir_fl hm 0 1⟩
  · rw [if_neg c1, if_neg c1]
    obtain ⟨a, c, lo, hi, h1, h2, h3, h4, h5, h6, h7, h8, h9, h10, -⟩ := show okR S G (x.1, x.2.1, x.2.2.1, x.2.2.2.1, x.2.2.2.2.1, x.2.2.2.2.2.1, x.2.2.2.2.2.2.1, x.2.2.2.2.2.2.2) from h
    have t1 : (toR (nI G) w mv x).toInt = (c : Int) - 500 := by unfold toR; rw [if_neg c1, h2, cN_toInt (by omega)]
    have t2 : (toR (nI G) w (mirM mv) y).toInt = ((1000 - c : Nat) : Int) - 500 := by unfold toR; rw [if_neg (by rw [e1]; exact c1), hm.2.1, h2, neg_cell (by omega), cN_toInt (by omega)]
    have e3 : ibR (nI G) w (mirM mv) y = ibR (nI G) w mv x := by
      rw [ibR_J, ibR_J, ibJ_if t1, ibJ_if t2, hm.2.2.2.2.2.2.1]
      by_cases z : x.2.2.2.2.2.2.1 = 0
      · rw [if_pos ⟨z, by omega, by omega⟩, if_pos ⟨z, by omega, by omega⟩]
      · rw [if_neg (fun q => z q.1), if_neg (fun q => z q.1)]
    rw [e3]
    exact ⟨rfl, mir_fl hm 1 _⟩
theorem mirP_seq {S G n : Nat} {w mv nx : Nat → Int32} (hM : okM S G n w mv nx) (i : Nat) : mirP (seqR (nI G) w mv nx i) (seqR (nI G) w (mirM mv) nx i) := by
  induction i with
  | zero => exact mirP_zero
  | succ i ih => exact (mirP_step hM (seqR_ok hM i) ih).2
theorem mir_bit {S G n : Nat} {w mv nx : Nat → Int32} (hM : okM S G n w mv nx) (i : Nat) : bitR (nI G) w (mirM mv) nx i = bitR (nI G) w mv nx i := (mirP_step hM (seqR_ok hM i) (mirP_seq hM i)).1
theorem mir_alv {S G n : Nat} {w mv nx : Nat → Int32} (hM : okM S G n w mv nx) (i : Nat) : alvR (nI G) w (mirM mv) nx i ↔ alvR (nI G) w mv nx i := by
  unfold alvR; simp only [mir_bit hM]
