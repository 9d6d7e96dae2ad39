-- ===== a loop that makes things: the room that it takes grows with its state =====
theorem lp_goC {p : Program} {l : Launch} {e : Env} {R : Room} {s : State} {m : MethodId} {args : Array Value} {below : List Frame} {meth : Method} {c : Code} {Q : State → Prop} {D : va_G} {cl : List vw_C} {A : Nat → Prop} {H0 : Heap} {pc nL : Nat}
    {σ : Type} (I : σ → Prop) (μ : σ → Nat) (ce sl : σ → Nat) (ws : σ → va_W) (lv : σ → List (Nat × Value)) (st : σ → List Value)
    (step : ∀ x, I x → (∀ x', I x' → μ x' < μ x → ∀ (H : Heap) (locs : List Loc), va_P D cl (ws x') H → va_D A (ws x') → va_S A H0 H locs → ∀ ls : Array Slot, lv_has ls nL (lv x') → W p l e R s m args below meth c H locs (ce x') (sl x') Q (F0 m pc ls (st x'))) →
      ∀ (H : Heap) (locs : List Loc), va_P D cl (ws x) H → va_D A (ws x) → va_S A H0 H locs → ∀ ls : Array Slot, lv_has ls nL (lv x) → W p l e R s m args below meth c H locs (ce x) (sl x) Q (F0 m pc ls (st x)))
    (x : σ) (hI : I x) {H : Heap} {locs : List Loc} (hP : va_P D cl (ws x) H) (hD : va_D A (ws x)) (hS : va_S A H0 H locs) {ls : Array Slot} (hl : lv_has ls nL (lv x)) : W p l e R s m args below meth c H locs (ce x) (sl x) Q (F0 m pc ls (st x)) := by
  have key : ∀ (k : Nat) (x : σ), μ x < k → I x → ∀ (H : Heap) (locs : List Loc), va_P D cl (ws x) H → va_D A (ws x) → va_S A H0 H locs → ∀ ls : Array Slot, lv_has ls nL (lv x) → W p l e R s m args below meth c H locs (ce x) (sl x) Q (F0 m pc ls (st x)) := by
    intro k
    induction k with
    | zero => intro x h; exact absurd h (Nat.not_lt_zero _)
    | succ k ih => intro x h hI; exact step x hI (fun x' hI' hμ => ih x' (Nat.lt_of_lt_of_le hμ (Nat.le_of_lt_succ h)) hI')
  exact key (μ x + 1) x (Nat.lt_succ_self _) hI H locs hP hD hS ls hl
/-- ways that meet: what stands behind their meeting is walked once -/
theorem jn_go {p : Program} {l : Launch} {e : Env} {R : Room} {s : State} {m : MethodId} {args : Array Value} {below : List Frame} {meth : Method} {c : Code} {Q : State → Prop} {D : va_G} {cl : List vw_C} {A : Nat → Prop} {H0 : Heap} {nL : Nat} {cells slots : Nat} {g : JFrame} {H : Heap} {locs : List Loc}
    {ws0 : va_W} {ls0 : Array Slot} {lv0 : List (Nat × Value)} {σ : Type} (hP0 : va_P D cl ws0 H) (hD0 : va_D A ws0) (hS0 : va_S A H0 H locs) (hl0 : lv_has ls0 nL lv0) (pc k n : Nat) (I : σ → Prop) (ws : σ → va_W) (lv : σ → List (Nat × Value)) (st : σ → List Value)
    (body : ∀ x, I x → ∀ (H : Heap) (locs : List Loc), va_P D cl (ws x) H → va_D A (ws x) → va_S A H0 H locs → ∀ ls : Array Slot, lv_has ls nL (lv x) → W p l e R s m args below meth c H locs k n Q (F0 m pc ls (st x)))
    (rest : (∀ x, I x → ∀ (H : Heap) (locs : List Loc), va_P D cl (ws x) H → va_D A (ws x) → va_S A H0 H locs → ∀ ls : Array Slot, lv_has ls nL (lv x) → W p l e R s m args below meth c H locs k n Q (F0 m pc ls (st x))) → W p l e R s m args below meth c H locs cells slots Q g) : W p l e R s m args below meth c H locs cells slots Q g := rest body
-- ===== a table of orders, and the machine that it is =====
def cW (T : Nat → Int32) (q : Nat) : Int32 := if T q = 0 then -1 else wrJ (T q)
def cM (T : Nat → Int32) (q : Nat) : Int32 := moveJ (T q)
def cN (T : Nat → Int32) (q : Nat) : Int32 := nxJ (T q)
/-- a table of S states and 2 signs -/
def okT (S : Nat) (T : Nat → Int32) : Prop := ∀ q, q < S * 2 → T q = 0 ∨ ∃ wr j : Nat, wr < 2 ∧ j < S ∧ ∃ r : Int32, (r = 0 ∨ r = 1) ∧ T q = codeJ (nI wr) r (nI j)
theorem code_dec : ∀ wr, wr < 4 → ∀ j, j < 6 → wrJ (codeJ (nI wr) 0 (nI j)) = nI wr ∧ wrJ (codeJ (nI wr) 1 (nI j)) = nI wr ∧ nxJ (codeJ (nI wr) 0 (nI j)) = nI j ∧ nxJ (codeJ (nI wr) 1 (nI j)) = nI j ∧ moveJ (codeJ (nI wr) 0 (nI j)) = -1 ∧ moveJ (codeJ (nI wr) 1 (nI j)) = 1 ∧ codeJ (nI wr) 0 (nI j) ≠ 0 ∧ codeJ (nI wr) 1 (nI j) ≠ 0 := by decide +kernel
theorem code_r {wr j : Nat} {r : Int32} (hw : wr < 4) (hj : j < 6) (hr : r = 0 ∨ r = 1) : wrJ (codeJ (nI wr) r (nI j)) = nI wr ∧ nxJ (codeJ (nI wr) r (nI j)) = nI j ∧ moveJ (codeJ (nI wr) r (nI j)) = (if r = 0 then -1 else 1) ∧ codeJ (nI wr) r (nI j) ≠ 0 := by
  have h := code_dec wr hw j hj
  rcases hr with rfl | rfl
  · exact ⟨h.1, h.2.2.1, h.2.2.2.2.1, h.2.2.2.2.2.2.1⟩
  · exact ⟨h.2.1, h.2.2.2.1, h.2.2.2.2.2.1, h.2.2.2.2.2.2.2⟩
theorem nI_nm1 : ∀ wr, wr < 4 → nI wr ≠ -1 := by decide +kernel
theorem okM_T {S : Nat} {T : Nat → Int32} (hT : okT S T) (h1 : 1 ≤ S) (h6 : S ≤ 6) : okM S 2 (S * 2) (cW T) (cM T) (cN T) := by
  refine ⟨rfl, h1, h6, by decide, by decide, fun k hk => ?_⟩
  rcases hT k hk with h | ⟨wr, j, hw, hj, r, hr, e⟩
  · left; unfold cW; rw [if_pos h]
  · right
    have h := code_r (show wr < 4 by omega) (show j < 6 by omega) hr
    unfold cW cM cN
    rw [e, if_neg h.2.2.2, h.1, h.2.1, h.2.2.1]
    refine ⟨⟨wr, hw, rfl⟩, ?_, j, hj, rfl⟩
    rcases hr with rfl | rfl
    · right; rfl
    · left; decide
theorem cW_none {S : Nat} {T : Nat → Int32} (hT : okT S T) {q : Nat} (hq : q < S * 2) (h6 : S ≤ 6) (h : cW T q = -1) : T q = 0 := by
  rcases hT q hq with e | ⟨wr, j, hw, hj, r, hr, e⟩
  · exact e
  · have h2 := code_r (show wr < 4 by omega) (show j < 6 by omega) hr
    unfold cW at h
    rw [e, if_neg h2.2.2.2, h2.1] at h
    exact absurd h (nI_nm1 wr (by omega))
theorem okT_upd {S : Nat} {T : Nat → Int32} (hT : okT S T) {o wr j : Nat} {r : Int32} (hw : wr < 2) (hj : j < S) (hr : r = 0 ∨ r = 1) : okT S (upd T o (codeJ (nI wr) r (nI j))) := by
  intro q hq
  by_cases e : q = o
  · right; exact ⟨wr, j, hw, hj, r, hr, by simp [upd, e]⟩
  · rw [show upd T o (codeJ (nI wr) r (nI j)) q = T q from by simp [upd, e]]; exact hT q hq
theorem okT_zero {S : Nat} : okT S (fun _ => 0) := fun _ _ => Or.inl rfl
theorem sim_tell {n S : Nat} {T w mv nx : Nat → Int32} (hs : simM n (cW T) (cM T) (cN T) w mv nx) {o wr j : Nat} {r mo : Int32} (hw : wr < 2) (hj : j < S) (h6 : S ≤ 6) (hr : r = 0 ∨ r = 1) (hm : mo = if r = 0 then -1 else 1) :
    simM n (cW (upd T o (codeJ (nI wr) r (nI j)))) (cM (upd T o (codeJ (nI wr) r (nI j)))) (cN (upd T o (codeJ (nI wr) r (nI j)))) (upd w o (nI wr)) (upd mv o mo) (upd nx o (nI j)) := by
  intro q hq
  have h2 := code_r (show wr < 4 by omega) (show j < 6 by omega) hr
  by_cases e : q = o
  · subst e
    simp only [cW, cM, cN, pk_us, if_neg h2.2.2.2, h2.1, h2.2.1, h2.2.2.1, hm]
    exact ⟨trivial, fun _ => ⟨trivial, trivial⟩⟩
  · have h3 := hs q hq
    simp only [cW, cM, cN, pk_un e] at h3 ⊢
    exact h3
theorem sim_untell {n : Nat} {T w mv nx : Nat → Int32} {o : Nat} {z : Int32} (hs : simM n (cW (upd T o z)) (cM (upd T o z)) (cN (upd T o z)) w mv nx) (h0 : T o = 0) : simM n (cW T) (cM T) (cN T) (upd w o (-1)) mv nx := by
  intro q hq
  by_cases e : q = o
  · subst e
    simp only [cW, pk_us, h0, if_true]
    exact ⟨trivial, fun h => absurd rfl h⟩
  · have h3 := hs q hq
    simp only [cW, cM, cN, pk_un e] at h3 ⊢
    exact h3
-- ===== how far a run goes =====
def lenR (gg : Int32) (w mv nx : Nat → Int32) : Nat → Nat
  | 0 => 0
  | k + 1 => if lenR gg w mv nx k = k then (if bitR gg w mv nx k = 1 then k + 1 else k) else lenR gg w mv nx k
theorem lenR_eq {gg : Int32} {w mv nx : Nat → Int32} {k m : Nat} (h1 : m ≤ k) (h2 : alvR gg w mv nx m) (h3 : m = k ∨ bitR gg w mv nx m = 0) : lenR gg w mv nx k = m := by
  induction k generalizing m with
  | zero => have : m = 0 := by omega
            rw [this]; rfl
  | succ k ih =>
    rcases Nat.lt_or_ge m (k + 1) with q | q
    · have hb : bitR gg w mv nx m = 0 := h3.resolve_left (by omega)
      have e := ih (m := m) (by omega) h2 (Or.inr hb)
      simp only [lenR, e]
      by_cases e2 : m = k
      · subst e2; rw [if_pos rfl, hb, if_neg (by decide)]
      · rw [if_neg e2]
    · have e0 : m = k + 1 := by omega
      subst e0
      have e := ih (m := k) (Nat.le_refl _) (alvR_le h2 (Nat.le_succ k)) (Or.inl rfl)
      simp only [lenR, e, if_true, h2 k (Nat.lt_succ_self k)]
theorem lenR_sim {S G n : Nat} {w mv nx w' mv' nx' : Nat → Int32} (hM : okM S G n w mv nx) (hs : simM n w mv nx w' mv' nx') (k : Nat) : lenR (nI G) w' mv' nx' k = lenR (nI G) w mv nx k := by
  induction k with
  | zero => rfl
  | succ k ih => simp only [lenR, ih, bitR_sim hM hs]
/-- where a table's run of at most k steps ends -/
def finX (T : Nat → Int32) (k : Nat) : RunT := seqR (nI 2) (cW T) (cM T) (cN T) (lenR (nI 2) (cW T) (cM T) (cN T) k)
theorem hnoX_sim {S G n : Nat} {w mv nx w' mv' nx' : Nat → Int32} (hM : okM S G n w mv nx) (hs : simM n w mv nx w' mv' nx') {x : RunT} (h : okR S G x) : hnoX (nI G) w' x = hnoX (nI G) w x := by
  obtain ⟨st, ce, lf, rt, sp, hh, ib, f⟩ := x
  obtain ⟨k, hk, ek⟩ := okR_ord hM h
  have hn := okM_n hM
  simp only [hnoX, hnoR, ek, nI_clamp (show k < 2 ^ 31 by omega), (hs k hk).1]
theorem okR_flR {S G : Nat} {x : RunT} {hh ib : Int32} (h : okR S G x) (h1 : hh = 0 ∨ hh = 1) (h2 : ib = 0 ∨ ib = 1) : okR S G (flR x hh ib) := by
  obtain ⟨st, ce, lf, rt, sp, hh0, ib0, f⟩ := x
  exact okR_fl h h1 h2
theorem goneT {S n k : Nat} {T w mv nx : Nat → Int32} (hT : okT S T) (h1 : 1 ≤ S) (h6 : S ≤ 6) (hn : n = S * 2) (hs : simM n (cW T) (cM T) (cN T) w mv nx) {u : RunT} (h : goneR (nI 2) w mv nx k u) : okR S 2 u ∧ ∃ ib, u = flR (finX T k) (hnoX (nI 2) (cW T) (finX T k)) ib := by
  obtain ⟨m, ib, h3, h4, h5, h7, h8⟩ := h
  subst hn
  have hM := okM_T hT h1 h6
  have hM2 := okM_sim hM hs
  have e : lenR (nI 2) w mv nx k = m := lenR_eq h3 h4 h5
  rw [lenR_sim hM hs] at e
  have e2 : seqR (nI 2) w mv nx m = finX T k := by unfold finX; rw [e]; exact seqR_sim hM hs m
  rw [e2] at h8
  have hok : okR S 2 (finX T k) := seqR_ok hM _
  rw [hnoX_sim hM hs hok] at h8
  refine ⟨?_, ib, h8⟩
  rw [h8]
  exact okR_flR hok (hnoX_01 _ _ _) h7
theorem flR_eq (x : RunT) (hh ib : Int32) : flR x hh ib = (x.1, x.2.1, x.2.2.1, x.2.2.2.1, x.2.2.2.2.1, hh, ib, x.2.2.2.2.2.2.2) := rfl
theorem goneT_at {k : Nat} {T : Nat → Int32} {st ce lf rt sp hh ib ib' : Int32} {f : Nat → Int32} (h : (st, ce, lf, rt, sp, hh, ib, f) = flR (finX T k) (hnoX (nI 2) (cW T) (finX T k)) ib') : st = (finX T k).1 ∧ ce = (finX T k).2.1 ∧ lf = (finX T k).2.2.1 ∧ rt = (finX T k).2.2.2.1 ∧ sp = (finX T k).2.2.2.2.1 ∧ hh = hnoX (nI 2) (cW T) (finX T k) ∧ f = (finX T k).2.2.2.2.2.2.2 := by
  rw [flR_eq] at h
  simp only [Prod.mk.injEq] at h
  exact ⟨h.1, h.2.1, h.2.2.1, h.2.2.2.1, h.2.2.2.2.1, h.2.2.2.2.2.1, h.2.2.2.2.2.2.2⟩
/-- the place of the order that is missing -/
def orX (x : RunT) : Nat := (ordR (nI 2) x.1 x.2.1 x.2.2.2.2.2.2.2).toNatClampNeg
theorem missT {S k : Nat} {T : Nat → Int32} (hT : okT S T) (h1 : 1 ≤ S) (h6 : S ≤ 6) (h : ¬ hnoX (nI 2) (cW T) (finX T k) = 0) : orX (finX T k) < S * 2 ∧ ordR (nI 2) (finX T k).1 (finX T k).2.1 (finX T k).2.2.2.2.2.2.2 = nI (orX (finX T k)) ∧ T (orX (finX T k)) = 0 := by
  have hM := okM_T hT h1 h6
  have hok : okR S 2 (finX T k) := seqR_ok hM _
  unfold orX
  generalize finX T k = x at *
  obtain ⟨st, ce, lf, rt, sp, hh, ib, f⟩ := x
  obtain ⟨o, ho, eo⟩ := okR_ord hM hok
  have hc : (nI o).toNatClampNeg = o := nI_clamp (by omega)
  simp only [hnoX, hnoR, eo, hc] at h ⊢
  refine ⟨ho, trivial, ?_⟩
  by_cases e : cW T o = -1
  · exact cW_none hT ho h6 e
  · rw [if_neg e] at h; exact absurd rfl h
-- ===== the states that come next =====
theorem imaxN {a b : Nat} (ha : a < 2 ^ 31) (hb : b < 2 ^ 31) : imaxJ (nI a) (nI b) = nI (max a b) := by
  simp only [imaxJ, nI_ltI ha hb]
  by_cases h : a < b
  · rw [if_pos h, Nat.max_eq_right (by omega)]
  · rw [if_neg h, Nat.max_eq_left (by omega)]
theorem iminN {a b : Nat} (ha : a < 2 ^ 31) (hb : b < 2 ^ 31) : iminJ (nI a) (nI b) = nI (min a b) := by
  simp only [iminJ, nI_ltI hb ha]
  by_cases h : b < a
  · rw [if_pos h, Nat.min_eq_right (by omega)]
  · rw [if_neg h, Nat.min_eq_left (by omega)]
def topL (T : Nat → Int32) : Nat → Int32 → Int32
  | 0, t => t
  | q + 1, t => if cW T q = -1 then topL T q t else imaxJ (topL T q t) (imaxJ (nI q / nI 2) (cN T q))
theorem topL_nat {S : Nat} {T : Nat → Int32} (hT : okT S T) (h6 : S ≤ 6) {a : Nat} (ha : a < S) (q : Nat) (hq : q ≤ S * 2) : ∃ b, b < S ∧ topL T q (nI a) = nI b := by
  induction q with
  | zero => exact ⟨a, ha, rfl⟩
  | succ q ih =>
    obtain ⟨b, hb, e⟩ := ih (by omega)
    simp only [topL]
    by_cases e2 : cW T q = -1
    · rw [if_pos e2]; exact ⟨b, hb, e⟩
    · rw [if_neg e2, e, pk_div (by omega) (by decide) (by decide)]
      have : ∃ j, j < S ∧ cN T q = nI j := by
        rcases hT q (by omega) with h | ⟨wr, j, hw, hj, r, hr, h⟩
        · exact absurd (by unfold cW; rw [if_pos h]) e2
        · exact ⟨j, hj, by unfold cN; rw [h]; exact (code_r (by omega) (by omega) hr).2.1⟩
      obtain ⟨j, hj, ej⟩ := this
      rw [ej, imaxN (by omega) (by omega), imaxN (by omega) (by omega)]
      exact ⟨_, by omega, rfl⟩
def topI (S : Nat) (T : Nat → Int32) (st : Int32) : Int32 := iminJ (nI S - 1) (topL T (S * 2) st + 1)
theorem topI_nat {S : Nat} {T : Nat → Int32} (hT : okT S T) (h1 : 1 ≤ S) (h6 : S ≤ 6) {st : Int32} (hst : ∃ a, a < S ∧ st = nI a) : ∃ t, t < S ∧ topI S T st = nI t := by
  obtain ⟨a, ha, rfl⟩ := hst
  obtain ⟨b, hb, e⟩ := topL_nat hT h6 ha (S * 2) (Nat.le_refl _)
  unfold topI
  rw [e, nI_1, show (1 : Int32) = nI 1 from rfl, pk_sub h1, iminN (by omega) (by omega)]
  exact ⟨_, by omega, rfl⟩
-- ===== the listing =====
/-- halting, never halting, left open, most steps (-1 at first), most marks -/
abbrev Cnt := Int32 × Int32 × Int32 × Int32 × Int32
def iterN {α : Type} (f : Nat → α → α) : Nat → α → α
  | 0, c => c
  | n + 1, c => f n (iterN f n c)
def nevP (T : Nat → Int32) (k : Nat) : Prop := backP (nI 2) (cW T) (cM T) (cN T) k ∨ goP (nI 2) (cW T) (cM T) (cN T) k
noncomputable def nevC (T : Nat → Int32) (k : Nat) (c : Cnt) : Cnt := @ite Cnt (nevP T k) (Classical.propDecidable _) (c.1, c.2.1 + 1, c.2.2) (c.1, c.2.1, c.2.2.1 + 1, c.2.2.2)
theorem nevC_yes {T : Nat → Int32} {k : Nat} {c : Cnt} (h : nevP T k) : nevC T k c = (c.1, c.2.1 + 1, c.2.2) := by unfold nevC; exact if_pos h
theorem nevC_no {T : Nat → Int32} {k : Nat} {c : Cnt} (h : ¬ nevP T k) : nevC T k c = (c.1, c.2.1, c.2.2.1 + 1, c.2.2.2) := by unfold nevC; exact if_neg h
def haltC (x : RunT) (c : Cnt) : Cnt := (c.1 + 1, c.2.1, c.2.2.1, if c.2.2.2.1 < x.2.2.2.2.1 then x.2.2.2.2.1 else c.2.2.2.1, imaxJ c.2.2.2.2 (marksR x.2.2.1 x.2.2.2.1 x.2.2.2.2.2.2.2))
def kidP (rec : (Nat → Int32) → Cnt → Cnt) (T : Nat → Int32) (o wr : Nat) (r : Int32) (j : Nat) (c : Cnt) : Cnt := rec (upd T o (codeJ (nI wr) r (nI j))) c
def nextsP (rec : (Nat → Int32) → Cnt → Cnt) (T : Nat → Int32) (o top wr : Nat) (r : Int32) (c : Cnt) : Cnt := iterN (kidP rec T o wr r) (top + 1) c
def wrP (rec : (Nat → Int32) → Cnt → Cnt) (T : Nat → Int32) (o top z wr : Nat) (c : Cnt) : Cnt := nextsP rec T o top wr 1 (if z = 0 then c else nextsP rec T o top wr 0 c)
/-- what the listing counts: d orders aren't told -/
noncomputable def listP (S k : Nat) : Nat → (Nat → Int32) → Cnt → Cnt
  | 0, _, c => c
  | d + 1, T, c => if hnoX (nI 2) (cW T) (finX T k) = 0 then nevC T k c else if d = 0 then haltC (finX T k) c else
      iterN (wrP (listP S k d) T (orX (finX T k)) (topI S T (finX T k).1).toNatClampNeg (S * 2 - (d + 1))) 2 (haltC (finX T k) c)
theorem listP_nev {S k d : Nat} {T : Nat → Int32} {c : Cnt} (h : hnoX (nI 2) (cW T) (finX T k) = 0) : listP S k (d + 1) T c = nevC T k c := by simp only [listP, if_pos h]
theorem listP_one {S k : Nat} {T : Nat → Int32} {c : Cnt} (h : ¬ hnoX (nI 2) (cW T) (finX T k) = 0) : listP S k 1 T c = haltC (finX T k) c := by simp only [listP, if_neg h, if_true]
theorem listP_more {S k d t : Nat} {T : Nat → Int32} {c : Cnt} (h : ¬ hnoX (nI 2) (cW T) (finX T k) = 0) (hd : ¬ d = 0) (ht : topI S T (finX T k).1 = nI t) (ht2 : t < 2 ^ 31) : listP S k (d + 1) T c = iterN (wrP (listP S k d) T (orX (finX T k)) t (S * 2 - (d + 1))) 2 (haltC (finX T k) c) := by
  simp only [listP, if_neg h, if_neg hd, ht, nI_clamp ht2]
theorem lenR_al (gg : Int32) (w mv nx : Nat → Int32) (k : Nat) : alvR gg w mv nx (lenR gg w mv nx k) ∧ lenR gg w mv nx k ≤ k := by
  induction k with
  | zero => exact ⟨fun i hi => absurd hi (Nat.not_lt_zero i), Nat.le_refl _⟩
  | succ k ih =>
    simp only [lenR]
    by_cases h : lenR gg w mv nx k = k
    · rw [h] at ih
      rw [if_pos h]
      by_cases h2 : bitR gg w mv nx k = 1
      · rw [if_pos h2]; exact ⟨alvR_succ ih.1 h2, Nat.le_refl _⟩
      · rw [if_neg h2]; exact ⟨ih.1, by omega⟩
    · rw [if_neg h]; exact ⟨ih.1, by omega⟩
theorem finX_sp (T : Nat → Int32) {k : Nat} (hk : k < 2 ^ 31) : -1 < (finX T k).2.2.2.2.1 := by
  have h := lenR_al (nI 2) (cW T) (cM T) (cN T) k
  have h2 := (seqR_al h.1).1
  unfold finX
  rw [h2]
  have h3 := nI_pos' (n := lenR (nI 2) (cW T) (cM T) (cN T) k) (by omega)
  exact Int32.lt_of_lt_of_le (by decide) h3
def mvN : Nat → Int32
  | 0 => -1
  | 1 => 1
  | _ => 3
theorem mvN_succ {p : Nat} (h : p < 2) : mvN p + 2 = mvN (p + 1) := by
  have : p = 0 ∨ p = 1 := by omega
  rcases this with rfl | rfl <;> decide
theorem mvN_lt {p : Nat} (h : ¬ 1 < mvN p) : p < 2 := by
  rcases Nat.lt_or_ge p 2 with q | q
  · exact q
  · obtain ⟨k, rfl⟩ : ∃ k, p = k + 2 := ⟨p - 2, by omega⟩
    exact absurd (show (1 : Int32) < 3 from by decide) h
theorem mvN_ge {p : Nat} (h : 1 < mvN p) : 2 ≤ p := by
  rcases Nat.lt_or_ge p 2 with q | q
  · have : p = 0 ∨ p = 1 := by omega
    rcases this with rfl | rfl <;> exact absurd h (by decide)
  · exact q
theorem nI_01 {p : Nat} (h : p < 2) : (nI p = 0 ∨ nI p = 1) ∧ mvN p = (if nI p = 0 then -1 else 1) := by
  have : p = 0 ∨ p = 1 := by omega
  rcases this with rfl | rfl <;> decide
/-- the moves, left ahead of right; the very first order to the right alone -/
def midP (rec : (Nat → Int32) → Cnt → Cnt) (T : Nat → Int32) (o top z wr : Nat) : Nat → Cnt → Cnt
  | 0, c => c
  | p + 1, c => if z = 0 ∧ p = 0 then c else nextsP rec T o top wr (nI p) (midP rec T o top z wr p c)
theorem midP_2 (rec : (Nat → Int32) → Cnt → Cnt) (T : Nat → Int32) (o top z wr : Nat) (c : Cnt) : midP rec T o top z wr 2 c = wrP rec T o top z wr c := by
  unfold wrP
  simp only [midP]
  by_cases h : z = 0
  · simp only [h]; rfl
  · simp only [h]; rfl
theorem midP_first {rec : (Nat → Int32) → Cnt → Cnt} {T : Nat → Int32} {o top z wr p : Nat} {c : Cnt} (h1 : z = 0 → p = 1) (h2 : z ≠ 0 → p = 0) : midP rec T o top z wr p c = c := by
  by_cases h : z = 0
  · rw [h1 h]; simp only [midP, h, and_self, if_true]
  · rw [h2 h]; rfl
theorem midP_succ {rec : (Nat → Int32) → Cnt → Cnt} {T : Nat → Int32} {o top z wr p : Nat} {c : Cnt} (h : z = 0 → 1 ≤ p) : midP rec T o top z wr (p + 1) c = nextsP rec T o top wr (nI p) (midP rec T o top z wr p c) := by
  simp only [midP]
  rw [if_neg (fun q => by have := h q.1; omega)]
theorem sim_zero {n : Nat} : simM n (cW (fun _ => 0)) (cM (fun _ => 0)) (cN (fun _ => 0)) (fun q => if q < n then -1 else 0) (fun _ => 0) (fun _ => 0) := by
  intro q hq
  refine ⟨by simp [cW, hq], fun h => absurd ?_ h⟩
  simp [cW]
/-- the machine without orders halts at once -/
theorem finX_zero (k : Nat) : hnoX (nI 2) (cW (fun _ => 0)) (finX (fun _ => 0) k) = 1 := by
  unfold finX
  generalize lenR (nI 2) (cW fun _ => 0) (cM fun _ => 0) (cN fun _ => 0) k = m
  generalize seqR (nI 2) (cW fun _ => 0) (cM fun _ => 0) (cN fun _ => 0) m = x
  obtain ⟨st, ce, lf, rt, sp, hh, ib, f⟩ := x
  simp [hnoX, hnoR, cW]
/-- all that is listed -/
noncomputable def allP (S k : Nat) : Cnt := listP S k (S * 2) (fun _ => 0) (0, 0, 0, -1, 0)
