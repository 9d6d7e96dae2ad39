theorem dX11_haltingShare_0 : decode cX11_haltingShare 0 = .ok (.iload_n 1, 1) := by decide +kernel
theorem dX11_haltingShare_1 : decode cX11_haltingShare 1 = .ok (.iload_n 2, 1) := by decide +kernel
set_option maxRecDepth 20000 in
theorem ggX11_haltingShare_X11_demandListing : GoodIn wsX11_haltingShare wsX11_demandListing := goodIn_ca (goodIn_r _ [9, 10, 11, 8, 12, 13, 14, 15, 16, 17] rfl (by decide +kernel)) (goodIn_sub (fun _ h => List.mem_cons_of_mem _ (List.mem_append_left _ (List.mem_append_right _ h))) (by decide +kernel))
set_option maxRecDepth 20000 in
theorem gX11_haltingShare_X11_demandListing : GoodIn wsX11_haltingShare (va_wsS RX11 192 yX11_demandListing wsX11_demandListing) := goodIn_app (goodIn_of _ (by decide +kernel)) ggX11_haltingShare_X11_demandListing
theorem dX11_haltingShare_2 : decode cX11_haltingShare 2 = .ok (.invokestatic 192, 3) := by decide +kernel
theorem dX11_haltingShare_5 : decode cX11_haltingShare 5 = .ok (.aload_n 0, 1) := by decide +kernel
theorem dX11_haltingShare_6 : decode cX11_haltingShare 6 = .ok (.getfield 29, 3) := by decide +kernel
theorem dX11_haltingShare_9 : decode cX11_haltingShare 9 = .ok (.aload_n 0, 1) := by decide +kernel
theorem dX11_haltingShare_10 : decode cX11_haltingShare 10 = .ok (.getfield 22, 3) := by decide +kernel
theorem dX11_haltingShare_13 : decode cX11_haltingShare 13 = .ok (.iload_n 1, 1) := by decide +kernel
theorem dX11_haltingShare_14 : decode cX11_haltingShare 14 = .ok (.iload_n 2, 1) := by decide +kernel
set_option maxRecDepth 20000 in
theorem ggX11_haltingShare_X3_list : GoodIn wsX11_haltingShare wsX3_list := goodIn_ca (goodIn_r _ [22, 23, 24, 25, 26, 27, 28, 29, 30, 31, 21, 32, 33, 34, 35, 36, 37, 38, 39, 40, 41, 42, 43, 44, 45, 46, 47, 48, 49, 50, 51, 52, 53, 54, 55, 56, 57, 58, 59, 60, 61, 62, 63, 64, 65, 66, 67, 68, 69, 70, 71, 72, 73, 74, 75, 76, 77, 78, 79, 80, 81, 82, 83, 84, 85, 86, 87, 88, 89, 90, 91, 92, 93, 94, 95, 96, 97, 98, 99, 100, 101, 102, 103, 104, 105, 106, 107, 108, 109, 110, 111, 112, 113, 114, 115, 116, 117, 118, 119, 120, 121, 122, 8, 123, 124, 125, 126, 127, 128, 129, 130, 131, 132, 133, 134, 135, 136, 137, 138, 139, 140, 141, 142, 143, 144, 145, 146, 147, 148, 149, 150, 151, 152, 153, 154, 155, 156, 157, 158, 159, 160, 161, 162, 163, 164, 165, 166, 167, 168, 169, 170, 171, 172, 173, 174, 175, 176, 177, 178, 179, 180, 181, 182, 183, 184, 185, 186, 187, 188, 189, 190, 191, 192, 193, 194, 195, 196, 204, 205, 206, 207, 208, 209, 210, 211, 212, 213, 214, 215, 216, 217, 218, 219, 220, 221, 222, 223, 224, 225, 226, 227, 228, 229, 230, 231, 232, 233, 234, 235, 236, 237, 238, 239, 240, 241, 242, 243, 244, 245] rfl (by decide +kernel)) (goodIn_sub (fun _ h => List.mem_cons_of_mem _ (List.mem_append_right _ h)) (by decide +kernel))
set_option maxRecDepth 20000 in
theorem gX11_haltingShare_X3_list : GoodIn wsX11_haltingShare (wsV RX11 196 RX3 yX3_list wsX3_list) := goodIn_app (goodIn_of _ (by decide +kernel)) ggX11_haltingShare_X3_list
theorem dX11_haltingShare_15 : decode cX11_haltingShare 15 = .ok (.invokevirtual 196, 3) := by decide +kernel
theorem dX11_haltingShare_18 : decode cX11_haltingShare 18 = .ok (.aload_n 0, 1) := by decide +kernel
theorem dX11_haltingShare_19 : decode cX11_haltingShare 19 = .ok (.getfield 29, 3) := by decide +kernel
theorem dX11_haltingShare_22 : decode cX11_haltingShare 22 = .ok (.getfield 205, 3) := by decide +kernel
theorem dX11_haltingShare_25 : decode cX11_haltingShare 25 = .ok (.aload_n 0, 1) := by decide +kernel
theorem dX11_haltingShare_26 : decode cX11_haltingShare 26 = .ok (.getfield 29, 3) := by decide +kernel
theorem dX11_haltingShare_29 : decode cX11_haltingShare 29 = .ok (.getfield 208, 3) := by decide +kernel
theorem dX11_haltingShare_32 : decode cX11_haltingShare 32 = .ok (.iadd, 1) := by decide +kernel
theorem dX11_haltingShare_33 : decode cX11_haltingShare 33 = .ok (.aload_n 0, 1) := by decide +kernel
theorem dX11_haltingShare_34 : decode cX11_haltingShare 34 = .ok (.getfield 29, 3) := by decide +kernel
theorem dX11_haltingShare_37 : decode cX11_haltingShare 37 = .ok (.getfield 211, 3) := by decide +kernel
theorem dX11_haltingShare_40 : decode cX11_haltingShare 40 = .ok (.iadd, 1) := by decide +kernel
theorem dX11_haltingShare_41 : decode cX11_haltingShare 41 = .ok (.istore_n 3, 1) := by decide +kernel
theorem dX11_haltingShare_42 : decode cX11_haltingShare 42 = .ok (.iload_n 3, 1) := by decide +kernel
theorem dX11_haltingShare_43 : decode cX11_haltingShare 43 = .ok (.ifCond .ne 7, 3) := by decide +kernel
theorem dX11_haltingShare_50 : decode cX11_haltingShare 50 = .ok (.aload_n 0, 1) := by decide +kernel
theorem dX11_haltingShare_51 : decode cX11_haltingShare 51 = .ok (.getfield 29, 3) := by decide +kernel
theorem dX11_haltingShare_54 : decode cX11_haltingShare 54 = .ok (.getfield 205, 3) := by decide +kernel
theorem dX11_haltingShare_57 : decode cX11_haltingShare 57 = .ok (.i2f, 1) := by decide +kernel
theorem dX11_haltingShare_58 : decode cX11_haltingShare 58 = .ok (.iload_n 3, 1) := by decide +kernel
theorem dX11_haltingShare_59 : decode cX11_haltingShare 59 = .ok (.i2f, 1) := by decide +kernel
theorem dX11_haltingShare_60 : decode cX11_haltingShare 60 = .ok (.fdiv, 1) := by decide +kernel
theorem dX11_haltingShare_61 : decode cX11_haltingShare 61 = .ok (.freturn, 1) := by decide +kernel
theorem dX15_haltingShare_0 : decode cX15_haltingShare 0 = .ok (.aload_n 0, 1) := by decide +kernel
theorem dX15_haltingShare_1 : decode cX15_haltingShare 1 = .ok (.iload_n 1, 1) := by decide +kernel
theorem dX15_haltingShare_2 : decode cX15_haltingShare 2 = .ok (.iload_n 2, 1) := by decide +kernel
set_option maxRecDepth 20000 in
theorem ggX15_haltingShare_X15_isListing : GoodIn wsX15_haltingShare wsX15_isListing := goodIn_r _ [8, 9, 10, 11, 12, 7, 13] rfl (by decide +kernel)
set_option maxRecDepth 20000 in
theorem gX15_haltingShare_X15_isListing : GoodIn wsX15_haltingShare (va_wsS RX15 328 yX15_isListing wsX15_isListing) := goodIn_app (goodIn_of _ (by decide +kernel)) ggX15_haltingShare_X15_isListing
theorem dX15_haltingShare_3 : decode cX15_haltingShare 3 = .ok (.invokestatic 328, 3) := by decide +kernel
theorem dX15_haltingShare_6 : decode cX15_haltingShare 6 = .ok (.ifCond .eq 7, 3) := by decide +kernel
theorem dX15_haltingShare_13 : decode cX15_haltingShare 13 = .ok (.iconst 1, 1) := by decide +kernel
theorem dX15_haltingShare_14 : decode cX15_haltingShare 14 = .ok (.putfield 209, 3) := by decide +kernel
theorem dX15_haltingShare_17 : decode cX15_haltingShare 17 = .ok (.aload_n 0, 1) := by decide +kernel
theorem dX15_haltingShare_18 : decode cX15_haltingShare 18 = .ok (.getfield 209, 3) := by decide +kernel
theorem dX15_haltingShare_21 : decode cX15_haltingShare 21 = .ok (.ifCond .le 5, 3) := by decide +kernel
theorem dX15_haltingShare_24 : decode cX15_haltingShare 24 = .ok (.fconst 0, 1) := by decide +kernel
theorem dX15_haltingShare_25 : decode cX15_haltingShare 25 = .ok (.freturn, 1) := by decide +kernel
theorem dX15_haltingShare_9 : decode cX15_haltingShare 9 = .ok (.iconst 0, 1) := by decide +kernel
theorem dX15_haltingShare_10 : decode cX15_haltingShare 10 = .ok (.goto 4, 3) := by decide +kernel
theorem dX15_haltingShare_26 : decode cX15_haltingShare 26 = .ok (.aload_n 0, 1) := by decide +kernel
theorem dX15_haltingShare_27 : decode cX15_haltingShare 27 = .ok (.iload_n 1, 1) := by decide +kernel
theorem dX15_haltingShare_28 : decode cX15_haltingShare 28 = .ok (.iload_n 2, 1) := by decide +kernel
set_option maxRecDepth 20000 in
theorem ggX15_haltingShare_X15_listAll : GoodIn wsX15_haltingShare wsX15_listAll := goodIn_ca (goodIn_ca (goodIn_r _ [17, 2, 3, 4, 18, 19, 20, 21, 22, 23, 24, 25, 26, 27, 28, 29, 30, 31, 32, 33, 34, 35, 36, 37, 38, 39, 40, 41, 42, 7, 43, 44, 45, 46, 47, 48, 49, 50, 51, 52, 53, 54, 55, 56, 57, 58, 59, 60, 61, 62, 63, 64, 65, 66, 67, 68, 69, 70, 71, 72, 73, 74, 75, 76, 77, 78, 79, 80, 81, 82, 83, 84, 85, 86, 87, 88, 89, 90, 91, 92, 93, 94, 95, 96, 97, 98, 99, 100, 101, 102, 103, 104, 105, 106, 107, 108, 109, 110, 111, 112, 113, 114, 115, 116, 117, 118, 119, 120, 121, 122, 123, 124, 125, 126, 127, 128, 129, 130, 131, 132, 133, 134, 135, 136, 137, 138, 139, 140, 141, 142, 143, 144, 145, 146, 147, 148, 149, 150, 151, 152, 153, 154, 155, 156, 157, 158, 159, 160, 161, 162, 163, 164, 165, 166, 167, 168, 169, 170, 171, 172, 173, 174, 175, 176, 177, 178, 179, 180, 181, 182, 183, 184, 185, 186, 187, 188, 189, 190, 191, 192, 193] rfl (by decide +kernel)) (goodIn_sub (fun _ h => List.mem_cons_of_mem _ (List.mem_append_left _ (List.mem_append_right _ h))) (by decide +kernel))) (goodIn_sub (fun _ h => List.mem_cons_of_mem _ (List.mem_append_right _ h)) (by decide +kernel))
set_option maxRecDepth 20000 in
theorem gX15_haltingShare_X15_listAll : GoodIn wsX15_haltingShare (wsV RX15 333 RX15 yX15_listAll wsX15_listAll) := goodIn_app (goodIn_of _ (by decide +kernel)) ggX15_haltingShare_X15_listAll
theorem dX15_haltingShare_29 : decode cX15_haltingShare 29 = .ok (.invokevirtual 333, 3) := by decide +kernel
theorem dX15_haltingShare_32 : decode cX15_haltingShare 32 = .ok (.aload_n 0, 1) := by decide +kernel
theorem dX15_haltingShare_33 : decode cX15_haltingShare 33 = .ok (.getfield 307, 3) := by decide +kernel
theorem dX15_haltingShare_36 : decode cX15_haltingShare 36 = .ok (.i2f, 1) := by decide +kernel
theorem dX15_haltingShare_37 : decode cX15_haltingShare 37 = .ok (.aload_n 0, 1) := by decide +kernel
theorem dX15_haltingShare_38 : decode cX15_haltingShare 38 = .ok (.getfield 307, 3) := by decide +kernel
theorem dX15_haltingShare_41 : decode cX15_haltingShare 41 = .ok (.aload_n 0, 1) := by decide +kernel
theorem dX15_haltingShare_42 : decode cX15_haltingShare 42 = .ok (.getfield 301, 3) := by decide +kernel
theorem dX15_haltingShare_45 : decode cX15_haltingShare 45 = .ok (.iadd, 1) := by decide +kernel
theorem dX15_haltingShare_46 : decode cX15_haltingShare 46 = .ok (.aload_n 0, 1) := by decide +kernel
theorem dX15_haltingShare_47 : decode cX15_haltingShare 47 = .ok (.getfield 304, 3) := by decide +kernel
theorem dX15_haltingShare_50 : decode cX15_haltingShare 50 = .ok (.iadd, 1) := by decide +kernel
theorem dX15_haltingShare_51 : decode cX15_haltingShare 51 = .ok (.i2f, 1) := by decide +kernel
theorem dX15_haltingShare_52 : decode cX15_haltingShare 52 = .ok (.fdiv, 1) := by decide +kernel
theorem dX15_haltingShare_53 : decode cX15_haltingShare 53 = .ok (.freturn, 1) := by decide +kernel
-- ===== how many machines are listed =====
def totC (c : Cnt) : Int32 := c.1 + c.2.1 + c.2.2.1
theorem add_in (a b c : Int32) : a + 1 + b + c = a + b + c + 1 := by
  rw [Int32.add_assoc a 1 b, Int32.add_comm 1 b, ← Int32.add_assoc a b 1, Int32.add_assoc (a + b) 1 c, Int32.add_comm 1 c, ← Int32.add_assoc]
theorem add_mid (a b c : Int32) : a + (b + 1) + c = a + b + c + 1 := by
  rw [← Int32.add_assoc a b 1, Int32.add_assoc (a + b) 1 c, Int32.add_comm 1 c, ← Int32.add_assoc]
theorem tot_nev (T : Nat → Int32) (k : Nat) (c : Cnt) : totC (nevC T k c) = totC c + 1 := by
  by_cases h : nevP T k
  · rw [nevC_yes h]; exact add_mid _ _ _
  · rw [nevC_no h]
    show c.1 + c.2.1 + (c.2.2.1 + 1) = c.1 + c.2.1 + c.2.2.1 + 1
    exact (Int32.add_assoc (c.1 + c.2.1) c.2.2.1 1).symm
theorem tot_halt (x : RunT) (c : Cnt) : totC (haltC x c) = totC c + 1 := add_in _ _ _
theorem tot_iter {f : Nat → Cnt → Cnt} {b : Nat} (h : ∀ i c, ∃ n, n ≤ b ∧ totC (f i c) = totC c + nI n) (m : Nat) (c : Cnt) : ∃ n, n ≤ m * b ∧ totC (iterN f m c) = totC c + nI n := by
  induction m with
  | zero => exact ⟨0, by omega, by show totC c = totC c + nI 0; rw [nI_0, Int32.add_zero]⟩
  | succ m ih =>
    obtain ⟨n, h1, h2⟩ := ih
    obtain ⟨n2, h3, h4⟩ := h m (iterN f m c)
    refine ⟨n + n2, by rw [Nat.succ_mul]; omega, ?_⟩
    show totC (f m (iterN f m c)) = _
    rw [h4, h2, Int32.add_assoc, nI_add]
theorem clamp_le {x : Int32} {m : Nat} (hm : m < 2 ^ 31) (h : x ≤ nI m) : x.toNatClampNeg ≤ m := by
  by_cases h0 : x < 0
  · have h1 : x.toNatClampNeg = 0 := by
      have h2 := Int32.lt_iff_toInt_lt.mp h0
      rw [show (0 : Int32).toInt = 0 from rfl] at h2
      show x.toInt.toNat = 0
      omega
    omega
  · obtain ⟨j, hj, rfl⟩ := nI_of h0
    rw [nI_clamp hj]
    exact (nI_leI hj hm).mp h
theorem top_clamp {S : Nat} (h1 : 1 ≤ S) (h6 : S ≤ 6) (T : Nat → Int32) (st : Int32) : (topI S T st).toNatClampNeg + 1 ≤ S := by
  have h : topI S T st ≤ nI (S - 1) := by
    unfold topI iminJ
    rw [show nI S - 1 = nI (S - 1) from by rw [show (1 : Int32) = nI 1 from rfl, pk_sub h1]]
    split
    · rename_i h; exact Int32.le_of_lt h
    · exact Int32.le_refl _
  have := clamp_le (by omega) h
  omega
def bndL : Nat → Nat
  | 0 => 0
  | d + 1 => 1 + 8 * bndL d
theorem tot_list {S k : Nat} (h1 : 1 ≤ S) (h2 : S ≤ 2) (d : Nat) : ∀ (T : Nat → Int32) (c : Cnt), ∃ n, (0 < d → 1 ≤ n) ∧ n ≤ bndL d ∧ totC (listP S k d T c) = totC c + nI n := by
  induction d with
  | zero => intro T c; exact ⟨0, fun h => absurd h (Nat.lt_irrefl 0), Nat.le_refl _, by show totC c = totC c + nI 0; rw [nI_0, Int32.add_zero]⟩
  | succ d ih =>
    intro T c
    simp only [listP]
    by_cases e : hnoX (nI 2) (cW T) (finX T k) = 0
    · rw [if_pos e]
      exact ⟨1, fun _ => Nat.le_refl _, by show 1 ≤ 1 + 8 * bndL d; omega, tot_nev T k c⟩
    · rw [if_neg e]
      by_cases e2 : d = 0
      · rw [if_pos e2]
        exact ⟨1, fun _ => Nat.le_refl _, by show 1 ≤ 1 + 8 * bndL d; omega, tot_halt _ c⟩
      · rw [if_neg e2]
        have ht := top_clamp h1 (by omega) T (finX T k).1
        generalize (topI S T (finX T k).1).toNatClampNeg = t at ht ⊢
        have hk : ∀ wr r i c, ∃ n, n ≤ bndL d ∧ totC (kidP (listP S k d) T (orX (finX T k)) wr r i c) = totC c + nI n := fun wr r i c => by
          obtain ⟨n, -, h3, h4⟩ := ih (upd T (orX (finX T k)) (codeJ (nI wr) r (nI i))) c
          exact ⟨n, h3, h4⟩
        have hx : ∀ wr r c, ∃ n, n ≤ 2 * bndL d ∧ totC (nextsP (listP S k d) T (orX (finX T k)) t wr r c) = totC c + nI n := fun wr r c => by
          obtain ⟨n, h3, h4⟩ := tot_iter (hk wr r) (t + 1) c
          exact ⟨n, Nat.le_trans h3 (Nat.mul_le_mul_right _ (by omega)), h4⟩
        have hw : ∀ z wr c, ∃ n, n ≤ 4 * bndL d ∧ totC (wrP (listP S k d) T (orX (finX T k)) t z wr c) = totC c + nI n := fun z wr c => by
          unfold wrP
          by_cases hz : z = 0
          · rw [if_pos hz]
            obtain ⟨n, h3, h4⟩ := hx wr 1 c
            exact ⟨n, by omega, h4⟩
          · rw [if_neg hz]
            obtain ⟨n, h3, h4⟩ := hx wr 0 c
            obtain ⟨n2, h5, h6⟩ := hx wr 1 (nextsP (listP S k d) T (orX (finX T k)) t wr 0 c)
            exact ⟨n + n2, by omega, by rw [h6, h4, Int32.add_assoc, nI_add]⟩
        obtain ⟨n, h3, h4⟩ := tot_iter (hw (S * 2 - (d + 1))) 2 (haltC (finX T k) c)
        refine ⟨n + 1, fun _ => by omega, by show n + 1 ≤ 1 + 8 * bndL d; omega, ?_⟩
        rw [h4, tot_halt, Int32.add_assoc, Int32.add_comm 1, nI_1]
theorem all_ne {S k : Nat} (h1 : 1 ≤ S) (h2 : S ≤ 2) : ¬ totC (allP S k) = 0 := by
  obtain ⟨n, h3, h4, h5⟩ := tot_list (k := k) h1 h2 (S * 2) (fun _ => 0) (0, 0, 0, -1, 0)
  have h6 : bndL (S * 2) ≤ 600 := by
    have : S = 1 ∨ S = 2 := by omega
    rcases this with rfl | rfl <;> decide
  have h7 := h3 (by omega)
  unfold allP
  rw [h5, show totC (0, 0, 0, -1, 0) = 0 from by decide, Int32.zero_add]
  exact nI_ne0 (by omega) (by omega)
-- ===== a share is a number =====
def shV (c : Cnt) : UInt32 := FP.fdiv (FP.i2f c.1) (FP.i2f (totC c))
theorem sh_nan {c : Cnt} (h : ¬ totC c = 0) : FP.Core.fIsNaN (shV c) = false := fl_nan h
theorem sh_num {c : Cnt} (h : ¬ totC c = 0) : vf_n32 (shV c) := num32 (sh_nan h)
theorem sh_num64 {c : Cnt} (h : ¬ totC c = 0) : vf_n64 (FP.f2d (shV c)) := num64 ((fl_f2d _).trans (sh_nan h))
set_option maxHeartbeats 4000000 in
set_option maxRecDepth 100000 in
/-- X11_haltingShare -/
theorem c_X11_haltingShare (l : Launch) (hfl : l.stackTraces = false) (dC : Nat → ClassId) (dI : Nat → Nat → Nat) (cI : ClassId) (ya ms ct tg fw : Nat) (li ju bm bo la2 hh2 mm oo la hh rj tj ro rn rh ca sa da xa tn th wb jt br lk : Nat) (wr2 le2 fi2 se2 wr le fi se : Int32) (ge : RunS × Int32 × Int32 × Int32 × RunS × RunS × (Nat → Int32) × (Nat → Int32) × (Nat → Int32) × (Nat → Int32) × Int32 × (Nat → Int32)) (a1 a2 : Int32) (sz : Nat) : vx_Met l yX11_haltingShare wsX11_haltingShare ({ frames := 18, cells := 1, slots := 6, locals := 634 }) (va_Pc [.ref ya, .int a1, .int a2] (cPCz (zX) dC dI [(ya, .inr (16, [.ref ms, .int 0, .ref ju, .ref li, .ref ct, .ref tg, .ref fw])), (li, .inr (8, [.ref bm, .int 0, .int 0, .int 0, .int 0, .int 0, .int 0, .int 0, .ref mm])), (bm, .inr (10, [.int 0, .int 2, .int 2, .ref la2, .int wr2, .int ge.2.2.2.2.2.2.2.2.2.2.1, .int le2, .int fi2, .int se2, .ref bo, .ref hh2])), (bo, .inl (cI, 24, .inl ge.2.2.2.2.2.2.2.2.2.2.2)), (mm, .inr (10, [.int 0, .int 2, .int 2, .ref la, .int wr, .int 0, .int le, .int fi, .int se, .ref oo, .ref hh])), (oo, .inl (cI, 24, .inl (fun _ => 0))), (ju, .inr (7, [.ref rj, .ref ro, .ref wb, .ref jt, .ref br, .ref lk])), (rj, .inr (12, [.int ge.1.1, .int ge.1.2.1, .int ge.1.2.2.1, .int ge.1.2.2.2.1, .int ge.1.2.2.2.2.1, .int ge.1.2.2.2.2.2.1, .ref tj])), (tj, .inl (cI, 1001, .inl ge.1.2.2.2.2.2.2)), (ro, .inr (11, [.int ge.2.1, .int ge.2.2.1, .ref rn, .ref rh, .int ge.2.2.2.1, .ref ca, .ref sa, .ref da, .ref xa])), (rn, .inr (12, [.int ge.2.2.2.2.1.1, .int ge.2.2.2.2.1.2.1, .int ge.2.2.2.2.1.2.2.1, .int ge.2.2.2.2.1.2.2.2.1, .int ge.2.2.2.2.1.2.2.2.2.1, .int ge.2.2.2.2.1.2.2.2.2.2.1, .ref tn])), (tn, .inl (cI, 1001, .inl ge.2.2.2.2.1.2.2.2.2.2.2)), (rh, .inr (12, [.int ge.2.2.2.2.2.1.1, .int ge.2.2.2.2.2.1.2.1, .int ge.2.2.2.2.2.1.2.2.1, .int ge.2.2.2.2.2.1.2.2.2.1, .int ge.2.2.2.2.2.1.2.2.2.2.1, .int ge.2.2.2.2.2.1.2.2.2.2.2.1, .ref th])), (th, .inl (cI, 1001, .inl ge.2.2.2.2.2.1.2.2.2.2.2.2)), (ca, .inl (cI, 501, .inl ge.2.2.2.2.2.2.1)), (sa, .inl (cI, 501, .inl ge.2.2.2.2.2.2.2.1)), (da, .inl (cI, 501, .inl ge.2.2.2.2.2.2.2.2.1)), (xa, .inl (cI, 501, .inl ge.2.2.2.2.2.2.2.2.2.1))] [(cI, .int)] sz)) (va_Qf (fun (r : UInt32) (u : Unit) => r = shV (lsC a1 a2) ∧ pListing a1 a2) (fun (u : Unit) t => cQB dC dI [] [(cI, .int)] (va_A [(ya, .inr (16, [.ref ms, .int 0, .ref ju, .ref li, .ref ct, .ref tg, .ref fw])), (li, .inr (8, [.ref bm, .int 0, .int 0, .int 0, .int 0, .int 0, .int 0, .int 0, .ref mm])), (bm, .inr (10, [.int 0, .int 2, .int 2, .ref la2, .int wr2, .int ge.2.2.2.2.2.2.2.2.2.2.1, .int le2, .int fi2, .int se2, .ref bo, .ref hh2])), (bo, .inl (cI, 24, .inl ge.2.2.2.2.2.2.2.2.2.2.2)), (mm, .inr (10, [.int 0, .int 2, .int 2, .ref la, .int wr, .int 0, .int le, .int fi, .int se, .ref oo, .ref hh])), (oo, .inl (cI, 24, .inl (fun _ => 0))), (ju, .inr (7, [.ref rj, .ref ro, .ref wb, .ref jt, .ref br, .ref lk])), (rj, .inr (12, [.int ge.1.1, .int ge.1.2.1, .int ge.1.2.2.1, .int ge.1.2.2.2.1, .int ge.1.2.2.2.2.1, .int ge.1.2.2.2.2.2.1, .ref tj])), (tj, .inl (cI, 1001, .inl ge.1.2.2.2.2.2.2)), (ro, .inr (11, [.int ge.2.1, .int ge.2.2.1, .ref rn, .ref rh, .int ge.2.2.2.1, .ref ca, .ref sa, .ref da, .ref xa])), (rn, .inr (12, [.int ge.2.2.2.2.1.1, .int ge.2.2.2.2.1.2.1, .int ge.2.2.2.2.1.2.2.1, .int ge.2.2.2.2.1.2.2.2.1, .int ge.2.2.2.2.1.2.2.2.2.1, .int ge.2.2.2.2.1.2.2.2.2.2.1, .ref tn])), (tn, .inl (cI, 1001, .inl ge.2.2.2.2.1.2.2.2.2.2.2)), (rh, .inr (12, [.int ge.2.2.2.2.2.1.1, .int ge.2.2.2.2.2.1.2.1, .int ge.2.2.2.2.2.1.2.2.1, .int ge.2.2.2.2.2.1.2.2.2.1, .int ge.2.2.2.2.2.1.2.2.2.2.1, .int ge.2.2.2.2.2.1.2.2.2.2.2.1, .ref th])), (th, .inl (cI, 1001, .inl ge.2.2.2.2.2.1.2.2.2.2.2.2)), (ca, .inl (cI, 501, .inl ge.2.2.2.2.2.2.1)), (sa, .inl (cI, 501, .inl ge.2.2.2.2.2.2.2.1)), (da, .inl (cI, 501, .inl ge.2.2.2.2.2.2.2.2.1)), (xa, .inl (cI, 501, .inl ge.2.2.2.2.2.2.2.2.2.1))] sz) t) (va_A [(ya, .inr (16, [.ref ms, .int 0, .ref ju, .ref li, .ref ct, .ref tg, .ref fw])), (li, .inr (8, [.ref bm, .int 0, .int 0, .int 0, .int 0, .int 0, .int 0, .int 0, .ref mm])), (bm, .inr (10, [.int 0, .int 2, .int 2, .ref la2, .int wr2, .int ge.2.2.2.2.2.2.2.2.2.2.1, .int le2, .int fi2, .int se2, .ref bo, .ref hh2])), (bo, .inl (cI, 24, .inl ge.2.2.2.2.2.2.2.2.2.2.2)), (mm, .inr (10, [.int 0, .int 2, .int 2, .ref la, .int wr, .int 0, .int le, .int fi, .int se, .ref oo, .ref hh])), (oo, .inl (cI, 24, .inl (fun _ => 0))), (ju, .inr (7, [.ref rj, .ref ro, .ref wb, .ref jt, .ref br, .ref lk])), (rj, .inr (12, [.int ge.1.1, .int ge.1.2.1, .int ge.1.2.2.1, .int ge.1.2.2.2.1, .int ge.1.2.2.2.2.1, .int ge.1.2.2.2.2.2.1, .ref tj])), (tj, .inl (cI, 1001, .inl ge.1.2.2.2.2.2.2)), (ro, .inr (11, [.int ge.2.1, .int ge.2.2.1, .ref rn, .ref rh, .int ge.2.2.2.1, .ref ca, .ref sa, .ref da, .ref xa])), (rn, .inr (12, [.int ge.2.2.2.2.1.1, .int ge.2.2.2.2.1.2.1, .int ge.2.2.2.2.1.2.2.1, .int ge.2.2.2.2.1.2.2.2.1, .int ge.2.2.2.2.1.2.2.2.2.1, .int ge.2.2.2.2.1.2.2.2.2.2.1, .ref tn])), (tn, .inl (cI, 1001, .inl ge.2.2.2.2.1.2.2.2.2.2.2)), (rh, .inr (12, [.int ge.2.2.2.2.2.1.1, .int ge.2.2.2.2.2.1.2.1, .int ge.2.2.2.2.2.1.2.2.1, .int ge.2.2.2.2.2.1.2.2.2.1, .int ge.2.2.2.2.2.1.2.2.2.2.1, .int ge.2.2.2.2.2.1.2.2.2.2.2.1, .ref th])), (th, .inl (cI, 1001, .inl ge.2.2.2.2.2.1.2.2.2.2.2.2)), (ca, .inl (cI, 501, .inl ge.2.2.2.2.2.2.1)), (sa, .inl (cI, 501, .inl ge.2.2.2.2.2.2.2.1)), (da, .inl (cI, 501, .inl ge.2.2.2.2.2.2.2.2.1)), (xa, .inl (cI, 501, .inl ge.2.2.2.2.2.2.2.2.2.1))] sz)) (vx_X (fun (_ : Unit) => True) (fun (E9 : String) (_ : Unit) (_ : State) => E9 = "java/lang/IllegalArgumentException" ∧ ¬ pListing a1 a2) (va_A [(ya, .inr (16, [.ref ms, .int 0, .ref ju, .ref li, .ref ct, .ref tg, .ref fw])), (li, .inr (8, [.ref bm, .int 0, .int 0, .int 0, .int 0, .int 0, .int 0, .int 0, .ref mm])), (bm, .inr (10, [.int 0, .int 2, .int 2, .ref la2, .int wr2, .int ge.2.2.2.2.2.2.2.2.2.2.1, .int le2, .int fi2, .int se2, .ref bo, .ref hh2])), (bo, .inl (cI, 24, .inl ge.2.2.2.2.2.2.2.2.2.2.2)), (mm, .inr (10, [.int 0, .int 2, .int 2, .ref la, .int wr, .int 0, .int le, .int fi, .int se, .ref oo, .ref hh])), (oo, .inl (cI, 24, .inl (fun _ => 0))), (ju, .inr (7, [.ref rj, .ref ro, .ref wb, .ref jt, .ref br, .ref lk])), (rj, .inr (12, [.int ge.1.1, .int ge.1.2.1, .int ge.1.2.2.1, .int ge.1.2.2.2.1, .int ge.1.2.2.2.2.1, .int ge.1.2.2.2.2.2.1, .ref tj])), (tj, .inl (cI, 1001, .inl ge.1.2.2.2.2.2.2)), (ro, .inr (11, [.int ge.2.1, .int ge.2.2.1, .ref rn, .ref rh, .int ge.2.2.2.1, .ref ca, .ref sa, .ref da, .ref xa])), (rn, .inr (12, [.int ge.2.2.2.2.1.1, .int ge.2.2.2.2.1.2.1, .int ge.2.2.2.2.1.2.2.1, .int ge.2.2.2.2.1.2.2.2.1, .int ge.2.2.2.2.1.2.2.2.2.1, .int ge.2.2.2.2.1.2.2.2.2.2.1, .ref tn])), (tn, .inl (cI, 1001, .inl ge.2.2.2.2.1.2.2.2.2.2.2)), (rh, .inr (12, [.int ge.2.2.2.2.2.1.1, .int ge.2.2.2.2.2.1.2.1, .int ge.2.2.2.2.2.1.2.2.1, .int ge.2.2.2.2.2.1.2.2.2.1, .int ge.2.2.2.2.2.1.2.2.2.2.1, .int ge.2.2.2.2.2.1.2.2.2.2.2.1, .ref th])), (th, .inl (cI, 1001, .inl ge.2.2.2.2.2.1.2.2.2.2.2.2)), (ca, .inl (cI, 501, .inl ge.2.2.2.2.2.2.1)), (sa, .inl (cI, 501, .inl ge.2.2.2.2.2.2.2.1)), (da, .inl (cI, 501, .inl ge.2.2.2.2.2.2.2.2.1)), (xa, .inl (cI, 501, .inl ge.2.2.2.2.2.2.2.2.2.1))] sz)) 1 6 (va_A [(ya, .inr (16, [.ref ms, .int 0, .ref ju, .ref li, .ref ct, .ref tg, .ref fw])), (li, .inr (8, [.ref bm, .int 0, .int 0, .int 0, .int 0, .int 0, .int 0, .int 0, .ref mm])), (bm, .inr (10, [.int 0, .int 2, .int 2, .ref la2, .int wr2, .int ge.2.2.2.2.2.2.2.2.2.2.1, .int le2, .int fi2, .int se2, .ref bo, .ref hh2])), (bo, .inl (cI, 24, .inl ge.2.2.2.2.2.2.2.2.2.2.2)), (mm, .inr (10, [.int 0, .int 2, .int 2, .ref la, .int wr, .int 0, .int le, .int fi, .int se, .ref oo, .ref hh])), (oo, .inl (cI, 24, .inl (fun _ => 0))), (ju, .inr (7, [.ref rj, .ref ro, .ref wb, .ref jt, .ref br, .ref lk])), (rj, .inr (12, [.int ge.1.1, .int ge.1.2.1, .int ge.1.2.2.1, .int ge.1.2.2.2.1, .int ge.1.2.2.2.2.1, .int ge.1.2.2.2.2.2.1, .ref tj])), (tj, .inl (cI, 1001, .inl ge.1.2.2.2.2.2.2)), (ro, .inr (11, [.int ge.2.1, .int ge.2.2.1, .ref rn, .ref rh, .int ge.2.2.2.1, .ref ca, .ref sa, .ref da, .ref xa])), (rn, .inr (12, [.int ge.2.2.2.2.1.1, .int ge.2.2.2.2.1.2.1, .int ge.2.2.2.2.1.2.2.1, .int ge.2.2.2.2.1.2.2.2.1, .int ge.2.2.2.2.1.2.2.2.2.1, .int ge.2.2.2.2.1.2.2.2.2.2.1, .ref tn])), (tn, .inl (cI, 1001, .inl ge.2.2.2.2.1.2.2.2.2.2.2)), (rh, .inr (12, [.int ge.2.2.2.2.2.1.1, .int ge.2.2.2.2.2.1.2.1, .int ge.2.2.2.2.2.1.2.2.1, .int ge.2.2.2.2.2.1.2.2.2.1, .int ge.2.2.2.2.2.1.2.2.2.2.1, .int ge.2.2.2.2.2.1.2.2.2.2.2.1, .ref th])), (th, .inl (cI, 1001, .inl ge.2.2.2.2.2.1.2.2.2.2.2.2)), (ca, .inl (cI, 501, .inl ge.2.2.2.2.2.2.1)), (sa, .inl (cI, 501, .inl ge.2.2.2.2.2.2.2.1)), (da, .inl (cI, 501, .inl ge.2.2.2.2.2.2.2.2.1)), (xa, .inl (cI, 501, .inl ge.2.2.2.2.2.2.2.2.2.1))] sz) := by
  refine vx_ofW (cc := cX11_haltingShare) (maxL := 4) (ret := (some .float)) (by decide) rfl ?_
  intro p e s m args below meth c s₁ B hml hxt hv
  obtain ⟨rfl, ⟨hsz, hP, hK, hD0, hN⟩, hZ⟩ := hv
  have hx := B.exec
  have hb := B.bytes
  have hr := B.returns
  have hts := atoms_spec (ws := wsX11_haltingShare) B.pre
  have hown : s.vm.findClass RX11 = some m.cls := findClass_of_methodNamed B.named
  have hlocks := B.notSynchronized
  subst hsz
  have hD := hD0.self (sz := s.heap.size)
  generalize hAe : va_A [(ya, .inr (16, [.ref ms, .int 0, .ref ju, .ref li, .ref ct, .ref tg, .ref fw])), (li, .inr (8, [.ref bm, .int 0, .int 0, .int 0, .int 0, .int 0, .int 0, .int 0, .ref mm])), (bm, .inr (10, [.int 0, .int 2, .int 2, .ref la2, .int wr2, .int ge.2.2.2.2.2.2.2.2.2.2.1, .int le2, .int fi2, .int se2, .ref bo, .ref hh2])), (bo, .inl (cI, 24, .inl ge.2.2.2.2.2.2.2.2.2.2.2)), (mm, .inr (10, [.int 0, .int 2, .int 2, .ref la, .int wr, .int 0, .int le, .int fi, .int se, .ref oo, .ref hh])), (oo, .inl (cI, 24, .inl (fun _ => 0))), (ju, .inr (7, [.ref rj, .ref ro, .ref wb, .ref jt, .ref br, .ref lk])), (rj, .inr (12, [.int ge.1.1, .int ge.1.2.1, .int ge.1.2.2.1, .int ge.1.2.2.2.1, .int ge.1.2.2.2.2.1, .int ge.1.2.2.2.2.2.1, .ref tj])), (tj, .inl (cI, 1001, .inl ge.1.2.2.2.2.2.2)), (ro, .inr (11, [.int ge.2.1, .int ge.2.2.1, .ref rn, .ref rh, .int ge.2.2.2.1, .ref ca, .ref sa, .ref da, .ref xa])), (rn, .inr (12, [.int ge.2.2.2.2.1.1, .int ge.2.2.2.2.1.2.1, .int ge.2.2.2.2.1.2.2.1, .int ge.2.2.2.2.1.2.2.2.1, .int ge.2.2.2.2.1.2.2.2.2.1, .int ge.2.2.2.2.1.2.2.2.2.2.1, .ref tn])), (tn, .inl (cI, 1001, .inl ge.2.2.2.2.1.2.2.2.2.2.2)), (rh, .inr (12, [.int ge.2.2.2.2.2.1.1, .int ge.2.2.2.2.2.1.2.1, .int ge.2.2.2.2.2.1.2.2.1, .int ge.2.2.2.2.2.1.2.2.2.1, .int ge.2.2.2.2.2.1.2.2.2.2.1, .int ge.2.2.2.2.2.1.2.2.2.2.2.1, .ref th])), (th, .inl (cI, 1001, .inl ge.2.2.2.2.2.1.2.2.2.2.2.2)), (ca, .inl (cI, 501, .inl ge.2.2.2.2.2.2.1)), (sa, .inl (cI, 501, .inl ge.2.2.2.2.2.2.2.1)), (da, .inl (cI, 501, .inl ge.2.2.2.2.2.2.2.2.1)), (xa, .inl (cI, 501, .inl ge.2.2.2.2.2.2.2.2.2.1))] s.heap.size = A at hD hZ ⊢
  have hA : ∀ q : Nat, s.heap.size ≤ q → A q := fun q h => by rw [← hAe]; exact Or.inr h
  have hS : va_S A s.heap s.heap [] := va_S.rf
  have hP : va_P (dC, dI) vwCl [(ya, .inr (16, [.ref ms, .int 0, .ref ju, .ref li, .ref ct, .ref tg, .ref fw])), (li, .inr (8, [.ref bm, .int 0, .int 0, .int 0, .int 0, .int 0, .int 0, .int 0, .ref mm])), (bm, .inr (10, [.int 0, .int 2, .int 2, .ref la2, .int wr2, .int ge.2.2.2.2.2.2.2.2.2.2.1, .int le2, .int fi2, .int se2, .ref bo, .ref hh2])), (bo, .inl (cI, 24, .inl ge.2.2.2.2.2.2.2.2.2.2.2)), (mm, .inr (10, [.int 0, .int 2, .int 2, .ref la, .int wr, .int 0, .int le, .int fi, .int se, .ref oo, .ref hh])), (oo, .inl (cI, 24, .inl (fun _ => 0))), (ju, .inr (7, [.ref rj, .ref ro, .ref wb, .ref jt, .ref br, .ref lk])), (rj, .inr (12, [.int ge.1.1, .int ge.1.2.1, .int ge.1.2.2.1, .int ge.1.2.2.2.1, .int ge.1.2.2.2.2.1, .int ge.1.2.2.2.2.2.1, .ref tj])), (tj, .inl (cI, 1001, .inl ge.1.2.2.2.2.2.2)), (ro, .inr (11, [.int ge.2.1, .int ge.2.2.1, .ref rn, .ref rh, .int ge.2.2.2.1, .ref ca, .ref sa, .ref da, .ref xa])), (rn, .inr (12, [.int ge.2.2.2.2.1.1, .int ge.2.2.2.2.1.2.1, .int ge.2.2.2.2.1.2.2.1, .int ge.2.2.2.2.1.2.2.2.1, .int ge.2.2.2.2.1.2.2.2.2.1, .int ge.2.2.2.2.1.2.2.2.2.2.1, .ref tn])), (tn, .inl (cI, 1001, .inl ge.2.2.2.2.1.2.2.2.2.2.2)), (rh, .inr (12, [.int ge.2.2.2.2.2.1.1, .int ge.2.2.2.2.2.1.2.1, .int ge.2.2.2.2.2.1.2.2.1, .int ge.2.2.2.2.2.1.2.2.2.1, .int ge.2.2.2.2.2.1.2.2.2.2.1, .int ge.2.2.2.2.2.1.2.2.2.2.2.1, .ref th])), (th, .inl (cI, 1001, .inl ge.2.2.2.2.2.1.2.2.2.2.2.2)), (ca, .inl (cI, 501, .inl ge.2.2.2.2.2.2.1)), (sa, .inl (cI, 501, .inl ge.2.2.2.2.2.2.2.1)), (da, .inl (cI, 501, .inl ge.2.2.2.2.2.2.2.2.1)), (xa, .inl (cI, 501, .inl ge.2.2.2.2.2.2.2.2.2.1))] s.heap := hP
  have hD : va_D A [(ya, .inr (16, [.ref ms, .int 0, .ref ju, .ref li, .ref ct, .ref tg, .ref fw])), (li, .inr (8, [.ref bm, .int 0, .int 0, .int 0, .int 0, .int 0, .int 0, .int 0, .ref mm])), (bm, .inr (10, [.int 0, .int 2, .int 2, .ref la2, .int wr2, .int ge.2.2.2.2.2.2.2.2.2.2.1, .int le2, .int fi2, .int se2, .ref bo, .ref hh2])), (bo, .inl (cI, 24, .inl ge.2.2.2.2.2.2.2.2.2.2.2)), (mm, .inr (10, [.int 0, .int 2, .int 2, .ref la, .int wr, .int 0, .int le, .int fi, .int se, .ref oo, .ref hh])), (oo, .inl (cI, 24, .inl (fun _ => 0))), (ju, .inr (7, [.ref rj, .ref ro, .ref wb, .ref jt, .ref br, .ref lk])), (rj, .inr (12, [.int ge.1.1, .int ge.1.2.1, .int ge.1.2.2.1, .int ge.1.2.2.2.1, .int ge.1.2.2.2.2.1, .int ge.1.2.2.2.2.2.1, .ref tj])), (tj, .inl (cI, 1001, .inl ge.1.2.2.2.2.2.2)), (ro, .inr (11, [.int ge.2.1, .int ge.2.2.1, .ref rn, .ref rh, .int ge.2.2.2.1, .ref ca, .ref sa, .ref da, .ref xa])), (rn, .inr (12, [.int ge.2.2.2.2.1.1, .int ge.2.2.2.2.1.2.1, .int ge.2.2.2.2.1.2.2.1, .int ge.2.2.2.2.1.2.2.2.1, .int ge.2.2.2.2.1.2.2.2.2.1, .int ge.2.2.2.2.1.2.2.2.2.2.1, .ref tn])), (tn, .inl (cI, 1001, .inl ge.2.2.2.2.1.2.2.2.2.2.2)), (rh, .inr (12, [.int ge.2.2.2.2.2.1.1, .int ge.2.2.2.2.2.1.2.1, .int ge.2.2.2.2.2.1.2.2.1, .int ge.2.2.2.2.2.1.2.2.2.1, .int ge.2.2.2.2.2.1.2.2.2.2.1, .int ge.2.2.2.2.2.1.2.2.2.2.2.1, .ref th])), (th, .inl (cI, 1001, .inl ge.2.2.2.2.2.1.2.2.2.2.2.2)), (ca, .inl (cI, 501, .inl ge.2.2.2.2.2.2.1)), (sa, .inl (cI, 501, .inl ge.2.2.2.2.2.2.2.1)), (da, .inl (cI, 501, .inl ge.2.2.2.2.2.2.2.2.1)), (xa, .inl (cI, 501, .inl ge.2.2.2.2.2.2.2.2.2.1))] := hD
  have hl := lv_entry ([.ref ya, .int a1, .int a2]) (n := 4) (Nat.le_of_ble_eq_true rfl)
  rw [lg_entry_eq]
  generalize (lg_sl ([.ref ya, .int a1, .int a2]) ++ List.replicate (4 - (lg_sl ([.ref ya, .int a1, .int a2])).length) Slot.unset).toArray = ls at hl ⊢
  have hl : lv_has ls 4 [(0, .ref ya), (1, .int a1), (2, .int a2)] := hl
  have iWX11 : ∀ w ∈ u_ws RX11 TX11 7, w ∈ wsX11_haltingShare := by decide +kernel
  have iWX3 : ∀ w ∈ u_ws RX3 TX3 9, w ∈ wsX11_haltingShare := by decide +kernel
  refine lv_iload_n hx hb dX11_haltingShare_0 rfl (lv_at hl 1 rfl) ?_
  refine lv_iload_n hx hb dX11_haltingShare_1 rfl (lv_at hl 2 rfl) ?_
  have hPc := hP.sub (ws' := []) [] rfl
  have hDc := hD.sub (ws' := []) [] (by decide) rfl
  have hKc := hK.sub (tys' := []) [] rfl
  have hFc := va_free (wc := []) hD hS hA [] rfl
  refine vx_callv (vx_runS (As := [.int a1, .int a2]) (rest := []) ⟨hx, hb, hml, hown, hts⟩ (c_X11_demandListing l hfl dC dI a1 a2 s.heap.size) (va_cwS 2 hts gX11_haltingShare_X11_demandListing rfl rfl rfl (by decide +kernel) ⟨Nat.le_of_ble_eq_true rfl, Nat.le_of_ble_eq_true rfl⟩) (pcSz (zX_ok) hPc hDc hKc hN hZ hS hFc) rfl rfl hl.1 rfl (lv_room (Nat.le_of_ble_eq_true rfl)) dX11_haltingShare_2 ⟨Nat.le_of_ble_eq_true rfl, Nat.le_of_ble_eq_true rfl⟩) hS (fun q _ h => hFc q h) hFc (fun q _ h => hFc q h) (fun E9 ce9 q9 u9 t9 H9 locs9 ht9 hvm9 hp9 hE9 hz9 hk9 hS9 hc9 hv9 hcl9 => vx_out (fun x h => (hxt x h).elim) hlocks hc9 hv9 hcl9 (fun t1 ht1 ha1 => ⟨(), trivial, hE9, hS9.F ht1⟩) hS9.2.2 (Nat.le_of_ble_eq_true rfl) (Nat.le_of_ble_eq_true rfl)) (fun u t H1 locs ht hvm hw_1 hB hz1 hk1 hS => ?_)
  obtain ⟨hP1, hK1, hD1⟩ := hB
  rw [ht] at hP1
  try dsimp only at hw_1
  obtain ⟨hP, hD⟩ := va_join (wr := [(ya, .inr (16, [.ref ms, .int 0, .ref ju, .ref li, .ref ct, .ref tg, .ref fw])), (li, .inr (8, [.ref bm, .int 0, .int 0, .int 0, .int 0, .int 0, .int 0, .int 0, .ref mm])), (bm, .inr (10, [.int 0, .int 2, .int 2, .ref la2, .int wr2, .int ge.2.2.2.2.2.2.2.2.2.2.1, .int le2, .int fi2, .int se2, .ref bo, .ref hh2])), (bo, .inl (cI, 24, .inl ge.2.2.2.2.2.2.2.2.2.2.2)), (mm, .inr (10, [.int 0, .int 2, .int 2, .ref la, .int wr, .int 0, .int le, .int fi, .int se, .ref oo, .ref hh])), (oo, .inl (cI, 24, .inl (fun _ => 0))), (ju, .inr (7, [.ref rj, .ref ro, .ref wb, .ref jt, .ref br, .ref lk])), (rj, .inr (12, [.int ge.1.1, .int ge.1.2.1, .int ge.1.2.2.1, .int ge.1.2.2.2.1, .int ge.1.2.2.2.2.1, .int ge.1.2.2.2.2.2.1, .ref tj])), (tj, .inl (cI, 1001, .inl ge.1.2.2.2.2.2.2)), (ro, .inr (11, [.int ge.2.1, .int ge.2.2.1, .ref rn, .ref rh, .int ge.2.2.2.1, .ref ca, .ref sa, .ref da, .ref xa])), (rn, .inr (12, [.int ge.2.2.2.2.1.1, .int ge.2.2.2.2.1.2.1, .int ge.2.2.2.2.1.2.2.1, .int ge.2.2.2.2.1.2.2.2.1, .int ge.2.2.2.2.1.2.2.2.2.1, .int ge.2.2.2.2.1.2.2.2.2.2.1, .ref tn])), (tn, .inl (cI, 1001, .inl ge.2.2.2.2.1.2.2.2.2.2.2)), (rh, .inr (12, [.int ge.2.2.2.2.2.1.1, .int ge.2.2.2.2.2.1.2.1, .int ge.2.2.2.2.2.1.2.2.1, .int ge.2.2.2.2.2.1.2.2.2.1, .int ge.2.2.2.2.2.1.2.2.2.2.1, .int ge.2.2.2.2.2.1.2.2.2.2.2.1, .ref th])), (th, .inl (cI, 1001, .inl ge.2.2.2.2.2.1.2.2.2.2.2.2)), (ca, .inl (cI, 501, .inl ge.2.2.2.2.2.2.1)), (sa, .inl (cI, 501, .inl ge.2.2.2.2.2.2.2.1)), (da, .inl (cI, 501, .inl ge.2.2.2.2.2.2.2.2.1)), (xa, .inl (cI, 501, .inl ge.2.2.2.2.2.2.2.2.2.1))]) (w1 := []) hP hD [] [0, 1, 2, 3, 4, 5, 6, 7, 8, 9, 10, 11, 12, 13, 14, 15, 16, 17] rfl rfl (by decide) (by decide) hk1 hFc hP1 hD1
  generalize H1 = H at hP hS ⊢
  have hP : va_P (dC, dI) vwCl [(ya, .inr (16, [.ref ms, .int 0, .ref ju, .ref li, .ref ct, .ref tg, .ref fw])), (li, .inr (8, [.ref bm, .int 0, .int 0, .int 0, .int 0, .int 0, .int 0, .int 0, .ref mm])), (bm, .inr (10, [.int 0, .int 2, .int 2, .ref la2, .int wr2, .int ge.2.2.2.2.2.2.2.2.2.2.1, .int le2, .int fi2, .int se2, .ref bo, .ref hh2])), (bo, .inl (cI, 24, .inl ge.2.2.2.2.2.2.2.2.2.2.2)), (mm, .inr (10, [.int 0, .int 2, .int 2, .ref la, .int wr, .int 0, .int le, .int fi, .int se, .ref oo, .ref hh])), (oo, .inl (cI, 24, .inl (fun _ => 0))), (ju, .inr (7, [.ref rj, .ref ro, .ref wb, .ref jt, .ref br, .ref lk])), (rj, .inr (12, [.int ge.1.1, .int ge.1.2.1, .int ge.1.2.2.1, .int ge.1.2.2.2.1, .int ge.1.2.2.2.2.1, .int ge.1.2.2.2.2.2.1, .ref tj])), (tj, .inl (cI, 1001, .inl ge.1.2.2.2.2.2.2)), (ro, .inr (11, [.int ge.2.1, .int ge.2.2.1, .ref rn, .ref rh, .int ge.2.2.2.1, .ref ca, .ref sa, .ref da, .ref xa])), (rn, .inr (12, [.int ge.2.2.2.2.1.1, .int ge.2.2.2.2.1.2.1, .int ge.2.2.2.2.1.2.2.1, .int ge.2.2.2.2.1.2.2.2.1, .int ge.2.2.2.2.1.2.2.2.2.1, .int ge.2.2.2.2.1.2.2.2.2.2.1, .ref tn])), (tn, .inl (cI, 1001, .inl ge.2.2.2.2.1.2.2.2.2.2.2)), (rh, .inr (12, [.int ge.2.2.2.2.2.1.1, .int ge.2.2.2.2.2.1.2.1, .int ge.2.2.2.2.2.1.2.2.1, .int ge.2.2.2.2.2.1.2.2.2.1, .int ge.2.2.2.2.2.1.2.2.2.2.1, .int ge.2.2.2.2.2.1.2.2.2.2.2.1, .ref th])), (th, .inl (cI, 1001, .inl ge.2.2.2.2.2.1.2.2.2.2.2.2)), (ca, .inl (cI, 501, .inl ge.2.2.2.2.2.2.1)), (sa, .inl (cI, 501, .inl ge.2.2.2.2.2.2.2.1)), (da, .inl (cI, 501, .inl ge.2.2.2.2.2.2.2.2.1)), (xa, .inl (cI, 501, .inl ge.2.2.2.2.2.2.2.2.2.1))] H := hP
  have hD : va_D A [(ya, .inr (16, [.ref ms, .int 0, .ref ju, .ref li, .ref ct, .ref tg, .ref fw])), (li, .inr (8, [.ref bm, .int 0, .int 0, .int 0, .int 0, .int 0, .int 0, .int 0, .ref mm])), (bm, .inr (10, [.int 0, .int 2, .int 2, .ref la2, .int wr2, .int ge.2.2.2.2.2.2.2.2.2.2.1, .int le2, .int fi2, .int se2, .ref bo, .ref hh2])), (bo, .inl (cI, 24, .inl ge.2.2.2.2.2.2.2.2.2.2.2)), (mm, .inr (10, [.int 0, .int 2, .int 2, .ref la, .int wr, .int 0, .int le, .int fi, .int se, .ref oo, .ref hh])), (oo, .inl (cI, 24, .inl (fun _ => 0))), (ju, .inr (7, [.ref rj, .ref ro, .ref wb, .ref jt, .ref br, .ref lk])), (rj, .inr (12, [.int ge.1.1, .int ge.1.2.1, .int ge.1.2.2.1, .int ge.1.2.2.2.1, .int ge.1.2.2.2.2.1, .int ge.1.2.2.2.2.2.1, .ref tj])), (tj, .inl (cI, 1001, .inl ge.1.2.2.2.2.2.2)), (ro, .inr (11, [.int ge.2.1, .int ge.2.2.1, .ref rn, .ref rh, .int ge.2.2.2.1, .ref ca, .ref sa, .ref da, .ref xa])), (rn, .inr (12, [.int ge.2.2.2.2.1.1, .int ge.2.2.2.2.1.2.1, .int ge.2.2.2.2.1.2.2.1, .int ge.2.2.2.2.1.2.2.2.1, .int ge.2.2.2.2.1.2.2.2.2.1, .int ge.2.2.2.2.1.2.2.2.2.2.1, .ref tn])), (tn, .inl (cI, 1001, .inl ge.2.2.2.2.1.2.2.2.2.2.2)), (rh, .inr (12, [.int ge.2.2.2.2.2.1.1, .int ge.2.2.2.2.2.1.2.1, .int ge.2.2.2.2.2.1.2.2.1, .int ge.2.2.2.2.2.1.2.2.2.1, .int ge.2.2.2.2.2.1.2.2.2.2.1, .int ge.2.2.2.2.2.1.2.2.2.2.2.1, .ref th])), (th, .inl (cI, 1001, .inl ge.2.2.2.2.2.1.2.2.2.2.2.2)), (ca, .inl (cI, 501, .inl ge.2.2.2.2.2.2.1)), (sa, .inl (cI, 501, .inl ge.2.2.2.2.2.2.2.1)), (da, .inl (cI, 501, .inl ge.2.2.2.2.2.2.2.2.1)), (xa, .inl (cI, 501, .inl ge.2.2.2.2.2.2.2.2.2.1))] := hD
  refine W.widen (k := 1) (n := 6) (Nat.le_of_ble_eq_true rfl) (Nat.le_of_ble_eq_true rfl) ?_
  have hpl := hw_1
  obtain ⟨hs9, k9, hk1, hk2, ek9⟩ := lst_nums hpl
  subst ek9
  rcases hs9 with es9 | es9
  · subst es9
    have hl : lv_has ls 4 [(0, .ref ya), (1, .int (nI 1)), (2, .int (nI k9))] := hl
    refine lv_aload_n hx hb dX11_haltingShare_5 rfl (lv_at hl 0 rfl) ?_
    refine va_get (D := (dC, dI)) (ci := 16) (v := .ref li) (C := RX11) (T := TX11) (N := 7) hx hb hts iWX11 hown hK hP 0 rfl rfl 3 (by decide) (hts (.fieldLink RX11 29 "Beaverhall" "listing" "LBeaverhall$Listing;") (by decide +kernel)) (fun _ h9 => h9) rfl dX11_haltingShare_6 ?_
    refine lv_aload_n hx hb dX11_haltingShare_9 rfl (lv_at hl 0 rfl) ?_
    refine va_get (D := (dC, dI)) (ci := 16) (v := .ref ju) (C := RX11) (T := TX11) (N := 7) hx hb hts iWX11 hown hK hP 0 rfl rfl 2 (by decide) (hts (.fieldLink RX11 22 "Beaverhall" "judge" "LBeaverhall$Judge;") (by decide +kernel)) (fun _ h9 => h9) rfl dX11_haltingShare_10 ?_
    refine lv_iload_n hx hb dX11_haltingShare_13 rfl (lv_at hl 1 rfl) ?_
    refine lv_iload_n hx hb dX11_haltingShare_14 rfl (lv_at hl 2 rfl) ?_
    have hPc := hP.sub (ws' := [(li, .inr (8, [.ref bm, .int 0, .int 0, .int 0, .int 0, .int 0, .int 0, .int 0, .ref mm])), (bm, .inr (10, [.int 0, .int 2, .int 2, .ref la2, .int wr2, .int ge.2.2.2.2.2.2.2.2.2.2.1, .int le2, .int fi2, .int se2, .ref bo, .ref hh2])), (bo, .inl (cI, 24, .inl ge.2.2.2.2.2.2.2.2.2.2.2)), (mm, .inr (10, [.int 0, .int 2, .int 2, .ref la, .int wr, .int 0, .int le, .int fi, .int se, .ref oo, .ref hh])), (oo, .inl (cI, 24, .inl (fun _ => 0))), (ju, .inr (7, [.ref rj, .ref ro, .ref wb, .ref jt, .ref br, .ref lk])), (rj, .inr (12, [.int ge.1.1, .int ge.1.2.1, .int ge.1.2.2.1, .int ge.1.2.2.2.1, .int ge.1.2.2.2.2.1, .int ge.1.2.2.2.2.2.1, .ref tj])), (tj, .inl (cI, 1001, .inl ge.1.2.2.2.2.2.2)), (ro, .inr (11, [.int ge.2.1, .int ge.2.2.1, .ref rn, .ref rh, .int ge.2.2.2.1, .ref ca, .ref sa, .ref da, .ref xa])), (rn, .inr (12, [.int ge.2.2.2.2.1.1, .int ge.2.2.2.2.1.2.1, .int ge.2.2.2.2.1.2.2.1, .int ge.2.2.2.2.1.2.2.2.1, .int ge.2.2.2.2.1.2.2.2.2.1, .int ge.2.2.2.2.1.2.2.2.2.2.1, .ref tn])), (tn, .inl (cI, 1001, .inl ge.2.2.2.2.1.2.2.2.2.2.2)), (rh, .inr (12, [.int ge.2.2.2.2.2.1.1, .int ge.2.2.2.2.2.1.2.1, .int ge.2.2.2.2.2.1.2.2.1, .int ge.2.2.2.2.2.1.2.2.2.1, .int ge.2.2.2.2.2.1.2.2.2.2.1, .int ge.2.2.2.2.2.1.2.2.2.2.2.1, .ref th])), (th, .inl (cI, 1001, .inl ge.2.2.2.2.2.1.2.2.2.2.2.2)), (ca, .inl (cI, 501, .inl ge.2.2.2.2.2.2.1)), (sa, .inl (cI, 501, .inl ge.2.2.2.2.2.2.2.1)), (da, .inl (cI, 501, .inl ge.2.2.2.2.2.2.2.2.1)), (xa, .inl (cI, 501, .inl ge.2.2.2.2.2.2.2.2.2.1))]) [1, 2, 3, 4, 5, 6, 7, 8, 9, 10, 11, 12, 13, 14, 15, 16, 17] rfl
    have hDc := hD.sub (ws' := [(li, .inr (8, [.ref bm, .int 0, .int 0, .int 0, .int 0, .int 0, .int 0, .int 0, .ref mm])), (bm, .inr (10, [.int 0, .int 2, .int 2, .ref la2, .int wr2, .int ge.2.2.2.2.2.2.2.2.2.2.1, .int le2, .int fi2, .int se2, .ref bo, .ref hh2])), (bo, .inl (cI, 24, .inl ge.2.2.2.2.2.2.2.2.2.2.2)), (mm, .inr (10, [.int 0, .int 2, .int 2, .ref la, .int wr, .int 0, .int le, .int fi, .int se, .ref oo, .ref hh])), (oo, .inl (cI, 24, .inl (fun _ => 0))), (ju, .inr (7, [.ref rj, .ref ro, .ref wb, .ref jt, .ref br, .ref lk])), (rj, .inr (12, [.int ge.1.1, .int ge.1.2.1, .int ge.1.2.2.1, .int ge.1.2.2.2.1, .int ge.1.2.2.2.2.1, .int ge.1.2.2.2.2.2.1, .ref tj])), (tj, .inl (cI, 1001, .inl ge.1.2.2.2.2.2.2)), (ro, .inr (11, [.int ge.2.1, .int ge.2.2.1, .ref rn, .ref rh, .int ge.2.2.2.1, .ref ca, .ref sa, .ref da, .ref xa])), (rn, .inr (12, [.int ge.2.2.2.2.1.1, .int ge.2.2.2.2.1.2.1, .int ge.2.2.2.2.1.2.2.1, .int ge.2.2.2.2.1.2.2.2.1, .int ge.2.2.2.2.1.2.2.2.2.1, .int ge.2.2.2.2.1.2.2.2.2.2.1, .ref tn])), (tn, .inl (cI, 1001, .inl ge.2.2.2.2.1.2.2.2.2.2.2)), (rh, .inr (12, [.int ge.2.2.2.2.2.1.1, .int ge.2.2.2.2.2.1.2.1, .int ge.2.2.2.2.2.1.2.2.1, .int ge.2.2.2.2.2.1.2.2.2.1, .int ge.2.2.2.2.2.1.2.2.2.2.1, .int ge.2.2.2.2.2.1.2.2.2.2.2.1, .ref th])), (th, .inl (cI, 1001, .inl ge.2.2.2.2.2.1.2.2.2.2.2.2)), (ca, .inl (cI, 501, .inl ge.2.2.2.2.2.2.1)), (sa, .inl (cI, 501, .inl ge.2.2.2.2.2.2.2.1)), (da, .inl (cI, 501, .inl ge.2.2.2.2.2.2.2.2.1)), (xa, .inl (cI, 501, .inl ge.2.2.2.2.2.2.2.2.2.1))]) [1, 2, 3, 4, 5, 6, 7, 8, 9, 10, 11, 12, 13, 14, 15, 16, 17] (by decide) rfl
    have hKc := hK.sub (tys' := [(cI, .int)]) [0] rfl
    have hFc := va_free (wc := [(li, .inr (8, [.ref bm, .int 0, .int 0, .int 0, .int 0, .int 0, .int 0, .int 0, .ref mm])), (bm, .inr (10, [.int 0, .int 2, .int 2, .ref la2, .int wr2, .int ge.2.2.2.2.2.2.2.2.2.2.1, .int le2, .int fi2, .int se2, .ref bo, .ref hh2])), (bo, .inl (cI, 24, .inl ge.2.2.2.2.2.2.2.2.2.2.2)), (mm, .inr (10, [.int 0, .int 2, .int 2, .ref la, .int wr, .int 0, .int le, .int fi, .int se, .ref oo, .ref hh])), (oo, .inl (cI, 24, .inl (fun _ => 0))), (ju, .inr (7, [.ref rj, .ref ro, .ref wb, .ref jt, .ref br, .ref lk])), (rj, .inr (12, [.int ge.1.1, .int ge.1.2.1, .int ge.1.2.2.1, .int ge.1.2.2.2.1, .int ge.1.2.2.2.2.1, .int ge.1.2.2.2.2.2.1, .ref tj])), (tj, .inl (cI, 1001, .inl ge.1.2.2.2.2.2.2)), (ro, .inr (11, [.int ge.2.1, .int ge.2.2.1, .ref rn, .ref rh, .int ge.2.2.2.1, .ref ca, .ref sa, .ref da, .ref xa])), (rn, .inr (12, [.int ge.2.2.2.2.1.1, .int ge.2.2.2.2.1.2.1, .int ge.2.2.2.2.1.2.2.1, .int ge.2.2.2.2.1.2.2.2.1, .int ge.2.2.2.2.1.2.2.2.2.1, .int ge.2.2.2.2.1.2.2.2.2.2.1, .ref tn])), (tn, .inl (cI, 1001, .inl ge.2.2.2.2.1.2.2.2.2.2.2)), (rh, .inr (12, [.int ge.2.2.2.2.2.1.1, .int ge.2.2.2.2.2.1.2.1, .int ge.2.2.2.2.2.1.2.2.1, .int ge.2.2.2.2.2.1.2.2.2.1, .int ge.2.2.2.2.2.1.2.2.2.2.1, .int ge.2.2.2.2.2.1.2.2.2.2.2.1, .ref th])), (th, .inl (cI, 1001, .inl ge.2.2.2.2.2.1.2.2.2.2.2.2)), (ca, .inl (cI, 501, .inl ge.2.2.2.2.2.2.1)), (sa, .inl (cI, 501, .inl ge.2.2.2.2.2.2.2.1)), (da, .inl (cI, 501, .inl ge.2.2.2.2.2.2.2.2.1)), (xa, .inl (cI, 501, .inl ge.2.2.2.2.2.2.2.2.2.1))]) hD hS hA [1, 2, 3, 4, 5, 6, 7, 8, 9, 10, 11, 12, 13, 14, 15, 16, 17] rfl
    refine va_callv (va_runV (As := [.ref ju, .int (nI 1), .int (nI k9)]) (rest := []) ⟨hx, hb, hml, hown, hts⟩ (c_X3_list_1 l dC dI cI li ju bm bo la2 hh2 mm oo la hh rj tj ro rn rh ca sa da xa tn th wb jt br lk wr2 le2 fi2 se2 wr le fi se ((ge.1.1, ge.1.2.1, ge.1.2.2.1, ge.1.2.2.2.1, ge.1.2.2.2.2.1, ge.1.2.2.2.2.2.1, ge.1.2.2.2.2.2.2), ge.2.1, ge.2.2.1, ge.2.2.2.1, (ge.2.2.2.2.1.1, ge.2.2.2.2.1.2.1, ge.2.2.2.2.1.2.2.1, ge.2.2.2.2.1.2.2.2.1, ge.2.2.2.2.1.2.2.2.2.1, ge.2.2.2.2.1.2.2.2.2.2.1, ge.2.2.2.2.1.2.2.2.2.2.2), (ge.2.2.2.2.2.1.1, ge.2.2.2.2.2.1.2.1, ge.2.2.2.2.2.1.2.2.1, ge.2.2.2.2.2.1.2.2.2.1, ge.2.2.2.2.2.1.2.2.2.2.1, ge.2.2.2.2.2.1.2.2.2.2.2.1, ge.2.2.2.2.2.1.2.2.2.2.2.2), ge.2.2.2.2.2.2.1, ge.2.2.2.2.2.2.2.1, ge.2.2.2.2.2.2.2.2.1, ge.2.2.2.2.2.2.2.2.2.1, ge.2.2.2.2.2.2.2.2.2.2.1, ge.2.2.2.2.2.2.2.2.2.2.2) k9 (by omega) H.size) (cwV 3 hts gX11_haltingShare_X3_list rfl rfl rfl (by decide +kernel) ⟨Nat.le_of_ble_eq_true rfl, Nat.le_of_ble_eq_true rfl⟩) (pcV hPc hDc hKc hN (ci := 8) (q0 := 0) rfl rfl) rfl rfl hl.1 rfl (lv_room (Nat.le_of_ble_eq_true rfl)) dX11_haltingShare_15 ⟨Nat.le_of_ble_eq_true rfl, Nat.le_of_ble_eq_true rfl⟩) hS (fun q _ h => hFc q h) hFc (fun u t H1 locs ht hvm hw_5 hB hz1 hk1 hS => ?_)
    obtain ⟨cn_2, tb_3, bf_4⟩ := u
    obtain ⟨hP1, hK1, hD1⟩ := hB
    rw [ht] at hP1
    try dsimp only at hw_5
    obtain ⟨hP, hD⟩ := va_join (wr := [(ya, .inr (16, [.ref ms, .int 0, .ref ju, .ref li, .ref ct, .ref tg, .ref fw]))]) (w1 := [(li, .inr (8, [.ref bm, .int cn_2.1, .int cn_2.2.1, .int cn_2.2.2.1, .int cn_2.2.2.2.1, .int cn_2.2.2.2.2, .int (nI 1), .int (nI k9), .ref mm])), (bm, .inr (10, [.int 0, .int 2, .int 2, .ref la2, .int wr2, .int tb_3, .int le2, .int fi2, .int se2, .ref bo, .ref hh2])), (bo, .inl (cI, 24, .inl bf_4))]) hP hD [1, 2, 3, 4, 5, 6, 7, 8, 9, 10, 11, 12, 13, 14, 15, 16, 17] [0] rfl rfl (by decide) (by decide) hk1 hFc hP1 hD1
    generalize H1 = H at hP hS ⊢
    have hP : va_P (dC, dI) vwCl [(ya, .inr (16, [.ref ms, .int 0, .ref ju, .ref li, .ref ct, .ref tg, .ref fw])), (li, .inr (8, [.ref bm, .int cn_2.1, .int cn_2.2.1, .int cn_2.2.2.1, .int cn_2.2.2.2.1, .int cn_2.2.2.2.2, .int (nI 1), .int (nI k9), .ref mm])), (bm, .inr (10, [.int 0, .int 2, .int 2, .ref la2, .int wr2, .int tb_3, .int le2, .int fi2, .int se2, .ref bo, .ref hh2])), (bo, .inl (cI, 24, .inl bf_4))] H := hP
    have hD : va_D A [(ya, .inr (16, [.ref ms, .int 0, .ref ju, .ref li, .ref ct, .ref tg, .ref fw])), (li, .inr (8, [.ref bm, .int cn_2.1, .int cn_2.2.1, .int cn_2.2.2.1, .int cn_2.2.2.2.1, .int cn_2.2.2.2.2, .int (nI 1), .int (nI k9), .ref mm])), (bm, .inr (10, [.int 0, .int 2, .int 2, .ref la2, .int wr2, .int tb_3, .int le2, .int fi2, .int se2, .ref bo, .ref hh2])), (bo, .inl (cI, 24, .inl bf_4))] := hD
    refine lv_aload_n hx hb dX11_haltingShare_18 rfl (lv_at hl 0 rfl) ?_
    refine va_get (D := (dC, dI)) (ci := 16) (v := .ref li) (C := RX11) (T := TX11) (N := 7) hx hb hts iWX11 hown hK hP 0 rfl rfl 3 (by decide) (hts (.fieldLink RX11 29 "Beaverhall" "listing" "LBeaverhall$Listing;") (by decide +kernel)) (fun _ h9 => h9) rfl dX11_haltingShare_19 ?_
    refine va_get (D := (dC, dI)) (ci := 8) (v := .int cn_2.1) (C := RX3) (T := TX3) (N := 9) hx hb hts iWX3 hown hK hP 1 rfl rfl 1 (by decide) (hts (.fieldLink RX11 205 "Beaverhall$Listing" "halting" "I") (by decide +kernel)) (fun _ h9 => h9) rfl dX11_haltingShare_22 ?_
    refine lv_aload_n hx hb dX11_haltingShare_25 rfl (lv_at hl 0 rfl) ?_
    refine va_get (D := (dC, dI)) (ci := 16) (v := .ref li) (C := RX11) (T := TX11) (N := 7) hx hb hts iWX11 hown hK hP 0 rfl rfl 3 (by decide) (hts (.fieldLink RX11 29 "Beaverhall" "listing" "LBeaverhall$Listing;") (by decide +kernel)) (fun _ h9 => h9) rfl dX11_haltingShare_26 ?_
    refine va_get (D := (dC, dI)) (ci := 8) (v := .int cn_2.2.1) (C := RX3) (T := TX3) (N := 9) hx hb hts iWX3 hown hK hP 1 rfl rfl 2 (by decide) (hts (.fieldLink RX11 208 "Beaverhall$Listing" "endless" "I") (by decide +kernel)) (fun _ h9 => h9) rfl dX11_haltingShare_29 ?_
    refine lv_iadd hx hb dX11_haltingShare_32 ?_
    refine lv_aload_n hx hb dX11_haltingShare_33 rfl (lv_at hl 0 rfl) ?_
    refine va_get (D := (dC, dI)) (ci := 16) (v := .ref li) (C := RX11) (T := TX11) (N := 7) hx hb hts iWX11 hown hK hP 0 rfl rfl 3 (by decide) (hts (.fieldLink RX11 29 "Beaverhall" "listing" "LBeaverhall$Listing;") (by decide +kernel)) (fun _ h9 => h9) rfl dX11_haltingShare_34 ?_
    refine va_get (D := (dC, dI)) (ci := 8) (v := .int cn_2.2.2.1) (C := RX3) (T := TX3) (N := 9) hx hb hts iWX3 hown hK hP 1 rfl rfl 3 (by decide) (hts (.fieldLink RX11 211 "Beaverhall$Listing" "open" "I") (by decide +kernel)) (fun _ h9 => h9) rfl dX11_haltingShare_37 ?_
    refine lv_iadd hx hb dX11_haltingShare_40 ?_
    refine lv_topi (fun x_6 ex_6 => ?_)
    refine lv_istore_n (lv' := [(3, .int x_6), (0, .ref ya), (1, .int (nI 1)), (2, .int (nI k9))]) hx hb dX11_haltingShare_41 rfl hl (by decide) rfl (fun ls hl => ?_)
    refine lv_iload_n hx hb dX11_haltingShare_42 rfl (lv_at hl 0 rfl) ?_
    refine lv_if_ne (tgt := 50) hx hb dX11_haltingShare_43 (by decide) (fun c43_7 => ?_) (fun c43_7 => ?_)
    · have hz9 : ¬ totC cn_2 = 0 := by rw [hw_5]; exact all_ne (by decide) (by decide)
      refine lv_aload_n hx hb dX11_haltingShare_50 rfl (lv_at hl 1 rfl) ?_
      refine va_get (D := (dC, dI)) (ci := 16) (v := .ref li) (C := RX11) (T := TX11) (N := 7) hx hb hts iWX11 hown hK hP 0 rfl rfl 3 (by decide) (hts (.fieldLink RX11 29 "Beaverhall" "listing" "LBeaverhall$Listing;") (by decide +kernel)) (fun _ h9 => h9) rfl dX11_haltingShare_51 ?_
      refine va_get (D := (dC, dI)) (ci := 8) (v := .int cn_2.1) (C := RX3) (T := TX3) (N := 9) hx hb hts iWX3 hown hK hP 1 rfl rfl 1 (by decide) (hts (.fieldLink RX11 205 "Beaverhall$Listing" "halting" "I") (by decide +kernel)) (fun _ h9 => h9) rfl dX11_haltingShare_54 ?_
      refine lv_i2f hx hb dX11_haltingShare_57 ?_
      refine lv_iload_n hx hb dX11_haltingShare_58 rfl (lv_at hl 0 rfl) ?_
      refine lv_i2f hx hb dX11_haltingShare_59 ?_
      refine lv_fdiv hx hb dX11_haltingShare_60 (by rw [ex_6]; exact sh_num hz9) ?_
      refine vx_ret ?_
      have hP9 := hP.sub (ws' := []) [] rfl
      have hD9 := hD.sub (ws' := []) [] (by decide) rfl
      have hK9 := hK.sub (tys' := [(cI, .int)]) [0] rfl
      exact W.fret (v := (FP.fdiv (FP.i2f cn_2.1) (FP.i2f x_6))) hx hb hr (fun t ht hW => ⟨⟨(FP.fdiv (FP.i2f cn_2.1) (FP.i2f x_6)), (), rfl, ⟨by rw [lsC_nI (by decide) hk2, ← hw_5, ex_6]; rfl, hpl⟩, ⟨by rw [ht]; exact hP9, va_K.moved hW.alike hK9, hD9⟩⟩, hS.F ht⟩) hS.2.2 dX11_haltingShare_61
    · exact absurd (show totC cn_2 = 0 from (ex_6).symm.trans c43_7) (by rw [hw_5]; exact all_ne (by decide) (by decide))
  · subst es9
    have hl : lv_has ls 4 [(0, .ref ya), (1, .int (nI 2)), (2, .int (nI k9))] := hl
    refine lv_aload_n hx hb dX11_haltingShare_5 rfl (lv_at hl 0 rfl) ?_
    refine va_get (D := (dC, dI)) (ci := 16) (v := .ref li) (C := RX11) (T := TX11) (N := 7) hx hb hts iWX11 hown hK hP 0 rfl rfl 3 (by decide) (hts (.fieldLink RX11 29 "Beaverhall" "listing" "LBeaverhall$Listing;") (by decide +kernel)) (fun _ h9 => h9) rfl dX11_haltingShare_6 ?_
    refine lv_aload_n hx hb dX11_haltingShare_9 rfl (lv_at hl 0 rfl) ?_
    refine va_get (D := (dC, dI)) (ci := 16) (v := .ref ju) (C := RX11) (T := TX11) (N := 7) hx hb hts iWX11 hown hK hP 0 rfl rfl 2 (by decide) (hts (.fieldLink RX11 22 "Beaverhall" "judge" "LBeaverhall$Judge;") (by decide +kernel)) (fun _ h9 => h9) rfl dX11_haltingShare_10 ?_
    refine lv_iload_n hx hb dX11_haltingShare_13 rfl (lv_at hl 1 rfl) ?_
    refine lv_iload_n hx hb dX11_haltingShare_14 rfl (lv_at hl 2 rfl) ?_
    have hPc := hP.sub (ws' := [(li, .inr (8, [.ref bm, .int 0, .int 0, .int 0, .int 0, .int 0, .int 0, .int 0, .ref mm])), (bm, .inr (10, [.int 0, .int 2, .int 2, .ref la2, .int wr2, .int ge.2.2.2.2.2.2.2.2.2.2.1, .int le2, .int fi2, .int se2, .ref bo, .ref hh2])), (bo, .inl (cI, 24, .inl ge.2.2.2.2.2.2.2.2.2.2.2)), (mm, .inr (10, [.int 0, .int 2, .int 2, .ref la, .int wr, .int 0, .int le, .int fi, .int se, .ref oo, .ref hh])), (oo, .inl (cI, 24, .inl (fun _ => 0))), (ju, .inr (7, [.ref rj, .ref ro, .ref wb, .ref jt, .ref br, .ref lk])), (rj, .inr (12, [.int ge.1.1, .int ge.1.2.1, .int ge.1.2.2.1, .int ge.1.2.2.2.1, .int ge.1.2.2.2.2.1, .int ge.1.2.2.2.2.2.1, .ref tj])), (tj, .inl (cI, 1001, .inl ge.1.2.2.2.2.2.2)), (ro, .inr (11, [.int ge.2.1, .int ge.2.2.1, .ref rn, .ref rh, .int ge.2.2.2.1, .ref ca, .ref sa, .ref da, .ref xa])), (rn, .inr (12, [.int ge.2.2.2.2.1.1, .int ge.2.2.2.2.1.2.1, .int ge.2.2.2.2.1.2.2.1, .int ge.2.2.2.2.1.2.2.2.1, .int ge.2.2.2.2.1.2.2.2.2.1, .int ge.2.2.2.2.1.2.2.2.2.2.1, .ref tn])), (tn, .inl (cI, 1001, .inl ge.2.2.2.2.1.2.2.2.2.2.2)), (rh, .inr (12, [.int ge.2.2.2.2.2.1.1, .int ge.2.2.2.2.2.1.2.1, .int ge.2.2.2.2.2.1.2.2.1, .int ge.2.2.2.2.2.1.2.2.2.1, .int ge.2.2.2.2.2.1.2.2.2.2.1, .int ge.2.2.2.2.2.1.2.2.2.2.2.1, .ref th])), (th, .inl (cI, 1001, .inl ge.2.2.2.2.2.1.2.2.2.2.2.2)), (ca, .inl (cI, 501, .inl ge.2.2.2.2.2.2.1)), (sa, .inl (cI, 501, .inl ge.2.2.2.2.2.2.2.1)), (da, .inl (cI, 501, .inl ge.2.2.2.2.2.2.2.2.1)), (xa, .inl (cI, 501, .inl ge.2.2.2.2.2.2.2.2.2.1))]) [1, 2, 3, 4, 5, 6, 7, 8, 9, 10, 11, 12, 13, 14, 15, 16, 17] rfl
    have hDc := hD.sub (ws' := [(li, .inr (8, [.ref bm, .int 0, .int 0, .int 0, .int 0, .int 0, .int 0, .int 0, .ref mm])), (bm, .inr (10, [.int 0, .int 2, .int 2, .ref la2, .int wr2, .int ge.2.2.2.2.2.2.2.2.2.2.1, .int le2, .int fi2, .int se2, .ref bo, .ref hh2])), (bo, .inl (cI, 24, .inl ge.2.2.2.2.2.2.2.2.2.2.2)), (mm, .inr (10, [.int 0, .int 2, .int 2, .ref la, .int wr, .int 0, .int le, .int fi, .int se, .ref oo, .ref hh])), (oo, .inl (cI, 24, .inl (fun _ => 0))), (ju, .inr (7, [.ref rj, .ref ro, .ref wb, .ref jt, .ref br, .ref lk])), (rj, .inr (12, [.int ge.1.1, .int ge.1.2.1, .int ge.1.2.2.1, .int ge.1.2.2.2.1, .int ge.1.2.2.2.2.1, .int ge.1.2.2.2.2.2.1, .ref tj])), (tj, .inl (cI, 1001, .inl ge.1.2.2.2.2.2.2)), (ro, .inr (11, [.int ge.2.1, .int ge.2.2.1, .ref rn, .ref rh, .int ge.2.2.2.1, .ref ca, .ref sa, .ref da, .ref xa])), (rn, .inr (12, [.int ge.2.2.2.2.1.1, .int ge.2.2.2.2.1.2.1, .int ge.2.2.2.2.1.2.2.1, .int ge.2.2.2.2.1.2.2.2.1, .int ge.2.2.2.2.1.2.2.2.2.1, .int ge.2.2.2.2.1.2.2.2.2.2.1, .ref tn])), (tn, .inl (cI, 1001, .inl ge.2.2.2.2.1.2.2.2.2.2.2)), (rh, .inr (12, [.int ge.2.2.2.2.2.1.1, .int ge.2.2.2.2.2.1.2.1, .int ge.2.2.2.2.2.1.2.2.1, .int ge.2.2.2.2.2.1.2.2.2.1, .int ge.2.2.2.2.2.1.2.2.2.2.1, .int ge.2.2.2.2.2.1.2.2.2.2.2.1, .ref th])), (th, .inl (cI, 1001, .inl ge.2.2.2.2.2.1.2.2.2.2.2.2)), (ca, .inl (cI, 501, .inl ge.2.2.2.2.2.2.1)), (sa, .inl (cI, 501, .inl ge.2.2.2.2.2.2.2.1)), (da, .inl (cI, 501, .inl ge.2.2.2.2.2.2.2.2.1)), (xa, .inl (cI, 501, .inl ge.2.2.2.2.2.2.2.2.2.1))]) [1, 2, 3, 4, 5, 6, 7, 8, 9, 10, 11, 12, 13, 14, 15, 16, 17] (by decide) rfl
    have hKc := hK.sub (tys' := [(cI, .int)]) [0] rfl
    have hFc := va_free (wc := [(li, .inr (8, [.ref bm, .int 0, .int 0, .int 0, .int 0, .int 0, .int 0, .int 0, .ref mm])), (bm, .inr (10, [.int 0, .int 2, .int 2, .ref la2, .int wr2, .int ge.2.2.2.2.2.2.2.2.2.2.1, .int le2, .int fi2, .int se2, .ref bo, .ref hh2])), (bo, .inl (cI, 24, .inl ge.2.2.2.2.2.2.2.2.2.2.2)), (mm, .inr (10, [.int 0, .int 2, .int 2, .ref la, .int wr, .int 0, .int le, .int fi, .int se, .ref oo, .ref hh])), (oo, .inl (cI, 24, .inl (fun _ => 0))), (ju, .inr (7, [.ref rj, .ref ro, .ref wb, .ref jt, .ref br, .ref lk])), (rj, .inr (12, [.int ge.1.1, .int ge.1.2.1, .int ge.1.2.2.1, .int ge.1.2.2.2.1, .int ge.1.2.2.2.2.1, .int ge.1.2.2.2.2.2.1, .ref tj])), (tj, .inl (cI, 1001, .inl ge.1.2.2.2.2.2.2)), (ro, .inr (11, [.int ge.2.1, .int ge.2.2.1, .ref rn, .ref rh, .int ge.2.2.2.1, .ref ca, .ref sa, .ref da, .ref xa])), (rn, .inr (12, [.int ge.2.2.2.2.1.1, .int ge.2.2.2.2.1.2.1, .int ge.2.2.2.2.1.2.2.1, .int ge.2.2.2.2.1.2.2.2.1, .int ge.2.2.2.2.1.2.2.2.2.1, .int ge.2.2.2.2.1.2.2.2.2.2.1, .ref tn])), (tn, .inl (cI, 1001, .inl ge.2.2.2.2.1.2.2.2.2.2.2)), (rh, .inr (12, [.int ge.2.2.2.2.2.1.1, .int ge.2.2.2.2.2.1.2.1, .int ge.2.2.2.2.2.1.2.2.1, .int ge.2.2.2.2.2.1.2.2.2.1, .int ge.2.2.2.2.2.1.2.2.2.2.1, .int ge.2.2.2.2.2.1.2.2.2.2.2.1, .ref th])), (th, .inl (cI, 1001, .inl ge.2.2.2.2.2.1.2.2.2.2.2.2)), (ca, .inl (cI, 501, .inl ge.2.2.2.2.2.2.1)), (sa, .inl (cI, 501, .inl ge.2.2.2.2.2.2.2.1)), (da, .inl (cI, 501, .inl ge.2.2.2.2.2.2.2.2.1)), (xa, .inl (cI, 501, .inl ge.2.2.2.2.2.2.2.2.2.1))]) hD hS hA [1, 2, 3, 4, 5, 6, 7, 8, 9, 10, 11, 12, 13, 14, 15, 16, 17] rfl
    refine va_callv (va_runV (As := [.ref ju, .int (nI 2), .int (nI k9)]) (rest := []) ⟨hx, hb, hml, hown, hts⟩ (c_X3_list_2 l dC dI cI li ju bm bo la2 hh2 mm oo la hh rj tj ro rn rh ca sa da xa tn th wb jt br lk wr2 le2 fi2 se2 wr le fi se ((ge.1.1, ge.1.2.1, ge.1.2.2.1, ge.1.2.2.2.1, ge.1.2.2.2.2.1, ge.1.2.2.2.2.2.1, ge.1.2.2.2.2.2.2), ge.2.1, ge.2.2.1, ge.2.2.2.1, (ge.2.2.2.2.1.1, ge.2.2.2.2.1.2.1, ge.2.2.2.2.1.2.2.1, ge.2.2.2.2.1.2.2.2.1, ge.2.2.2.2.1.2.2.2.2.1, ge.2.2.2.2.1.2.2.2.2.2.1, ge.2.2.2.2.1.2.2.2.2.2.2), (ge.2.2.2.2.2.1.1, ge.2.2.2.2.2.1.2.1, ge.2.2.2.2.2.1.2.2.1, ge.2.2.2.2.2.1.2.2.2.1, ge.2.2.2.2.2.1.2.2.2.2.1, ge.2.2.2.2.2.1.2.2.2.2.2.1, ge.2.2.2.2.2.1.2.2.2.2.2.2), ge.2.2.2.2.2.2.1, ge.2.2.2.2.2.2.2.1, ge.2.2.2.2.2.2.2.2.1, ge.2.2.2.2.2.2.2.2.2.1, ge.2.2.2.2.2.2.2.2.2.2.1, ge.2.2.2.2.2.2.2.2.2.2.2) k9 (by omega) H.size) (cwV 3 hts gX11_haltingShare_X3_list rfl rfl rfl (by decide +kernel) ⟨Nat.le_of_ble_eq_true rfl, Nat.le_of_ble_eq_true rfl⟩) (pcV hPc hDc hKc hN (ci := 8) (q0 := 0) rfl rfl) rfl rfl hl.1 rfl (lv_room (Nat.le_of_ble_eq_true rfl)) dX11_haltingShare_15 ⟨Nat.le_of_ble_eq_true rfl, Nat.le_of_ble_eq_true rfl⟩) hS (fun q _ h => hFc q h) hFc (fun u t H1 locs ht hvm hw_11 hB hz1 hk1 hS => ?_)
    obtain ⟨cn_8, tb_9, bf_10⟩ := u
    obtain ⟨hP1, hK1, hD1⟩ := hB
    rw [ht] at hP1
    try dsimp only at hw_11
    obtain ⟨hP, hD⟩ := va_join (wr := [(ya, .inr (16, [.ref ms, .int 0, .ref ju, .ref li, .ref ct, .ref tg, .ref fw]))]) (w1 := [(li, .inr (8, [.ref bm, .int cn_8.1, .int cn_8.2.1, .int cn_8.2.2.1, .int cn_8.2.2.2.1, .int cn_8.2.2.2.2, .int (nI 2), .int (nI k9), .ref mm])), (bm, .inr (10, [.int 0, .int 2, .int 2, .ref la2, .int wr2, .int tb_9, .int le2, .int fi2, .int se2, .ref bo, .ref hh2])), (bo, .inl (cI, 24, .inl bf_10))]) hP hD [1, 2, 3, 4, 5, 6, 7, 8, 9, 10, 11, 12, 13, 14, 15, 16, 17] [0] rfl rfl (by decide) (by decide) hk1 hFc hP1 hD1
    generalize H1 = H at hP hS ⊢
    have hP : va_P (dC, dI) vwCl [(ya, .inr (16, [.ref ms, .int 0, .ref ju, .ref li, .ref ct, .ref tg, .ref fw])), (li, .inr (8, [.ref bm, .int cn_8.1, .int cn_8.2.1, .int cn_8.2.2.1, .int cn_8.2.2.2.1, .int cn_8.2.2.2.2, .int (nI 2), .int (nI k9), .ref mm])), (bm, .inr (10, [.int 0, .int 2, .int 2, .ref la2, .int wr2, .int tb_9, .int le2, .int fi2, .int se2, .ref bo, .ref hh2])), (bo, .inl (cI, 24, .inl bf_10))] H := hP
    have hD : va_D A [(ya, .inr (16, [.ref ms, .int 0, .ref ju, .ref li, .ref ct, .ref tg, .ref fw])), (li, .inr (8, [.ref bm, .int cn_8.1, .int cn_8.2.1, .int cn_8.2.2.1, .int cn_8.2.2.2.1, .int cn_8.2.2.2.2, .int (nI 2), .int (nI k9), .ref mm])), (bm, .inr (10, [.int 0, .int 2, .int 2, .ref la2, .int wr2, .int tb_9, .int le2, .int fi2, .int se2, .ref bo, .ref hh2])), (bo, .inl (cI, 24, .inl bf_10))] := hD
    refine lv_aload_n hx hb dX11_haltingShare_18 rfl (lv_at hl 0 rfl) ?_
    refine va_get (D := (dC, dI)) (ci := 16) (v := .ref li) (C := RX11) (T := TX11) (N := 7) hx hb hts iWX11 hown hK hP 0 rfl rfl 3 (by decide) (hts (.fieldLink RX11 29 "Beaverhall" "listing" "LBeaverhall$Listing;") (by decide +kernel)) (fun _ h9 => h9) rfl dX11_haltingShare_19 ?_
    refine va_get (D := (dC, dI)) (ci := 8) (v := .int cn_8.1) (C := RX3) (T := TX3) (N := 9) hx hb hts iWX3 hown hK hP 1 rfl rfl 1 (by decide) (hts (.fieldLink RX11 205 "Beaverhall$Listing" "halting" "I") (by decide +kernel)) (fun _ h9 => h9) rfl dX11_haltingShare_22 ?_
    refine lv_aload_n hx hb dX11_haltingShare_25 rfl (lv_at hl 0 rfl) ?_
    refine va_get (D := (dC, dI)) (ci := 16) (v := .ref li) (C := RX11) (T := TX11) (N := 7) hx hb hts iWX11 hown hK hP 0 rfl rfl 3 (by decide) (hts (.fieldLink RX11 29 "Beaverhall" "listing" "LBeaverhall$Listing;") (by decide +kernel)) (fun _ h9 => h9) rfl dX11_haltingShare_26 ?_
    refine va_get (D := (dC, dI)) (ci := 8) (v := .int cn_8.2.1) (C := RX3) (T := TX3) (N := 9) hx hb hts iWX3 hown hK hP 1 rfl rfl 2 (by decide) (hts (.fieldLink RX11 208 "Beaverhall$Listing" "endless" "I") (by decide +kernel)) (fun _ h9 => h9) rfl dX11_haltingShare_29 ?_
    refine lv_iadd hx hb dX11_haltingShare_32 ?_
    refine lv_aload_n hx hb dX11_haltingShare_33 rfl (lv_at hl 0 rfl) ?_
    refine va_get (D := (dC, dI)) (ci := 16) (v := .ref li) (C := RX11) (T := TX11) (N := 7) hx hb hts iWX11 hown hK hP 0 rfl rfl 3 (by decide) (hts (.fieldLink RX11 29 "Beaverhall" "listing" "LBeaverhall$Listing;") (by decide +kernel)) (fun _ h9 => h9) rfl dX11_haltingShare_34 ?_
    refine va_get (D := (dC, dI)) (ci := 8) (v := .int cn_8.2.2.1) (C := RX3) (T := TX3) (N := 9) hx hb hts iWX3 hown hK hP 1 rfl rfl 3 (by decide) (hts (.fieldLink RX11 211 "Beaverhall$Listing" "open" "I") (by decide +kernel)) (fun _ h9 => h9) rfl dX11_haltingShare_37 ?_
    refine lv_iadd hx hb dX11_haltingShare_40 ?_
    refine lv_topi (fun x_12 ex_12 => ?_)
    refine lv_istore_n (lv' := [(3, .int x_12), (0, .ref ya), (1, .int (nI 2)), (2, .int (nI k9))]) hx hb dX11_haltingShare_41 rfl hl (by decide) rfl (fun ls hl => ?_)
    refine lv_iload_n hx hb dX11_haltingShare_42 rfl (lv_at hl 0 rfl) ?_
    refine lv_if_ne (tgt := 50) hx hb dX11_haltingShare_43 (by decide) (fun c43_13 => ?_) (fun c43_13 => ?_)
    · have hz9 : ¬ totC cn_8 = 0 := by rw [hw_11]; exact all_ne (by decide) (by decide)
      refine lv_aload_n hx hb dX11_haltingShare_50 rfl (lv_at hl 1 rfl) ?_
      refine va_get (D := (dC, dI)) (ci := 16) (v := .ref li) (C := RX11) (T := TX11) (N := 7) hx hb hts iWX11 hown hK hP 0 rfl rfl 3 (by decide) (hts (.fieldLink RX11 29 "Beaverhall" "listing" "LBeaverhall$Listing;") (by decide +kernel)) (fun _ h9 => h9) rfl dX11_haltingShare_51 ?_
      refine va_get (D := (dC, dI)) (ci := 8) (v := .int cn_8.1) (C := RX3) (T := TX3) (N := 9) hx hb hts iWX3 hown hK hP 1 rfl rfl 1 (by decide) (hts (.fieldLink RX11 205 "Beaverhall$Listing" "halting" "I") (by decide +kernel)) (fun _ h9 => h9) rfl dX11_haltingShare_54 ?_
      refine lv_i2f hx hb dX11_haltingShare_57 ?_
      refine lv_iload_n hx hb dX11_haltingShare_58 rfl (lv_at hl 0 rfl) ?_
      refine lv_i2f hx hb dX11_haltingShare_59 ?_
      refine lv_fdiv hx hb dX11_haltingShare_60 (by rw [ex_12]; exact sh_num hz9) ?_
      refine vx_ret ?_
      have hP9 := hP.sub (ws' := []) [] rfl
      have hD9 := hD.sub (ws' := []) [] (by decide) rfl
      have hK9 := hK.sub (tys' := [(cI, .int)]) [0] rfl
      exact W.fret (v := (FP.fdiv (FP.i2f cn_8.1) (FP.i2f x_12))) hx hb hr (fun t ht hW => ⟨⟨(FP.fdiv (FP.i2f cn_8.1) (FP.i2f x_12)), (), rfl, ⟨by rw [lsC_nI (by decide) hk2, ← hw_11, ex_12]; rfl, hpl⟩, ⟨by rw [ht]; exact hP9, va_K.moved hW.alike hK9, hD9⟩⟩, hS.F ht⟩) hS.2.2 dX11_haltingShare_61
    · exact absurd (show totC cn_8 = 0 from (ex_12).symm.trans c43_13) (by rw [hw_11]; exact all_ne (by decide) (by decide))

set_option maxHeartbeats 4000000 in
set_option maxRecDepth 100000 in
/-- X15_haltingShare -/
theorem c_X15_haltingShare (l : Launch) (dC : Nat → ClassId) (dI : Nat → Nat → Nat) (xm ml cl fl kn rg tr : Nat) (e0 : Nat) (aK aV : Nat → Nat) (cI : ClassId) (p0 p1 : Int32) (sz : Nat) : Met l yX15_haltingShare wsX15_haltingShare ({ frames := 21, cells := 14340, slots := 5805426, locals := 472 }) (va_Pc [.ref xm, .int p0, .int p1] (cPCz (zM e0 aK aV) dC dI [(xm, .inr (20, [.int 0, .int 0, .ref kn, .int 0, .int 0, .int 0, .ref ml, .ref cl, .ref rg, .ref tr, .ref (aK 0), .ref (aK 0), .ref fl, .int 0, .int 0, .int 0, .int 0, .int 0, .int 0, .int 0, .null]))] [(cI, .int)] sz)) (va_Qf (fun (r : UInt32) (u : List Value) => (pListing p0 p1 ∧ u[5]? = some (.int 0) ∧ r = shV (lsC p0 p1)) ∨ (¬ pListing p0 p1 ∧ u[5]? = some (.int 1))) (fun (u : List Value) t => cQB dC dI [(xm, .inr (20, u))] [(cI, .int)] (va_A [(xm, .inr (20, [.int 0, .int 0, .ref kn, .int 0, .int 0, .int 0, .ref ml, .ref cl, .ref rg, .ref tr, .ref (aK 0), .ref (aK 0), .ref fl, .int 0, .int 0, .int 0, .int 0, .int 0, .int 0, .int 0, .null]))] sz) t) (va_A [(xm, .inr (20, [.int 0, .int 0, .ref kn, .int 0, .int 0, .int 0, .ref ml, .ref cl, .ref rg, .ref tr, .ref (aK 0), .ref (aK 0), .ref fl, .int 0, .int 0, .int 0, .int 0, .int 0, .int 0, .int 0, .null]))] sz)) 14340 5805426 (va_A [(xm, .inr (20, [.int 0, .int 0, .ref kn, .int 0, .int 0, .int 0, .ref ml, .ref cl, .ref rg, .ref tr, .ref (aK 0), .ref (aK 0), .ref fl, .int 0, .int 0, .int 0, .int 0, .int 0, .int 0, .int 0, .null]))] sz) := by
  refine Met.ofW (cc := cX15_haltingShare) (maxL := 3) (ret := (some .float)) (by decide) rfl ?_
  intro p e s m args below meth c s₁ B hml hv
  obtain ⟨rfl, ⟨hsz, hP, hK, hD0, hN⟩, hZ⟩ := hv
  have hx := B.exec
  have hb := B.bytes
  have hr := B.returns
  have hts := atoms_spec (ws := wsX15_haltingShare) B.pre
  have hown : s.vm.findClass RX15 = some m.cls := findClass_of_methodNamed B.named
  have hlocks := B.notSynchronized
  subst hsz
  have hD := hD0.self (sz := s.heap.size)
  generalize hAe : va_A [(xm, .inr (20, [.int 0, .int 0, .ref kn, .int 0, .int 0, .int 0, .ref ml, .ref cl, .ref rg, .ref tr, .ref (aK 0), .ref (aK 0), .ref fl, .int 0, .int 0, .int 0, .int 0, .int 0, .int 0, .int 0, .null]))] s.heap.size = A at hD hZ ⊢
  have hA : ∀ q : Nat, s.heap.size ≤ q → A q := fun q h => by rw [← hAe]; exact Or.inr h
  have hS : va_S A s.heap s.heap [] := va_S.rf
  have hP : va_P (dC, dI) vwCl [(xm, .inr (20, [.int 0, .int 0, .ref kn, .int 0, .int 0, .int 0, .ref ml, .ref cl, .ref rg, .ref tr, .ref (aK 0), .ref (aK 0), .ref fl, .int 0, .int 0, .int 0, .int 0, .int 0, .int 0, .int 0, .null]))] s.heap := hP
  have hD : va_D A [(xm, .inr (20, [.int 0, .int 0, .ref kn, .int 0, .int 0, .int 0, .ref ml, .ref cl, .ref rg, .ref tr, .ref (aK 0), .ref (aK 0), .ref fl, .int 0, .int 0, .int 0, .int 0, .int 0, .int 0, .int 0, .null]))] := hD
  have hl := lv_entry ([.ref xm, .int p0, .int p1]) (n := 3) (Nat.le_of_ble_eq_true rfl)
  rw [lg_entry_eq]
  generalize (lg_sl ([.ref xm, .int p0, .int p1]) ++ List.replicate (3 - (lg_sl ([.ref xm, .int p0, .int p1])).length) Slot.unset).toArray = ls at hl ⊢
  have hl : lv_has ls 3 [(0, .ref xm), (1, .int p0), (2, .int p1)] := hl
  have iWX15 : ∀ w ∈ u_ws RX15 TX15 21, w ∈ wsX15_haltingShare := by decide +kernel
  refine lv_aload_n hx hb dX15_haltingShare_0 rfl (lv_at hl 0 rfl) ?_
  refine lv_iload_n hx hb dX15_haltingShare_1 rfl (lv_at hl 1 rfl) ?_
  refine lv_iload_n hx hb dX15_haltingShare_2 rfl (lv_at hl 2 rfl) ?_
  have hPc := hP.sub (ws' := []) [] rfl
  have hDc := hD.sub (ws' := []) [] (by decide) rfl
  have hKc := hK.sub (tys' := []) [] rfl
  have hFc := va_free (wc := []) hD hS hA [] rfl
  refine va_calli (va_runS (As := [.int p0, .int p1]) (rest := [.ref xm]) ⟨hx, hb, hml, hown, hts⟩ (c_X15_isListing l dC dI p0 p1 s.heap.size) (va_cwS 2 hts gX15_haltingShare_X15_isListing rfl rfl rfl (by decide +kernel) ⟨Nat.le_of_ble_eq_true rfl, Nat.le_of_ble_eq_true rfl⟩) (pcS hPc hDc hKc hN) rfl rfl hl.1 rfl (lv_room (Nat.le_of_ble_eq_true rfl)) dX15_haltingShare_3 ⟨Nat.le_of_ble_eq_true rfl, Nat.le_of_ble_eq_true rfl⟩) hS (fun q _ h => hFc q h) hFc (fun r_1 u t H1 locs ht hvm hw_2 hB hz1 hk1 hS => ?_)
  obtain ⟨hP1, hK1, hD1⟩ := hB
  rw [ht] at hP1
  try dsimp only at hw_2
  obtain ⟨hP, hD⟩ := va_join (wr := [(xm, .inr (20, [.int 0, .int 0, .ref kn, .int 0, .int 0, .int 0, .ref ml, .ref cl, .ref rg, .ref tr, .ref (aK 0), .ref (aK 0), .ref fl, .int 0, .int 0, .int 0, .int 0, .int 0, .int 0, .int 0, .null]))]) (w1 := []) hP hD [] [0] rfl rfl (by decide) (by decide) hk1 hFc hP1 hD1
  generalize H1 = H at hP hS ⊢
  have hP : va_P (dC, dI) vwCl [(xm, .inr (20, [.int 0, .int 0, .ref kn, .int 0, .int 0, .int 0, .ref ml, .ref cl, .ref rg, .ref tr, .ref (aK 0), .ref (aK 0), .ref fl, .int 0, .int 0, .int 0, .int 0, .int 0, .int 0, .int 0, .null]))] H := hP
  have hD : va_D A [(xm, .inr (20, [.int 0, .int 0, .ref kn, .int 0, .int 0, .int 0, .ref ml, .ref cl, .ref rg, .ref tr, .ref (aK 0), .ref (aK 0), .ref fl, .int 0, .int 0, .int 0, .int 0, .int 0, .int 0, .int 0, .null]))] := hD
  refine lv_if_eq (tgt := 13) hx hb dX15_haltingShare_6 (by decide) (fun c6_3 => ?_) (fun c6_3 => ?_)
  · have hn_4 := (hw_2).elim (fun h => absurd (h.1.symm.trans c6_3) (by decide)) (fun h => h.2)
    refine lv_iconst (v := 1) hx hb dX15_haltingShare_13 (by decide) ?_
    refine va_put (D := (dC, dI)) (ci := 20) (v := .int 1) (ty := .int) (C := RX15) (T := TX15) (N := 21) hx hb hts iWX15 tyX15 tyX15_ok nmX15 hown hK hP hD hS 0 rfl rfl 5 (by decide) (hts (.fieldLink RX15 209 "BeaverhallModel" "thrown" "I") (by decide +kernel)) (fun _ h9 => h9) rfl (by decide +kernel) rfl rfl (Nat.le_of_ble_eq_true rfl) dX15_haltingShare_14 (fun H locs hP hD hS => ?_)
    have hP : va_P (dC, dI) vwCl [(xm, .inr (20, [.int 0, .int 0, .ref kn, .int 0, .int 0, .int 1, .ref ml, .ref cl, .ref rg, .ref tr, .ref (aK 0), .ref (aK 0), .ref fl, .int 0, .int 0, .int 0, .int 0, .int 0, .int 0, .int 0, .null]))] H := hP
    have hD : va_D A [(xm, .inr (20, [.int 0, .int 0, .ref kn, .int 0, .int 0, .int 1, .ref ml, .ref cl, .ref rg, .ref tr, .ref (aK 0), .ref (aK 0), .ref fl, .int 0, .int 0, .int 0, .int 0, .int 0, .int 0, .int 0, .null]))] := hD
    refine lv_aload_n hx hb dX15_haltingShare_17 rfl (lv_at hl 0 rfl) ?_
    refine va_get (D := (dC, dI)) (ci := 20) (v := .int 1) (C := RX15) (T := TX15) (N := 21) hx hb hts iWX15 hown hK hP 0 rfl rfl 5 (by decide) (hts (.fieldLink RX15 209 "BeaverhallModel" "thrown" "I") (by decide +kernel)) (fun _ h9 => h9) rfl dX15_haltingShare_18 ?_
    refine lv_if_le (tgt := 26) hx hb dX15_haltingShare_21 (by decide) (fun c21_5 => ?_) (fun c21_5 => ?_)
    · exact absurd c21_5 (by decide)
    · refine lv_fconst0 hx hb dX15_haltingShare_24 ?_
      have hP9 := hP.sub (ws' := [(xm, .inr (20, [.int 0, .int 0, .ref kn, .int 0, .int 0, .int 1, .ref ml, .ref cl, .ref rg, .ref tr, .ref (aK 0), .ref (aK 0), .ref fl, .int 0, .int 0, .int 0, .int 0, .int 0, .int 0, .int 0, .null]))]) [0] rfl
      have hD9 := hD.sub (ws' := [(xm, .inr (20, [.int 0, .int 0, .ref kn, .int 0, .int 0, .int 1, .ref ml, .ref cl, .ref rg, .ref tr, .ref (aK 0), .ref (aK 0), .ref fl, .int 0, .int 0, .int 0, .int 0, .int 0, .int 0, .int 0, .null]))]) [0] (by decide) rfl
      have hK9 := hK.sub (tys' := [(cI, .int)]) [0] rfl
      refine W.widen (k := 14340) (n := 5805426) (Nat.le_of_ble_eq_true rfl) (Nat.le_of_ble_eq_true rfl) ?_
      exact W.fret (v := 0) hx hb hr (fun t ht hW => ⟨⟨0, [.int 0, .int 0, .ref kn, .int 0, .int 0, .int 1, .ref ml, .ref cl, .ref rg, .ref tr, .ref (aK 0), .ref (aK 0), .ref fl, .int 0, .int 0, .int 0, .int 0, .int 0, .int 0, .int 0, .null], rfl, (Or.inr ⟨(fun h9 => hn_4 h9), rfl⟩), ⟨by rw [ht]; exact hP9, va_K.moved hW.alike hK9, hD9⟩⟩, hS.F ht⟩) hS.2.2 dX15_haltingShare_25
  · have hn_6 := (hw_2).elim (fun h => h.2) (fun h => absurd h.1 c6_3)
    refine lv_iconst (v := 0) hx hb dX15_haltingShare_9 (by decide) ?_
    refine lv_goto (tgt := 14) hx hb dX15_haltingShare_10 (by decide) ?_
    refine va_put (D := (dC, dI)) (ci := 20) (v := .int 0) (ty := .int) (C := RX15) (T := TX15) (N := 21) hx hb hts iWX15 tyX15 tyX15_ok nmX15 hown hK hP hD hS 0 rfl rfl 5 (by decide) (hts (.fieldLink RX15 209 "BeaverhallModel" "thrown" "I") (by decide +kernel)) (fun _ h9 => h9) rfl (by decide +kernel) rfl rfl (Nat.le_of_ble_eq_true rfl) dX15_haltingShare_14 (fun H locs hP hD hS => ?_)
    have hP : va_P (dC, dI) vwCl [(xm, .inr (20, [.int 0, .int 0, .ref kn, .int 0, .int 0, .int 0, .ref ml, .ref cl, .ref rg, .ref tr, .ref (aK 0), .ref (aK 0), .ref fl, .int 0, .int 0, .int 0, .int 0, .int 0, .int 0, .int 0, .null]))] H := hP
    have hD : va_D A [(xm, .inr (20, [.int 0, .int 0, .ref kn, .int 0, .int 0, .int 0, .ref ml, .ref cl, .ref rg, .ref tr, .ref (aK 0), .ref (aK 0), .ref fl, .int 0, .int 0, .int 0, .int 0, .int 0, .int 0, .int 0, .null]))] := hD
    refine lv_aload_n hx hb dX15_haltingShare_17 rfl (lv_at hl 0 rfl) ?_
    refine va_get (D := (dC, dI)) (ci := 20) (v := .int 0) (C := RX15) (T := TX15) (N := 21) hx hb hts iWX15 hown hK hP 0 rfl rfl 5 (by decide) (hts (.fieldLink RX15 209 "BeaverhallModel" "thrown" "I") (by decide +kernel)) (fun _ h9 => h9) rfl dX15_haltingShare_18 ?_
    refine lv_if_le (tgt := 26) hx hb dX15_haltingShare_21 (by decide) (fun c21_7 => ?_) (fun c21_7 => ?_)
    · obtain ⟨hs9, k9, hk1, hk2, ek9⟩ := lst_nums hn_6
      subst ek9
      rcases hs9 with es9 | es9
      · subst es9
        have hl : lv_has ls 3 [(0, .ref xm), (1, .int (nI 1)), (2, .int (nI k9))] := hl
        refine lv_aload_n hx hb dX15_haltingShare_26 rfl (lv_at hl 0 rfl) ?_
        refine lv_iload_n hx hb dX15_haltingShare_27 rfl (lv_at hl 1 rfl) ?_
        refine lv_iload_n hx hb dX15_haltingShare_28 rfl (lv_at hl 2 rfl) ?_
        have hPc := hP.sub (ws' := [(xm, .inr (20, [.int 0, .int 0, .ref kn, .int 0, .int 0, .int 0, .ref ml, .ref cl, .ref rg, .ref tr, .ref (aK 0), .ref (aK 0), .ref fl, .int 0, .int 0, .int 0, .int 0, .int 0, .int 0, .int 0, .null]))]) [0] rfl
        have hDc := hD.sub (ws' := [(xm, .inr (20, [.int 0, .int 0, .ref kn, .int 0, .int 0, .int 0, .ref ml, .ref cl, .ref rg, .ref tr, .ref (aK 0), .ref (aK 0), .ref fl, .int 0, .int 0, .int 0, .int 0, .int 0, .int 0, .int 0, .null]))]) [0] (by decide) rfl
        have hKc := hK.sub (tys' := [(cI, .int)]) [0] rfl
        have hFc := va_free (wc := [(xm, .inr (20, [.int 0, .int 0, .ref kn, .int 0, .int 0, .int 0, .ref ml, .ref cl, .ref rg, .ref tr, .ref (aK 0), .ref (aK 0), .ref fl, .int 0, .int 0, .int 0, .int 0, .int 0, .int 0, .int 0, .null]))]) hD hS hA [0] rfl
        refine va_callv (va_runV (As := [.int (nI 1), .int (nI k9)]) (rest := []) ⟨hx, hb, hml, hown, hts⟩ (c_X15_listAll_1 l dC dI cI xm 0 0 0 0 0 0 0 (.ref kn) (.int 0) (.int 0) (.int 0) (.ref ml) (.ref cl) (.ref rg) (.ref tr) (.ref (aK 0)) (.ref (aK 0)) (.ref fl) (.int 0) (.int 0) .null k9 (by omega) H.size) (cwV 2 hts gX15_haltingShare_X15_listAll rfl rfl rfl (by decide +kernel) ⟨Nat.le_of_ble_eq_true rfl, Nat.le_of_ble_eq_true rfl⟩) (pcV hPc hDc hKc hN (ci := 20) (q0 := 0) rfl rfl) rfl rfl hl.1 rfl (lv_room (Nat.le_of_ble_eq_true rfl)) dX15_haltingShare_29 ⟨Nat.le_of_ble_eq_true rfl, Nat.le_of_ble_eq_true rfl⟩) hS (fun q _ h => hFc q h) hFc (fun u t H1 locs ht hvm hw_17 hB hz1 hk1 hS => ?_)
        obtain ⟨fA_8, fB_9, lH_10, lN_11, lO_12, lS_13, lM_14, lb_15, lbs_16⟩ := u
        obtain ⟨hP1, hK1, hD1⟩ := hB
        rw [ht] at hP1
        try dsimp only at hw_17
        obtain ⟨hP, hD⟩ := va_join (wr := []) (w1 := [(xm, .inr (20, [.int fA_8, .int fB_9, .ref kn, .int 0, .int 0, .int 0, .ref ml, .ref cl, .ref rg, .ref tr, .ref (aK 0), .ref (aK 0), .ref fl, .int 0, .int 0, .int lH_10, .int lN_11, .int lO_12, .int lS_13, .int lM_14, .ref lb_15])), (lb_15, .inr (18, lbs_16))]) hP hD [0] [] rfl rfl (by decide) (by decide) hk1 hFc hP1 hD1
        generalize H1 = H at hP hS ⊢
        have hP : va_P (dC, dI) vwCl [(xm, .inr (20, [.int fA_8, .int fB_9, .ref kn, .int 0, .int 0, .int 0, .ref ml, .ref cl, .ref rg, .ref tr, .ref (aK 0), .ref (aK 0), .ref fl, .int 0, .int 0, .int lH_10, .int lN_11, .int lO_12, .int lS_13, .int lM_14, .ref lb_15])), (lb_15, .inr (18, lbs_16))] H := hP
        have hD : va_D A [(xm, .inr (20, [.int fA_8, .int fB_9, .ref kn, .int 0, .int 0, .int 0, .ref ml, .ref cl, .ref rg, .ref tr, .ref (aK 0), .ref (aK 0), .ref fl, .int 0, .int 0, .int lH_10, .int lN_11, .int lO_12, .int lS_13, .int lM_14, .ref lb_15])), (lb_15, .inr (18, lbs_16))] := hD
        refine W.widen (k := 228) (n := 90642) (Nat.le_of_ble_eq_true rfl) (Nat.le_of_ble_eq_true rfl) ?_
        refine lv_aload_n hx hb dX15_haltingShare_32 rfl (lv_at hl 0 rfl) ?_
        refine va_get (D := (dC, dI)) (ci := 20) (v := .int lH_10) (C := RX15) (T := TX15) (N := 21) hx hb hts iWX15 hown hK hP 0 rfl rfl 15 (by decide) (hts (.fieldLink RX15 307 "BeaverhallModel" "listedHalting" "I") (by decide +kernel)) (fun _ h9 => h9) rfl dX15_haltingShare_33 ?_
        refine lv_i2f hx hb dX15_haltingShare_36 ?_
        refine lv_aload_n hx hb dX15_haltingShare_37 rfl (lv_at hl 0 rfl) ?_
        refine va_get (D := (dC, dI)) (ci := 20) (v := .int lH_10) (C := RX15) (T := TX15) (N := 21) hx hb hts iWX15 hown hK hP 0 rfl rfl 15 (by decide) (hts (.fieldLink RX15 307 "BeaverhallModel" "listedHalting" "I") (by decide +kernel)) (fun _ h9 => h9) rfl dX15_haltingShare_38 ?_
        refine lv_aload_n hx hb dX15_haltingShare_41 rfl (lv_at hl 0 rfl) ?_
        refine va_get (D := (dC, dI)) (ci := 20) (v := .int lN_11) (C := RX15) (T := TX15) (N := 21) hx hb hts iWX15 hown hK hP 0 rfl rfl 16 (by decide) (hts (.fieldLink RX15 301 "BeaverhallModel" "listedNever" "I") (by decide +kernel)) (fun _ h9 => h9) rfl dX15_haltingShare_42 ?_
        refine lv_iadd hx hb dX15_haltingShare_45 ?_
        refine lv_aload_n hx hb dX15_haltingShare_46 rfl (lv_at hl 0 rfl) ?_
        refine va_get (D := (dC, dI)) (ci := 20) (v := .int lO_12) (C := RX15) (T := TX15) (N := 21) hx hb hts iWX15 hown hK hP 0 rfl rfl 17 (by decide) (hts (.fieldLink RX15 304 "BeaverhallModel" "listedOpen" "I") (by decide +kernel)) (fun _ h9 => h9) rfl dX15_haltingShare_47 ?_
        refine lv_iadd hx hb dX15_haltingShare_50 ?_
        refine lv_i2f hx hb dX15_haltingShare_51 ?_
        refine lv_fdiv hx hb dX15_haltingShare_52 (sh_num (c := (lH_10, lN_11, lO_12, lS_13, lM_14)) (by rw [hw_17]; exact all_ne (by decide) (by decide))) ?_
        have hP9 := hP.sub (ws' := [(xm, .inr (20, [.int fA_8, .int fB_9, .ref kn, .int 0, .int 0, .int 0, .ref ml, .ref cl, .ref rg, .ref tr, .ref (aK 0), .ref (aK 0), .ref fl, .int 0, .int 0, .int lH_10, .int lN_11, .int lO_12, .int lS_13, .int lM_14, .ref lb_15]))]) [0] rfl
        have hD9 := hD.sub (ws' := [(xm, .inr (20, [.int fA_8, .int fB_9, .ref kn, .int 0, .int 0, .int 0, .ref ml, .ref cl, .ref rg, .ref tr, .ref (aK 0), .ref (aK 0), .ref fl, .int 0, .int 0, .int lH_10, .int lN_11, .int lO_12, .int lS_13, .int lM_14, .ref lb_15]))]) [0] (by decide) rfl
        have hK9 := hK.sub (tys' := [(cI, .int)]) [0] rfl
        refine W.widen (k := 14340) (n := 5805426) (Nat.le_of_ble_eq_true rfl) (Nat.le_of_ble_eq_true rfl) ?_
        exact W.fret (v := (FP.fdiv (FP.i2f lH_10) (FP.i2f ((lH_10 + lN_11) + lO_12)))) hx hb hr (fun t ht hW => ⟨⟨(FP.fdiv (FP.i2f lH_10) (FP.i2f ((lH_10 + lN_11) + lO_12))), [.int fA_8, .int fB_9, .ref kn, .int 0, .int 0, .int 0, .ref ml, .ref cl, .ref rg, .ref tr, .ref (aK 0), .ref (aK 0), .ref fl, .int 0, .int 0, .int lH_10, .int lN_11, .int lO_12, .int lS_13, .int lM_14, .ref lb_15], rfl, (Or.inl ⟨hn_6, rfl, by rw [lsC_nI (by decide) hk2, ← hw_17]; rfl⟩), ⟨by rw [ht]; exact hP9, va_K.moved hW.alike hK9, hD9⟩⟩, hS.F ht⟩) hS.2.2 dX15_haltingShare_53
      · subst es9
        have hl : lv_has ls 3 [(0, .ref xm), (1, .int (nI 2)), (2, .int (nI k9))] := hl
        refine lv_aload_n hx hb dX15_haltingShare_26 rfl (lv_at hl 0 rfl) ?_
        refine lv_iload_n hx hb dX15_haltingShare_27 rfl (lv_at hl 1 rfl) ?_
        refine lv_iload_n hx hb dX15_haltingShare_28 rfl (lv_at hl 2 rfl) ?_
        have hPc := hP.sub (ws' := [(xm, .inr (20, [.int 0, .int 0, .ref kn, .int 0, .int 0, .int 0, .ref ml, .ref cl, .ref rg, .ref tr, .ref (aK 0), .ref (aK 0), .ref fl, .int 0, .int 0, .int 0, .int 0, .int 0, .int 0, .int 0, .null]))]) [0] rfl
        have hDc := hD.sub (ws' := [(xm, .inr (20, [.int 0, .int 0, .ref kn, .int 0, .int 0, .int 0, .ref ml, .ref cl, .ref rg, .ref tr, .ref (aK 0), .ref (aK 0), .ref fl, .int 0, .int 0, .int 0, .int 0, .int 0, .int 0, .int 0, .null]))]) [0] (by decide) rfl
        have hKc := hK.sub (tys' := [(cI, .int)]) [0] rfl
        have hFc := va_free (wc := [(xm, .inr (20, [.int 0, .int 0, .ref kn, .int 0, .int 0, .int 0, .ref ml, .ref cl, .ref rg, .ref tr, .ref (aK 0), .ref (aK 0), .ref fl, .int 0, .int 0, .int 0, .int 0, .int 0, .int 0, .int 0, .null]))]) hD hS hA [0] rfl
        refine va_callv (va_runV (As := [.int (nI 2), .int (nI k9)]) (rest := []) ⟨hx, hb, hml, hown, hts⟩ (c_X15_listAll_2 l dC dI cI xm 0 0 0 0 0 0 0 (.ref kn) (.int 0) (.int 0) (.int 0) (.ref ml) (.ref cl) (.ref rg) (.ref tr) (.ref (aK 0)) (.ref (aK 0)) (.ref fl) (.int 0) (.int 0) .null k9 (by omega) H.size) (cwV 2 hts gX15_haltingShare_X15_listAll rfl rfl rfl (by decide +kernel) ⟨Nat.le_of_ble_eq_true rfl, Nat.le_of_ble_eq_true rfl⟩) (pcV hPc hDc hKc hN (ci := 20) (q0 := 0) rfl rfl) rfl rfl hl.1 rfl (lv_room (Nat.le_of_ble_eq_true rfl)) dX15_haltingShare_29 ⟨Nat.le_of_ble_eq_true rfl, Nat.le_of_ble_eq_true rfl⟩) hS (fun q _ h => hFc q h) hFc (fun u t H1 locs ht hvm hw_27 hB hz1 hk1 hS => ?_)
        obtain ⟨fA_18, fB_19, lH_20, lN_21, lO_22, lS_23, lM_24, lb_25, lbs_26⟩ := u
        obtain ⟨hP1, hK1, hD1⟩ := hB
        rw [ht] at hP1
        try dsimp only at hw_27
        obtain ⟨hP, hD⟩ := va_join (wr := []) (w1 := [(xm, .inr (20, [.int fA_18, .int fB_19, .ref kn, .int 0, .int 0, .int 0, .ref ml, .ref cl, .ref rg, .ref tr, .ref (aK 0), .ref (aK 0), .ref fl, .int 0, .int 0, .int lH_20, .int lN_21, .int lO_22, .int lS_23, .int lM_24, .ref lb_25])), (lb_25, .inr (18, lbs_26))]) hP hD [0] [] rfl rfl (by decide) (by decide) hk1 hFc hP1 hD1
        generalize H1 = H at hP hS ⊢
        have hP : va_P (dC, dI) vwCl [(xm, .inr (20, [.int fA_18, .int fB_19, .ref kn, .int 0, .int 0, .int 0, .ref ml, .ref cl, .ref rg, .ref tr, .ref (aK 0), .ref (aK 0), .ref fl, .int 0, .int 0, .int lH_20, .int lN_21, .int lO_22, .int lS_23, .int lM_24, .ref lb_25])), (lb_25, .inr (18, lbs_26))] H := hP
        have hD : va_D A [(xm, .inr (20, [.int fA_18, .int fB_19, .ref kn, .int 0, .int 0, .int 0, .ref ml, .ref cl, .ref rg, .ref tr, .ref (aK 0), .ref (aK 0), .ref fl, .int 0, .int 0, .int lH_20, .int lN_21, .int lO_22, .int lS_23, .int lM_24, .ref lb_25])), (lb_25, .inr (18, lbs_26))] := hD
        refine W.widen (k := 14340) (n := 5805426) (Nat.le_of_ble_eq_true rfl) (Nat.le_of_ble_eq_true rfl) ?_
        refine lv_aload_n hx hb dX15_haltingShare_32 rfl (lv_at hl 0 rfl) ?_
        refine va_get (D := (dC, dI)) (ci := 20) (v := .int lH_20) (C := RX15) (T := TX15) (N := 21) hx hb hts iWX15 hown hK hP 0 rfl rfl 15 (by decide) (hts (.fieldLink RX15 307 "BeaverhallModel" "listedHalting" "I") (by decide +kernel)) (fun _ h9 => h9) rfl dX15_haltingShare_33 ?_
        refine lv_i2f hx hb dX15_haltingShare_36 ?_
        refine lv_aload_n hx hb dX15_haltingShare_37 rfl (lv_at hl 0 rfl) ?_
        refine va_get (D := (dC, dI)) (ci := 20) (v := .int lH_20) (C := RX15) (T := TX15) (N := 21) hx hb hts iWX15 hown hK hP 0 rfl rfl 15 (by decide) (hts (.fieldLink RX15 307 "BeaverhallModel" "listedHalting" "I") (by decide +kernel)) (fun _ h9 => h9) rfl dX15_haltingShare_38 ?_
        refine lv_aload_n hx hb dX15_haltingShare_41 rfl (lv_at hl 0 rfl) ?_
        refine va_get (D := (dC, dI)) (ci := 20) (v := .int lN_21) (C := RX15) (T := TX15) (N := 21) hx hb hts iWX15 hown hK hP 0 rfl rfl 16 (by decide) (hts (.fieldLink RX15 301 "BeaverhallModel" "listedNever" "I") (by decide +kernel)) (fun _ h9 => h9) rfl dX15_haltingShare_42 ?_
        refine lv_iadd hx hb dX15_haltingShare_45 ?_
        refine lv_aload_n hx hb dX15_haltingShare_46 rfl (lv_at hl 0 rfl) ?_
        refine va_get (D := (dC, dI)) (ci := 20) (v := .int lO_22) (C := RX15) (T := TX15) (N := 21) hx hb hts iWX15 hown hK hP 0 rfl rfl 17 (by decide) (hts (.fieldLink RX15 304 "BeaverhallModel" "listedOpen" "I") (by decide +kernel)) (fun _ h9 => h9) rfl dX15_haltingShare_47 ?_
        refine lv_iadd hx hb dX15_haltingShare_50 ?_
        refine lv_i2f hx hb dX15_haltingShare_51 ?_
        refine lv_fdiv hx hb dX15_haltingShare_52 (sh_num (c := (lH_20, lN_21, lO_22, lS_23, lM_24)) (by rw [hw_27]; exact all_ne (by decide) (by decide))) ?_
        have hP9 := hP.sub (ws' := [(xm, .inr (20, [.int fA_18, .int fB_19, .ref kn, .int 0, .int 0, .int 0, .ref ml, .ref cl, .ref rg, .ref tr, .ref (aK 0), .ref (aK 0), .ref fl, .int 0, .int 0, .int lH_20, .int lN_21, .int lO_22, .int lS_23, .int lM_24, .ref lb_25]))]) [0] rfl
        have hD9 := hD.sub (ws' := [(xm, .inr (20, [.int fA_18, .int fB_19, .ref kn, .int 0, .int 0, .int 0, .ref ml, .ref cl, .ref rg, .ref tr, .ref (aK 0), .ref (aK 0), .ref fl, .int 0, .int 0, .int lH_20, .int lN_21, .int lO_22, .int lS_23, .int lM_24, .ref lb_25]))]) [0] (by decide) rfl
        have hK9 := hK.sub (tys' := [(cI, .int)]) [0] rfl
        exact W.fret (v := (FP.fdiv (FP.i2f lH_20) (FP.i2f ((lH_20 + lN_21) + lO_22)))) hx hb hr (fun t ht hW => ⟨⟨(FP.fdiv (FP.i2f lH_20) (FP.i2f ((lH_20 + lN_21) + lO_22))), [.int fA_18, .int fB_19, .ref kn, .int 0, .int 0, .int 0, .ref ml, .ref cl, .ref rg, .ref tr, .ref (aK 0), .ref (aK 0), .ref fl, .int 0, .int 0, .int lH_20, .int lN_21, .int lO_22, .int lS_23, .int lM_24, .ref lb_25], rfl, (Or.inl ⟨hn_6, rfl, by rw [lsC_nI (by decide) hk2, ← hw_27]; rfl⟩), ⟨by rw [ht]; exact hP9, va_K.moved hW.alike hK9, hD9⟩⟩, hS.F ht⟩) hS.2.2 dX15_haltingShare_53
    · exact (c21_7 (by decide)).elim
