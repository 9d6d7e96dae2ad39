-- ===== numbers with a point: what is asked of the library's laws =====
theorem num32 {r : UInt32} (h : FP.Core.fIsNaN r = false) : vf_n32 r := by
  have h2 : ¬ 2139095040 < r.toNat % 2 ^ 31 := fun h3 => by
    rw [(FP.Core.isNaN_bits32 r).mpr h3] at h
    cases h
  unfold vf_n32
  rw [UInt32.le_iff_toNat_le, UInt32.toNat_and, show (0x7fffffff : UInt32).toNat = 2 ^ 31 - 1 from rfl, Nat.and_two_pow_sub_one_eq_mod, show (0x7f800000 : UInt32).toNat = 2139095040 from rfl]
  omega
theorem num64 {r : UInt64} (h : FP.Core.dIsNaN r = false) : vf_n64 r := by
  have h2 : ¬ 9218868437227405312 < r.toNat % 2 ^ 63 := fun h3 => by
    rw [(FP.Core.isNaN_bits r).mpr h3] at h
    cases h
  unfold vf_n64
  rw [UInt64.le_iff_toNat_le, UInt64.toNat_and, show (0x7fffffffffffffff : UInt64).toNat = 2 ^ 63 - 1 from rfl, Nat.and_two_pow_sub_one_eq_mod, show (0x7ff0000000000000 : UInt64).toNat = 9218868437227405312 from rfl]
  omega
theorem fl_nan {a b : Int32} (h : ¬ b = 0) : FP.Core.fIsNaN (FP.fdiv (FP.i2f a) (FP.i2f b)) = false := by
  refine FP.Core.fdiv_out ?_ (FP.Core.i2f_fin _) (fun hz => FP.Core.i2f_ne_zero h ((FP.Core.zero_bits232 _).mp hz))
  obtain ⟨s, c', q, e⟩ := FP.Core.i2f_fin a
  rw [FP.Core.notNaN_iff32, e]
  intro h2
  cases h2
theorem fl_f2d (a : UInt32) : FP.Core.dIsNaN (FP.f2d a) = FP.Core.fIsNaN a := FP.f2d_nan a
theorem fl_cmp {x : UInt64} (h : FP.Core.dIsNaN x = false) : Op.cmpValue (FP.dcmp x x) .l = 0 := by
  have h2 : FP.dcmp x x = some .eq := FP.Core.dcmp_self ((FP.Core.notNaN_iff _).mp h)
  rw [h2]
  rfl
