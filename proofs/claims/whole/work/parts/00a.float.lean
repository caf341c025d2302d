/-! ===== numbers with points (their names stand in the rest of the library: this part is early so that a round turns wide at once) ===== -/
theorem n64_of {r : UInt64} (h : Jvm.FP.Core.dIsNaN r = false) : vf_n64 r := by
  unfold vf_n64
  rw [UInt64.le_iff_toNat_le, UInt64.toNat_and]
  have e : (0x7fffffffffffffff : UInt64).toNat = 2 ^ 63 - 1 := by decide
  rw [e, Nat.and_two_pow_sub_one_eq_mod]
  rcases Nat.lt_or_ge 9218868437227405312 (r.toNat % 2 ^ 63) with q | q
  · rw [(Jvm.FP.Core.isNaN_bits r).mpr q] at h
    cases h
  · exact q
theorem n32_of {r : UInt32} (h : Jvm.FP.Core.fIsNaN r = false) : vf_n32 r := by
  unfold vf_n32
  rw [UInt32.le_iff_toNat_le, UInt32.toNat_and]
  have e : (0x7fffffff : UInt32).toNat = 2 ^ 31 - 1 := by decide
  rw [e, Nat.and_two_pow_sub_one_eq_mod]
  rcases Nat.lt_or_ge 2139095040 (r.toNat % 2 ^ 31) with q | q
  · rw [(Jvm.FP.Core.isNaN_bits32 r).mpr q] at h
    cases h
  · exact q
theorem ddiv_okN (a b : Int32) (hb : b ≠ 0) : vf_n64 (FP.ddiv (FP.i2d a) (FP.i2d b)) := by
  refine n64_of ?_
  show Jvm.FP.Core.dIsNaN (Jvm.FP.Core.ddiv (Jvm.FP.Core.i2d a) (Jvm.FP.Core.i2d b)) = false
  refine Jvm.FP.Core.ddiv_out ?_ (Jvm.FP.Core.i2d_fin b) (fun z => Jvm.FP.Core.i2d_ne_zero hb ((Jvm.FP.Core.zero_bits2 _).mp z))
  have h1 := (Jvm.FP.Core.fin_bits _).mp (Jvm.FP.Core.i2d_fin a)
  cases h2 : Jvm.FP.Core.dIsNaN (Jvm.FP.Core.i2d a) with
  | false => rfl
  | true =>
    have := (Jvm.FP.Core.isNaN_bits _).mp h2
    omega
theorem fdiv_okC (a b : Int32) (hb : b ≠ 0) : Jvm.FP.Core.fIsNaN (Jvm.FP.Core.fdiv (Jvm.FP.Core.i2f a) (Jvm.FP.Core.i2f b)) = false := by
  refine Jvm.FP.Core.fdiv_out ?_ (Jvm.FP.Core.i2f_fin b) (fun z => Jvm.FP.Core.i2f_ne_zero hb ((Jvm.FP.Core.zero_bits232 _).mp z))
  have h1 := (Jvm.FP.Core.fin_bits32 _).mp (Jvm.FP.Core.i2f_fin a)
  cases h2 : Jvm.FP.Core.fIsNaN (Jvm.FP.Core.i2f a) with
  | false => rfl
  | true =>
    have := (Jvm.FP.Core.isNaN_bits32 _).mp h2
    omega
theorem fdiv_okN (a b : Int32) (hb : b ≠ 0) : vf_n32 (FP.fdiv (FP.i2f a) (FP.i2f b)) := n32_of (fdiv_okC a b hb)
theorem f2d_okN (a b : Int32) (hb : b ≠ 0) : vf_n64 (FP.f2d (FP.fdiv (FP.i2f a) (FP.i2f b))) := by
  refine n64_of ?_
  have h := fdiv_okC a b hb
  show Jvm.FP.Core.dIsNaN (if Jvm.FP.Core.fIsNaN (Jvm.FP.Core.fdiv (Jvm.FP.Core.i2f a) (Jvm.FP.Core.i2f b)) then _ else Jvm.FP.Core.f2d (Jvm.FP.Core.fdiv (Jvm.FP.Core.i2f a) (Jvm.FP.Core.i2f b))) = false
  rw [h]
  exact Jvm.FP.Core.f2d_out h
