/-! magnitudes of floats: below 2 to the K (biased) -/
def mg (K : Nat) (x : UInt32) : Prop := x.toNat % 2 ^ 31 < K * 2 ^ 23
theorem mg_up {K K2 : Nat} {x : UInt32} (h : mg K x) (hk : K ≤ K2) : mg K2 x := Nat.lt_of_lt_of_le h (Nat.mul_le_mul_right _ hk)
theorem mg_eq {K : Nat} {x y : UInt32} (e : y = x) (h : mg K x) : mg K y := by rw [e]; exact h
theorem mg_mul {Ka Kb : Nat} {x y : UInt32} (hx : mg Ka x) (hy : mg Kb y) (ha : Ka ≤ 255) (hb : Kb ≤ 255) : mg (Ka + Kb - 129 + 3) (FP.fmul x y) := FP.Core.fmul_mag hx hy ha hb
theorem mg_add {K : Nat} {x y : UInt32} (hx : mg K x) (hy : mg K y) (ha : K ≤ 255) : mg (K + 2) (FP.fadd x y) := FP.Core.fadd_mag hx hy ha
theorem mg_sub {K : Nat} {x y : UInt32} (hx : mg K x) (hy : mg K y) (ha : K ≤ 255) : mg (K + 2) (FP.fsub x y) := FP.Core.fsub_mag hx hy ha
theorem mg_div12 {x : UInt32} (hx : mg 142 x) : mg 140 (FP.fdiv x 1094713344) := FP.Core.fdiv_mag (K := 142) (L := 130) hx (by decide) (by decide) (by decide) (by decide)
theorem mg_i2f {x : Int32} (h : x.toInt.natAbs ≤ 16384) : mg 142 (FP.i2f x) := by
  have := FP.Core.fromInt_mag32 (FP.Core.toNat_i2f x) (j := 14) (K := 141) h (by decide) (by decide)
  show (FP.Core.i2f x).toNat % 2 ^ 31 < 142 * 2 ^ 23
  omega
theorem mg_c1 : mg 110 914358272 := by unfold mg; decide
theorem mg_c2 : mg 116 964689920 := by unfold mg; decide
theorem mg_and (x : UInt32) : (x &&& 0x7fffffff).toNat = x.toNat % 2 ^ 31 := by
  rw [UInt32.toNat_and]
  exact Nat.and_two_pow_sub_one_eq_mod x.toNat 31
theorem mg_nn {K : Nat} {x : UInt32} (h : mg K x) (hK : K ≤ 255) : vf_n32 x := by
  unfold vf_n32
  rw [UInt32.le_iff_toNat_le, mg_and, show (0x7f800000 : UInt32).toNat = 255 * 2 ^ 23 by decide]
  exact Nat.le_of_lt (mg_up h hK)
theorem mg_neg {K : Nat} {x : UInt32} (h : mg K x) : mg K (FP.fneg x) := by
  have e : (FP.fneg x).toNat % 2 ^ 31 = x.toNat % 2 ^ 31 := by
    unfold FP.fneg
    rw [UInt32.toNat_xor, show (0x80000000 : UInt32).toNat = 2 ^ 31 by decide, Nat.xor_mod_two_pow]
    simp
  unfold mg at *
  rw [e]
  exact h
