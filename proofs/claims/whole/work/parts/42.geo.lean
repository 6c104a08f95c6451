/-! signs of points, as whole numbers -/
theorem ge_sign (z : Int64) : f_X5_signOf z = f_X6_signOf z := by
  unfold f_X5_signOf f_X6_signOf f_J13_compare_74951
  simp only [lg_cmp_ge, lg_cmp_le, lg_cmp_eq]
  by_cases h1 : z < 0
  · have h2 : ¬ (0 : Int64) ≤ z := Int64.not_le.mpr h1
    rw [if_neg h2, if_pos (Int64.le_of_lt h1), if_neg h2]
  · have h2 : (0 : Int64) ≤ z := Int64.not_lt.mp h1
    rw [if_pos h2]
    by_cases h3 : z = 0
    · subst h3; simp
    · have h4 : ¬ z ≤ 0 := fun h => h3 (Int64.le_antisymm h h2)
      rw [if_neg h3, if_neg h4]
theorem ge_turn (xs ys : Nat → Int32) (a b c : Int32) : f_X2_turn xs ys a b c = f_X6_turn xs ys a b c := ge_sign _
theorem ge_ring (xs ys : Nat → Int32) (a b c d : Int32) : f_X2_ring xs ys a b c d = f_X6_ring xs ys a b c d := by
  unfold f_X2_ring f_X6_ring
  rw [ge_turn, ge_sign]
theorem ge_cmp0 (x y : Int32) : (f_J6_compare_7cf53 x y = 0) ↔ x = y := by
  unfold f_J6_compare_7cf53
  by_cases h : x = y
  · subst h; simp
  · by_cases h2 : y ≤ x
    · rw [if_pos h2, if_neg h]; simp [h]
    · rw [if_neg h2]; simp [h]
theorem ge_cmp (x y : Int32) : f_J6_compare_7cf53 x y = if x.toInt < y.toInt then -1 else if x.toInt = y.toInt then 0 else 1 := by
  unfold f_J6_compare_7cf53
  simp only [Int32.le_iff_toInt_le, ← Int32.toInt_inj]
  repeat' split
  all_goals first | rfl | omega
theorem ge_equal (xs ys : Nat → Int32) (a b : Int32) : f_X2_equal xs ys a b = f_X6_areEqual xs ys a b := by
  unfold f_X2_equal f_X2_compare f_X6_areEqual
  by_cases h1 : xs (Int32.toNatClampNeg a) = xs (Int32.toNatClampNeg b)
  · rw [if_pos ((ge_cmp0 _ _).mpr h1), if_pos h1]
    by_cases h2 : ys (Int32.toNatClampNeg a) = ys (Int32.toNatClampNeg b)
    · rw [if_pos ((ge_cmp0 _ _).mpr h2), if_pos h2]
    · rw [if_neg (fun h => h2 ((ge_cmp0 _ _).mp h)), if_neg h2]
  · have h3 : ¬ f_J6_compare_7cf53 (xs (Int32.toNatClampNeg a)) (xs (Int32.toNatClampNeg b)) = 0 := fun h => h1 ((ge_cmp0 _ _).mp h)
    rw [if_neg h3, if_neg h3, if_neg h1]
def gx (f : Nat → Int32) (p : Int32) : Int := (f (Int32.toNatClampNeg p)).toInt
def gB (f : Nat → Int32) : Prop := ∀ j : Nat, (f j).toInt.natAbs ≤ 9600
theorem gx_b {f : Nat → Int32} (h : gB f) (p : Int32) : -9600 ≤ gx f p ∧ gx f p ≤ 9600 := by
  have := h (Int32.toNatClampNeg p); unfold gx; omega
def sg (z : Int) : Int32 := if z < 0 then -1 else if z = 0 then 0 else 1
theorem sg_of (z : Int64) : f_X6_signOf z = sg z.toInt := by
  unfold f_X6_signOf sg
  simp only [lg_cmp_ge, lg_cmp_le, Int64.le_iff_toInt_le]
  have h0 : (0 : Int64).toInt = 0 := rfl
  rw [h0]
  repeat' split
  all_goals first | rfl | omega
theorem sg_0 (z : Int) : (sg z = 0) ↔ z = 0 := by unfold sg; repeat' split
                                                  all_goals first | (simp; omega) | (constructor <;> intro h <;> first | omega | (exact absurd h (by decide)))
theorem sg_1 (z : Int) : (sg z = 1) ↔ 0 < z := by unfold sg; repeat' split
                                                  all_goals first | (simp; omega) | (constructor <;> intro h <;> first | omega | (exact absurd h (by decide)))
theorem sg_n (z : Int) : (sg z = -1) ↔ z < 0 := by unfold sg; repeat' split
                                                   all_goals first | (simp; omega) | (constructor <;> intro h <;> first | omega | (exact absurd h (by decide)))
theorem sg_le (z : Int) : (sg z ≤ 0) ↔ z ≤ 0 := by unfold sg; repeat' split
                                                   all_goals first | (constructor <;> intro h <;> first | omega | decide | (exact absurd h (by decide)))
theorem sg_ge (z : Int) : (0 ≤ sg z) ↔ 0 ≤ z := by unfold sg; repeat' split
                                                   all_goals first | (constructor <;> intro h <;> first | omega | decide | (exact absurd h (by decide)))
theorem sg_neg (z : Int) : -(sg z) = sg (-z) := by
  unfold sg; repeat' split
  all_goals first | rfl | omega
theorem sg_cases (z : Int) : (z < 0 ∧ sg z = -1) ∨ (z = 0 ∧ sg z = 0) ∨ (0 < z ∧ sg z = 1) := by
  unfold sg; repeat' split
  all_goals first | (left; exact ⟨by omega, rfl⟩) | (right; left; exact ⟨by omega, rfl⟩) | (right; right; exact ⟨by omega, rfl⟩)
/-! products within bounds -/
theorem ab_mul {x y a b : Int} (hx : -a ≤ x ∧ x ≤ a) (hy : -b ≤ y ∧ y ≤ b) : -(a * b) ≤ x * y ∧ x * y ≤ a * b := by
  have h1 : x.natAbs ≤ a.toNat := by omega
  have h2 : y.natAbs ≤ b.toNat := by omega
  have h3 := Nat.mul_le_mul h1 h2
  rw [← Int.natAbs_mul] at h3
  have h4 : ((a.toNat * b.toNat : Nat) : Int) = a * b := by
    rw [Int.natCast_mul, Int.toNat_of_nonneg (by omega), Int.toNat_of_nonneg (by omega)]
  omega
theorem tI_sub {x y : Int32} (hx : -9600 ≤ x.toInt ∧ x.toInt ≤ 9600) (hy : -9600 ≤ y.toInt ∧ y.toInt ≤ 9600) : (Int32.toInt64 (x - y)).toInt = x.toInt - y.toInt := by
  rw [Int32.toInt_toInt64, fb_subI (by omega) (by omega)]
def gT (xs ys : Nat → Int32) (a b c : Int32) : Int := (gx xs b - gx xs a) * (gx ys c - gx ys a) - (gx ys b - gx ys a) * (gx xs c - gx xs a)
def gA (xs ys : Nat → Int32) (a b c : Int32) : Int := (gx xs b - gx xs a) * (gx xs c - gx xs a) + (gx ys b - gx ys a) * (gx ys c - gx ys a)
section GE
variable {xs ys : Nat → Int32} (hx : gB xs) (hy : gB ys)
theorem gT_eq (hx : gB xs) (hy : gB ys) (a b c : Int32) : f_X6_turn xs ys a b c = sg (gT xs ys a b c) := by
  have xa := gx_b hx a; have xb := gx_b hx b; have xc := gx_b hx c
  have ya := gx_b hy a; have yb := gx_b hy b; have yc := gx_b hy c
  unfold f_X6_turn
  rw [sg_of]
  have d1 := tI_sub (x := xs (Int32.toNatClampNeg b)) (y := xs (Int32.toNatClampNeg a)) xb xa
  have d2 := tI_sub (x := ys (Int32.toNatClampNeg c)) (y := ys (Int32.toNatClampNeg a)) yc ya
  have d3 := tI_sub (x := ys (Int32.toNatClampNeg b)) (y := ys (Int32.toNatClampNeg a)) yb ya
  have d4 := tI_sub (x := xs (Int32.toNatClampNeg c)) (y := xs (Int32.toNatClampNeg a)) xc xa
  have m1 := ab_mul (x := gx xs b - gx xs a) (y := gx ys c - gx ys a) (a := 19200) (b := 19200) (by omega) (by omega)
  have m2 := ab_mul (x := gx ys b - gx ys a) (y := gx xs c - gx xs a) (a := 19200) (b := 19200) (by omega) (by omega)
  unfold gx at *
  have e1 : (Int32.toInt64 (xs (Int32.toNatClampNeg b) - xs (Int32.toNatClampNeg a)) * Int32.toInt64 (ys (Int32.toNatClampNeg c) - ys (Int32.toNatClampNeg a))).toInt = ((xs (Int32.toNatClampNeg b)).toInt - (xs (Int32.toNatClampNeg a)).toInt) * ((ys (Int32.toNatClampNeg c)).toInt - (ys (Int32.toNatClampNeg a)).toInt) := by
    rw [fb_mulL (by rw [d1, d2]; omega) (by rw [d1, d2]; omega), d1, d2]
  have e2 : (Int32.toInt64 (ys (Int32.toNatClampNeg b) - ys (Int32.toNatClampNeg a)) * Int32.toInt64 (xs (Int32.toNatClampNeg c) - xs (Int32.toNatClampNeg a))).toInt = ((ys (Int32.toNatClampNeg b)).toInt - (ys (Int32.toNatClampNeg a)).toInt) * ((xs (Int32.toNatClampNeg c)).toInt - (xs (Int32.toNatClampNeg a)).toInt) := by
    rw [fb_mulL (by rw [d3, d4]; omega) (by rw [d3, d4]; omega), d3, d4]
  rw [fb_subL (by rw [e1, e2]; omega) (by rw [e1, e2]; omega), e1, e2]
  rfl
theorem gA_eq (hx : gB xs) (hy : gB ys) (a b c : Int32) : (f_X6_along xs ys a b c).toInt = gA xs ys a b c := by
  have xa := gx_b hx a; have xb := gx_b hx b; have xc := gx_b hx c
  have ya := gx_b hy a; have yb := gx_b hy b; have yc := gx_b hy c
  unfold f_X6_along
  have d1 := tI_sub (x := xs (Int32.toNatClampNeg b)) (y := xs (Int32.toNatClampNeg a)) xb xa
  have d2 := tI_sub (x := ys (Int32.toNatClampNeg c)) (y := ys (Int32.toNatClampNeg a)) yc ya
  have d3 := tI_sub (x := ys (Int32.toNatClampNeg b)) (y := ys (Int32.toNatClampNeg a)) yb ya
  have d4 := tI_sub (x := xs (Int32.toNatClampNeg c)) (y := xs (Int32.toNatClampNeg a)) xc xa
  have m1 := ab_mul (x := gx xs b - gx xs a) (y := gx xs c - gx xs a) (a := 19200) (b := 19200) (by omega) (by omega)
  have m2 := ab_mul (x := gx ys b - gx ys a) (y := gx ys c - gx ys a) (a := 19200) (b := 19200) (by omega) (by omega)
  unfold gx at *
  have e1 : (Int32.toInt64 (xs (Int32.toNatClampNeg b) - xs (Int32.toNatClampNeg a)) * Int32.toInt64 (xs (Int32.toNatClampNeg c) - xs (Int32.toNatClampNeg a))).toInt = ((xs (Int32.toNatClampNeg b)).toInt - (xs (Int32.toNatClampNeg a)).toInt) * ((xs (Int32.toNatClampNeg c)).toInt - (xs (Int32.toNatClampNeg a)).toInt) := by
    rw [fb_mulL (by rw [d1, d4]; omega) (by rw [d1, d4]; omega), d1, d4]
  have e2 : (Int32.toInt64 (ys (Int32.toNatClampNeg b) - ys (Int32.toNatClampNeg a)) * Int32.toInt64 (ys (Int32.toNatClampNeg c) - ys (Int32.toNatClampNeg a))).toInt = ((ys (Int32.toNatClampNeg b)).toInt - (ys (Int32.toNatClampNeg a)).toInt) * ((ys (Int32.toNatClampNeg c)).toInt - (ys (Int32.toNatClampNeg a)).toInt) := by
    rw [fb_mulL (by rw [d3, d2]; omega) (by rw [d3, d2]; omega), d3, d2]
  rw [fb_addL (by rw [e1, e2]; omega) (by rw [e1, e2]; omega), e1, e2]
  rfl
theorem gE_eq (xs ys : Nat → Int32) (a b : Int32) : f_X6_areEqual xs ys a b = if gx xs a = gx xs b ∧ gx ys a = gx ys b then 1 else 0 := by
  unfold f_X6_areEqual gx
  simp only [Int32.toInt_inj]
  by_cases h1 : xs (Int32.toNatClampNeg a) = xs (Int32.toNatClampNeg b) <;> by_cases h2 : ys (Int32.toNatClampNeg a) = ys (Int32.toNatClampNeg b) <;> simp [h1, h2]
theorem gE_0 (xs ys : Nat → Int32) (a b : Int32) : (f_X6_areEqual xs ys a b = 0) ↔ ¬ (gx xs a = gx xs b ∧ gx ys a = gx ys b) := by
  rw [gE_eq]; split
  · rename_i h; simp [h]
  · rename_i h; simp [h]
/-! ring identities -/
theorem id_lag (bx b2 cx c2 dx d2 : Int) : (bx * d2 - b2 * dx) * (bx * cx + b2 * c2) = (cx * d2 - c2 * dx) * (bx * bx + b2 * b2) + (bx * c2 - b2 * cx) * (bx * dx + b2 * d2) := by grind
theorem id_sq (bx b2 cx c2 : Int) : (bx * cx + b2 * c2) * (bx * cx + b2 * c2) + (bx * c2 - b2 * cx) * (bx * c2 - b2 * cx) = (bx * bx + b2 * b2) * (cx * cx + c2 * c2) := by grind
theorem sq_nn (x : Int) : 0 ≤ x * x := by
  rcases Int.le_total 0 x with h | h
  · exact Int.mul_nonneg h h
  · have := Int.mul_nonneg (a := -x) (b := -x) (by omega) (by omega); rw [Int.neg_mul_neg] at this; exact this
theorem sq_0 {x : Int} (h : x * x ≤ 0) : x = 0 := by
  have h1 := sq_nn x
  have h2 : x * x = 0 := by omega
  rcases Int.mul_eq_zero.mp h2 with h3 | h3 <;> exact h3
theorem nn_pos {x y : Int} (h : ¬ (x = 0 ∧ y = 0)) : 0 < x * x + y * y := by
  have h1 := sq_nn x; have h2 := sq_nn y
  rcases Int.lt_or_eq_of_le (Int.add_nonneg h1 h2) with h3 | h3
  · exact h3
  · exact absurd ⟨sq_0 (by omega), sq_0 (by omega)⟩ h
theorem mu_le (x y : Int) : x * y ≤ 0 ↔ (x ≤ 0 ∧ 0 ≤ y) ∨ (0 ≤ x ∧ y ≤ 0) := by
  constructor
  · intro h
    rcases Int.lt_trichotomy x 0 with h1 | h1 | h1
    · rcases Int.lt_or_le y 0 with h2 | h2
      · have := Int.mul_pos_of_neg_of_neg h1 h2; omega
      · left; omega
    · omega
    · rcases Int.lt_or_le 0 y with h2 | h2
      · have := Int.mul_pos h1 h2; omega
      · right; omega
  · rintro (⟨h1, h2⟩ | ⟨h1, h2⟩)
    · exact Int.mul_nonpos_of_nonpos_of_nonneg h1 h2
    · exact Int.mul_nonpos_of_nonneg_of_nonpos h1 h2
theorem mu_lt (x y : Int) : x * y < 0 ↔ (x < 0 ∧ 0 < y) ∨ (0 < x ∧ y < 0) := by
  have h0 := mu_le x y
  have h1 := @Int.mul_eq_zero x y
  omega
theorem mu_gt (x y : Int) : 0 < x * y ↔ (x < 0 ∧ y < 0) ∨ (0 < x ∧ 0 < y) := by
  have h0 := mu_le x y
  omega
end GE
