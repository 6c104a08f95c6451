/-! orders of a few -/
theorem on_seg_int {ux u2 vx v2 : Int} (hT : ux * v2 = u2 * vx) : (ux * vx + u2 * v2 ≤ 0) ↔ (ux * vx ≤ 0 ∧ u2 * v2 ≤ 0) := by
  constructor
  · intro h
    have h1 : (ux * vx) * (u2 * v2) = (u2 * vx) * (u2 * vx) := by grind
    have h2 := sq_nn (u2 * vx)
    rw [← h1] at h2
    rcases Int.lt_or_le 0 (ux * vx) with h3 | h3
    · have h4 : u2 * v2 < 0 := by omega
      have := Int.mul_neg_of_pos_of_neg h3 h4
      omega
    · refine ⟨h3, ?_⟩
      rcases Int.lt_or_le 0 (u2 * v2) with h5 | h5
      · have h6 : ux * vx < 0 := by omega
        have := Int.mul_neg_of_neg_of_pos h6 h5
        omega
      · exact h5
  · intro ⟨h1, h2⟩; omega
theorem la_eq (e o v : Int32) : (f_X2_liesAmong e o v = 0) ↔ ¬ ((e.toInt - v.toInt) * (o.toInt - v.toInt) ≤ 0) := by
  unfold f_X2_liesAmong
  rw [mu_le]
  simp only [Int32.lt_iff_toInt_lt]
  repeat' split
  all_goals (constructor <;> intro h <;> first | omega | rfl | (exact absurd h (by decide)))
section FW
variable {xs ys : Nat → Int32}
def gO (xs ys : Nat → Int32) (a b p : Int32) : Prop := gT xs ys a b p = 0 ∧ (gx xs a - gx xs p) * (gx xs b - gx xs p) ≤ 0 ∧ (gx ys a - gx ys p) * (gx ys b - gx ys p) ≤ 0
theorem os_eq (hx : gB xs) (hy : gB ys) (a b p : Int32) : (f_X2_onSegment xs ys a b p = 0) ↔ ¬ gO xs ys a b p := by
  unfold f_X2_onSegment gO
  have h1 : (f_X2_turn xs ys a b p = 0) ↔ gT xs ys a b p = 0 := by rw [ge_turn, gT_eq hx hy, sg_0]
  have h2 := la_eq (xs (Int32.toNatClampNeg a)) (xs (Int32.toNatClampNeg b)) (xs (Int32.toNatClampNeg p))
  have h3 := la_eq (ys (Int32.toNatClampNeg a)) (ys (Int32.toNatClampNeg b)) (ys (Int32.toNatClampNeg p))
  unfold gx
  repeat' split
  all_goals (rename_i h; simp only [h1, h2, h3] at *; simp_all)
  all_goals (try (intros; omega))
theorem os_1 (hx : gB xs) (hy : gB ys) (a b p : Int32) : f_X2_onSegment xs ys a b p = 0 ∨ f_X2_onSegment xs ys a b p = 1 := by
  unfold f_X2_onSegment; repeat' split
  all_goals simp
theorem io_eq (hx : gB xs) (hy : gB ys) (a b p : Int32) : (f_X6_isOn xs ys a b p = 0) ↔ ¬ gO xs ys a b p := by
  have hT : (f_X6_turn xs ys a b p = 0) ↔ gT xs ys a b p = 0 := by rw [gT_eq hx hy, sg_0]
  have hA : (0 < lg_cmp (f_X6_along xs ys p a b) 0) ↔ ¬ gA xs ys p a b ≤ 0 := by
    rw [lg_cmp_gt, Int64.lt_iff_toInt_lt, gA_eq hx hy]
    have h0 : (0 : Int64).toInt = 0 := rfl
    omega
  have key : gT xs ys a b p = 0 → (gA xs ys p a b ≤ 0 ↔ ((gx xs a - gx xs p) * (gx xs b - gx xs p) ≤ 0 ∧ (gx ys a - gx ys p) * (gx ys b - gx ys p) ≤ 0)) := by
    intro h
    exact on_seg_int (by unfold gT at h; grind)
  unfold f_X6_isOn gO
  by_cases h1 : gT xs ys a b p = 0
  · rw [if_pos (hT.mpr h1)]
    have k := key h1
    by_cases h2 : f_X6_areEqual xs ys a b = 0
    · rw [if_pos h2]
      by_cases h3 : gA xs ys p a b ≤ 0
      · rw [if_neg (fun h => (hA.mp h) h3)]
        have := k.mp h3
        simp [h1, this]
      · rw [if_pos (hA.mpr h3)]
        simp only [true_iff]
        exact fun ⟨_, h⟩ => h3 (k.mpr h)
    · rw [if_neg h2]
      rw [gE_0, Classical.not_not] at h2
      by_cases h3 : f_X6_areEqual xs ys a p = 0
      · rw [if_pos h3]
        rw [gE_0] at h3
        simp only [true_iff]
        rintro ⟨_, h4, h5⟩
        rw [← h2.1] at h4; rw [← h2.2] at h5
        have := sq_0 h4; have := sq_0 h5
        exact h3 ⟨by omega, by omega⟩
      · rw [if_neg h3]
        rw [gE_0, Classical.not_not] at h3
        rw [h3.1, h3.2]
        simp [h1]
  · rw [if_neg (fun h => h1 (hT.mp h))]; simp [h1]
theorem io_1 (a b p : Int32) : f_X6_isOn xs ys a b p = 0 ∨ f_X6_isOn xs ys a b p = 1 := by
  unfold f_X6_isOn; repeat' split
  all_goals simp
theorem on_eq (hx : gB xs) (hy : gB ys) (a b p : Int32) : f_X2_onSegment xs ys a b p = f_X6_isOn xs ys a b p := by
  have h1 := os_eq hx hy a b p; have h2 := io_eq hx hy a b p
  rcases os_1 hx hy a b p with h3 | h3 <;> rcases io_1 (xs := xs) (ys := ys) a b p with h4 | h4 <;> rw [h3, h4]
  · rw [h3] at h1; rw [h4] at h2
    exact absurd (h2.mpr (h1.mp rfl)) (by decide)
  · rw [h3] at h1; rw [h4] at h2
    exact absurd (h1.mpr (h2.mp rfl)) (by decide)
theorem sd_eq (a b p : Int32) : f_X2_sameDirection xs ys a b p = f_X6_isOneWay xs ys a b p := by
  unfold f_X2_sameDirection f_X6_isOneWay
  rw [ge_turn]
  show (if lg_cmp (f_X6_along xs ys a b p) 0 ≤ 0 then (0 : Int32) else if f_X6_turn xs ys a b p = 0 then 1 else 0) = _
  repeat' split
  all_goals first | rfl | contradiction
theorem ow_0 (hx : gB xs) (hy : gB ys) (a b p : Int32) : (f_X6_isOneWay xs ys a b p = 0) ↔ ¬ (gT xs ys a b p = 0 ∧ 0 < gA xs ys a b p) := by
  unfold f_X6_isOneWay
  have hT : (f_X6_turn xs ys a b p = 0) ↔ gT xs ys a b p = 0 := by rw [gT_eq hx hy, sg_0]
  have hA : (lg_cmp (f_X6_along xs ys a b p) 0 ≤ 0) ↔ gA xs ys a b p ≤ 0 := by
    rw [lg_cmp_le, Int64.le_iff_toInt_le, gA_eq hx hy]
    have h0 : (0 : Int64).toInt = 0 := rfl
    omega
  simp only [hT, hA]
  repeat' split
  all_goals (simp_all; try omega)
theorem ee_sym (a b : Int32) : f_X6_areEqual xs ys a b = f_X6_areEqual xs ys b a := by
  rw [gE_eq, gE_eq]; congr 1; simp only [eq_iff_iff]; omega
theorem f_between {P : Int32} (hx : gB xs) (hy : gB ys) (th a b c : Int32) : f_X5_between xs ys P a b c = (f_X6_between xs ys th P a b c).1 := by
  unfold f_X5_between f_X6_between f_X2_hasAll f_X0_betweenness
  simp only [ge_equal, on_eq hx hy]
  rw [ee_sym b a]
  show _ = _
  unfold f_X2_has f_X6_isPoint
  repeat' split
  all_goals first | rfl | simp_all | contradiction
end FW
