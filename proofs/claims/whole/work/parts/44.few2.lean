/-! inside, cross, separated -/
section FX
variable {xs ys : Nat → Int32}
/-- b, c, d as directions from a: c one way with b -/
theorem in_same {bx b2 cx c2 dx d2 : Int} (h0 : ¬ (bx = 0 ∧ b2 = 0)) (h1 : bx * c2 - b2 * cx = 0) (h2 : 0 < bx * cx + b2 * c2) : (0 < bx * d2 - b2 * dx → 0 < cx * d2 - c2 * dx) := by
  intro h
  have e := id_lag bx b2 cx c2 dx d2
  rw [h1, Int.zero_mul, Int.add_zero] at e
  have hb := nn_pos h0
  have := Int.mul_pos h h2
  rw [e, mu_gt] at this
  omega
theorem in_opp {bx b2 cx c2 dx d2 : Int} (h0 : ¬ (bx = 0 ∧ b2 = 0)) (hc : ¬ (cx = 0 ∧ c2 = 0)) (h1 : bx * c2 - b2 * cx = 0) (h2 : ¬ 0 < bx * cx + b2 * c2) : (0 < bx * d2 - b2 * dx → cx * d2 - c2 * dx < 0) := by
  intro h
  have e := id_lag bx b2 cx c2 dx d2
  rw [h1, Int.zero_mul, Int.add_zero] at e
  have hb := nn_pos h0
  have hcc := nn_pos hc
  have h3 : bx * cx + b2 * c2 < 0 := by
    have q := id_sq bx b2 cx c2
    rw [h1] at q
    have := Int.mul_pos hb hcc
    rcases Int.lt_or_le (bx * cx + b2 * c2) 0 with h9 | h9
    · exact h9
    · have h8 : bx * cx + b2 * c2 = 0 := by omega
      rw [h8] at q; omega
  have := Int.mul_neg_of_pos_of_neg h h3
  rw [e, mu_lt] at this
  omega
/-- d against b's way, c on the right of b -/
theorem in_back {bx b2 cx c2 dx d2 : Int} (h0 : ¬ (bx = 0 ∧ b2 = 0)) (hd : ¬ (dx = 0 ∧ d2 = 0)) (h1 : bx * d2 - b2 * dx = 0) (h2 : ¬ 0 < bx * dx + b2 * d2) (h3 : bx * c2 - b2 * cx < 0) : cx * d2 - c2 * dx < 0 := by
  have := in_opp (bx := bx) (b2 := b2) (cx := dx) (c2 := d2) (dx := -cx) (d2 := -c2) h0 hd h1 h2 (by simp only [Int.mul_neg]; omega)
  have e : dx * -c2 - d2 * -cx = cx * d2 - c2 * dx := by grind
  omega
theorem in_back2 {bx b2 cx c2 dx d2 : Int} (hc : ¬ (cx = 0 ∧ c2 = 0)) (hd : ¬ (dx = 0 ∧ d2 = 0)) (h1 : cx * d2 - c2 * dx = 0) (h2 : ¬ 0 < cx * dx + c2 * d2) (h3 : bx * c2 - b2 * cx < 0) : 0 < bx * d2 - b2 * dx := by
  have e0 : cx * b2 - c2 * bx = -(bx * c2 - b2 * cx) := by grind
  have := in_opp (bx := cx) (b2 := c2) (cx := dx) (c2 := d2) (dx := bx) (d2 := b2) hc hd h1 h2 (by omega)
  have e : dx * b2 - d2 * bx = -(bx * d2 - b2 * dx) := by grind
  omega
theorem gT_swap (a b c : Int32) : gT xs ys a c b = - gT xs ys a b c := by unfold gT; grind
theorem f_within (hx : gB xs) (hy : gB ys) (th P a b c d : Int32) (ha : ¬ f_X6_isPoint P a = 0) (hb : ¬ f_X6_isPoint P b = 0) (hc : ¬ f_X6_isPoint P c = 0) (hd : ¬ f_X6_isPoint P d = 0) (hab : f_X6_areEqual xs ys a b = 0) (hac : f_X6_areEqual xs ys a c = 0) : f_X0_withinAngle xs ys a b c d = (f_X6_inside xs ys th P a b c d).1 := by
  unfold f_X0_withinAngle f_X6_inside
  rw [if_neg ha, if_neg hb, if_neg hc, if_neg hd, if_pos hab, if_pos hac]
  simp only [ge_equal, sd_eq, ge_turn]
  by_cases h1 : f_X6_areEqual xs ys a d = 0
  case neg => rw [if_neg h1, if_neg h1]
  rw [if_pos h1, if_pos h1]
  by_cases h2 : f_X6_isOneWay xs ys a b d = 0
  case neg => rw [if_neg h2, if_neg h2]
  rw [if_pos h2, if_pos h2]
  by_cases h3 : f_X6_isOneWay xs ys a c d = 0
  case neg => rw [if_neg h3, if_neg h3]
  rw [if_pos h3, if_pos h3]
  simp only [gT_eq hx hy, sg_le, sg_ge, sg_0, gT_swap a b d, gT_swap a c d]
  have hTdc := gT_swap (xs := xs) (ys := ys) a c d
  have hTdb := gT_swap (xs := xs) (ys := ys) a b d
  rw [gE_0] at h1 hab hac
  rw [ow_0 hx hy] at h2 h3
  have h4 := ow_0 hx hy a b c
  have B0 : ¬ (gx xs b - gx xs a = 0 ∧ gx ys b - gx ys a = 0) := by omega
  have C0 : ¬ (gx xs c - gx xs a = 0 ∧ gx ys c - gx ys a = 0) := by omega
  have D0 : ¬ (gx xs d - gx xs a = 0 ∧ gx ys d - gx ys a = 0) := by omega
  have q1 := in_same (dx := gx xs d - gx xs a) (d2 := gx ys d - gx ys a) (cx := gx xs c - gx xs a) (c2 := gx ys c - gx ys a) B0
  have q2 := in_opp (dx := gx xs d - gx xs a) (d2 := gx ys d - gx ys a) B0 C0
  have q3 := in_back (cx := gx xs c - gx xs a) (c2 := gx ys c - gx ys a) B0 D0
  have q4 := in_back2 (bx := gx xs b - gx xs a) (b2 := gx ys b - gx ys a) C0 D0
  have eT1 : gT xs ys a b c = (gx xs b - gx xs a) * (gx ys c - gx ys a) - (gx ys b - gx ys a) * (gx xs c - gx xs a) := rfl
  have eT2 : gT xs ys a b d = (gx xs b - gx xs a) * (gx ys d - gx ys a) - (gx ys b - gx ys a) * (gx xs d - gx xs a) := rfl
  have eT3 : gT xs ys a c d = (gx xs c - gx xs a) * (gx ys d - gx ys a) - (gx ys c - gx ys a) * (gx xs d - gx xs a) := rfl
  have eA1 : gA xs ys a b c = (gx xs b - gx xs a) * (gx xs c - gx xs a) + (gx ys b - gx ys a) * (gx ys c - gx ys a) := rfl
  have eA2 : gA xs ys a b d = (gx xs b - gx xs a) * (gx xs d - gx xs a) + (gx ys b - gx ys a) * (gx ys d - gx ys a) := rfl
  have eA3 : gA xs ys a c d = (gx xs c - gx xs a) * (gx xs d - gx xs a) + (gx ys c - gx ys a) * (gx ys d - gx ys a) := rfl
  rw [← eT1, ← eA1, ← eT2, ← eT3] at q1 q2
  rw [← eT2, ← eA2, ← eT1, ← eT3] at q3
  rw [← eT3, ← eA3, ← eT1, ← eT2] at q4
  generalize gT xs ys a b c = t1 at *
  generalize gT xs ys a b d = t2 at *
  generalize gT xs ys a c d = t3 at *
  generalize gA xs ys a b c = a1 at *
  generalize gA xs ys a b d = a2 at *
  generalize gA xs ys a c d = a3 at *
  clear hx hy eT1 eT2 eT3 eA1 eA2 eA3 B0 C0 D0 hab hac h1 hTdc hTdb
  by_cases h5 : f_X6_isOneWay xs ys a b c = 0
  · rw [if_pos h5]
    have h6 := h4.mp h5
    repeat' split
    all_goals first | rfl | (exfalso; omega)
  · rw [if_neg h5]
    have h6 := (not_congr h4).mp h5
    rw [Classical.not_not] at h6
    repeat' split
    all_goals first | rfl | (exfalso; omega)
theorem f_inside {P : Int32} (hx : gB xs) (hy : gB ys) (th a b c d : Int32) : f_X5_inside xs ys P a b c d = (f_X6_inside xs ys th P a b c d).1 := by
  unfold f_X5_inside f_X2_hasAll
  have e : ∀ q, f_X2_has P q = f_X6_isPoint P q := fun _ => rfl
  simp only [ge_equal, e]
  by_cases ha : f_X6_isPoint P a = 0
  · unfold f_X6_inside; simp [ha]
  by_cases hb : f_X6_isPoint P b = 0
  · unfold f_X6_inside; simp [ha, hb]
  by_cases hc : f_X6_isPoint P c = 0
  · unfold f_X6_inside; simp [ha, hb, hc]
  by_cases hd : f_X6_isPoint P d = 0
  · unfold f_X6_inside; simp [ha, hb, hc, hd]
  by_cases hab : f_X6_areEqual xs ys a b = 0
  case neg => unfold f_X6_inside; simp [ha, hb, hc, hd, hab]
  by_cases hac : f_X6_areEqual xs ys a c = 0
  case neg => unfold f_X6_inside; simp [ha, hb, hc, hd, hab, hac]
  simp only [ha, hb, hc, hd, hab, hac, if_true, if_false]
  simpa using f_within hx hy th P a b c d ha hb hc hd hab hac
/-! cross -/
def gK (xs ys : Nat → Int32) (p : Int32) : Int := gx xs p * 100000 + gx ys p
theorem gK_lex {x y z w : Int} (h1 : -9600 ≤ y ∧ y ≤ 9600) (h2 : -9600 ≤ w ∧ w ≤ 9600) : (x * 100000 + y < z * 100000 + w ↔ x < z ∨ (x = z ∧ y < w)) ∧ (x * 100000 + y = z * 100000 + w ↔ x = z ∧ y = w) := by
  constructor <;> constructor <;> intro h <;> omega
theorem cp_key (hx : gB xs) (hy : gB ys) (a b : Int32) : f_X2_compare xs ys a b = sg (gK xs ys a - gK xs ys b) := by
  unfold f_X2_compare
  simp only [ge_cmp]
  have y1 := gx_b hy a; have y2 := gx_b hy b
  have k := gK_lex (x := gx xs a) (z := gx xs b) y1 y2
  show _ = sg ((gx xs a * 100000 + gx ys a) - (gx xs b * 100000 + gx ys b))
  unfold sg
  unfold gx at *
  repeat' split
  all_goals first | rfl | (exfalso; omega) | (exfalso; simp_all; done) | (simp_all; done)
theorem eq_key (hx : gB xs) (hy : gB ys) (a b : Int32) : (f_X6_areEqual xs ys a b = 0) ↔ ¬ gK xs ys a = gK xs ys b := by
  have y1 := gx_b hy a; have y2 := gx_b hy b
  have k := (gK_lex (x := gx xs a) (z := gx xs b) y1 y2).2
  rw [gE_0, ← k]; rfl
/-- on a line, from x: what lies among in x lies among in y -/
theorem am_lin {p q r s : Int} (h : p * s = q * r) (h1 : 0 ≤ r) (h2 : r ≤ p) (h3 : 0 < p) : (0 ≤ q → 0 ≤ s ∧ s ≤ q) ∧ (q ≤ 0 → q ≤ s ∧ s ≤ 0) := by
  constructor
  · intro hq
    have e1 : 0 ≤ p * s := by rw [h]; exact Int.mul_nonneg hq h1
    have e2 : p * s ≤ p * q := by rw [h, Int.mul_comm p q]; exact Int.mul_le_mul_of_nonneg_left h2 hq
    exact ⟨Int.nonneg_of_mul_nonneg_right (by rwa [Int.mul_comm] at e1 ⊢) h3, Int.le_of_mul_le_mul_left e2 h3⟩
  · intro hq
    have e1 : p * s ≤ p * 0 := by rw [h, Int.mul_zero]; exact Int.mul_nonpos_of_nonpos_of_nonneg hq h1
    have e2 : p * q ≤ p * s := by rw [h, Int.mul_comm p q]; exact Int.mul_le_mul_of_nonpos_left hq h2
    exact ⟨Int.le_of_mul_le_mul_left e2 h3, Int.le_of_mul_le_mul_left e1 h3⟩
theorem on_key (hx : gB xs) (hy : gB ys) (a b c : Int32) (hT : gT xs ys a b c = 0) : (f_X6_isOn xs ys a b c = 0) ↔ ¬ (min (gK xs ys a) (gK xs ys b) ≤ gK xs ys c ∧ gK xs ys c ≤ max (gK xs ys a) (gK xs ys b)) := by
  rw [io_eq hx hy]
  unfold gO
  simp only [hT, true_and, mu_le]
  have y1 := gx_b hy a; have y2 := gx_b hy b; have y3 := gx_b hy c
  unfold gT at hT
  unfold gK
  generalize gx xs a = x1 at *
  generalize gx xs b = x2 at *
  generalize gx xs c = x3 at *
  generalize gx ys a = w1 at *
  generalize gx ys b = w2 at *
  generalize gx ys c = w3 at *
  have h : (x2 - x1) * (w3 - w1) = (w2 - w1) * (x3 - x1) := by omega
  have h' : (x1 - x2) * (w3 - w2) = (w1 - w2) * (x3 - x2) := by grind
  rcases Int.lt_trichotomy x1 x2 with h1 | h1 | h1
  · have k := fun u v => @am_lin (x2 - x1) (w2 - w1) (x3 - x1) (w3 - w1) h u v (by omega)
    by_cases u : 0 ≤ x3 - x1 <;> by_cases v : x3 - x1 ≤ x2 - x1
    · have := k u v
      by_cases e : x3 = x1
      · subst e
        rw [Int.sub_self, Int.mul_zero] at h
        rcases Int.mul_eq_zero.mp h with h5 | h5 <;> omega
      · by_cases e2 : x3 = x2
        · subst e2
          rw [Int.sub_self, Int.mul_zero] at h'
          rcases Int.mul_eq_zero.mp h' with h5 | h5 <;> omega
        · omega
    · omega
    · omega
    · omega
  · subst h1
    rw [Int.sub_self, Int.zero_mul] at h
    rcases Int.mul_eq_zero.mp h.symm with h5 | h5 <;> omega
  · have k := fun u v => @am_lin (x1 - x2) (w1 - w2) (x3 - x2) (w3 - w2) h' u v (by omega)
    by_cases u : 0 ≤ x3 - x2 <;> by_cases v : x3 - x2 ≤ x1 - x2
    · have := k u v
      by_cases e : x3 = x1
      · subst e
        rw [Int.sub_self, Int.mul_zero] at h
        rcases Int.mul_eq_zero.mp h with h5 | h5 <;> omega
      · by_cases e2 : x3 = x2
        · subst e2
          rw [Int.sub_self, Int.mul_zero] at h'
          rcases Int.mul_eq_zero.mp h' with h5 | h5 <;> omega
        · omega
    · omega
    · omega
    · omega
end FX
