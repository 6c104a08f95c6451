/-! cross, separated -/
section FY
variable {xs ys : Nat → Int32}
theorem ea_key (hx : gB xs) (hy : gB ys) (a b : Int32) : gK xs ys (f_X0_earlier xs ys a b) = min (gK xs ys a) (gK xs ys b) := by
  unfold f_X0_earlier
  have h : (0 < f_X2_compare xs ys a b) ↔ gK xs ys b < gK xs ys a := by
    rw [cp_key hx hy, ← Int32.not_le, sg_le]; omega
  simp only [h]
  split <;> omega
theorem lt_key (hx : gB xs) (hy : gB ys) (a b : Int32) : gK xs ys (f_X0_later xs ys a b) = max (gK xs ys a) (gK xs ys b) := by
  unfold f_X0_later
  have h : (0 < f_X2_compare xs ys a b) ↔ gK xs ys b < gK xs ys a := by
    rw [cp_key hx hy, ← Int32.not_le, sg_le]; omega
  simp only [h]
  split <;> omega
theorem ov_key (hx : gB xs) (hy : gB ys) (a b c d : Int32) : f_X0_overlap xs ys a b c d = if max (min (gK xs ys a) (gK xs ys b)) (min (gK xs ys c) (gK xs ys d)) = min (max (gK xs ys a) (gK xs ys b)) (max (gK xs ys c) (gK xs ys d)) then 2 else if max (min (gK xs ys a) (gK xs ys b)) (min (gK xs ys c) (gK xs ys d)) < min (max (gK xs ys a) (gK xs ys b)) (max (gK xs ys c) (gK xs ys d)) then 3 else 0 := by
  unfold f_X0_overlap
  simp only [cp_key hx hy, sg_0, sg_ge, ea_key hx hy, lt_key hx hy]
  repeat' split
  all_goals first | rfl | (exfalso; omega)
def trI (k : Nat) : Int32 := if k ≤ 1 then nI k else 2
theorem tr_2 (k : Nat) : (trI k = 2) ↔ 2 ≤ k := by
  unfold trI; split
  · rename_i h
    have : k = 0 ∨ k = 1 := by omega
    rcases this with rfl | rfl <;> decide
  · simp; omega
theorem tr_1 (k : Nat) : (trI k = 1) ↔ k = 1 := by
  unfold trI; split
  · rename_i h
    have : k = 0 ∨ k = 1 := by omega
    rcases this with rfl | rfl <;> decide
  · constructor
    · intro h; exact absurd h (by decide)
    · intro h; omega
theorem cm_116 (a b c d y4 : Int32) {k : Nat} (hk : k ≤ 3) : f_X6_common_J116 xs ys a b c d y4 (nI k) = trI (k + if y4 = 0 ∨ ¬ f_X6_areEqual xs ys b c = 0 ∨ ¬ f_X6_areEqual xs ys b d = 0 ∨ ¬ f_X6_areEqual xs ys a b = 0 then 0 else 1) := by
  have : k = 0 ∨ k = 1 ∨ k = 2 ∨ k = 3 := by omega
  unfold f_X6_common_J116
  by_cases h1 : y4 = 0 <;> by_cases h2 : f_X6_areEqual xs ys b c = 0 <;> by_cases h3 : f_X6_areEqual xs ys b d = 0 <;> by_cases h4 : f_X6_areEqual xs ys a b = 0 <;> simp only [h1, h2, h3, h4, not_true, not_false_iff, or_true, true_or, or_false, or_self, if_true, if_false] <;> rcases this with rfl | rfl | rfl | rfl <;> decide
theorem cm_82 (a b c d y3 y4 : Int32) {k : Nat} (hk : k ≤ 2) : f_X6_common_J82 xs ys a b c d y3 y4 (nI k) = trI ((k + if y3 = 0 ∨ ¬ f_X6_areEqual xs ys a c = 0 ∨ ¬ f_X6_areEqual xs ys a d = 0 then 0 else 1) + if y4 = 0 ∨ ¬ f_X6_areEqual xs ys b c = 0 ∨ ¬ f_X6_areEqual xs ys b d = 0 ∨ ¬ f_X6_areEqual xs ys a b = 0 then 0 else 1) := by
  have e0 : nI k + 0 = nI (k + 0) := by have : k = 0 ∨ k = 1 ∨ k = 2 := by omega
                                        rcases this with rfl | rfl | rfl <;> decide
  have e1 : nI k + 1 = nI (k + 1) := by have : k = 0 ∨ k = 1 ∨ k = 2 := by omega
                                        rcases this with rfl | rfl | rfl <;> decide
  unfold f_X6_common_J82
  rw [e0, e1, cm_116 a b c d y4 (k := k + 0) (by omega), cm_116 a b c d y4 (k := k + 1) (by omega)]
  by_cases h1 : y3 = 0 <;> by_cases h2 : f_X6_areEqual xs ys a c = 0 <;> by_cases h3 : f_X6_areEqual xs ys a d = 0 <;> simp only [h1, h2, h3, not_true, not_false_iff, or_true, true_or, or_false, or_self, if_true, if_false]
theorem cm_57 (a b c d y2 y3 y4 : Int32) {k : Nat} (hk : k ≤ 1) : f_X6_common_J57 xs ys a b c d y2 y3 y4 (nI k) = trI (((k + if y2 = 0 ∨ ¬ f_X6_areEqual xs ys c d = 0 then 0 else 1) + if y3 = 0 ∨ ¬ f_X6_areEqual xs ys a c = 0 ∨ ¬ f_X6_areEqual xs ys a d = 0 then 0 else 1) + if y4 = 0 ∨ ¬ f_X6_areEqual xs ys b c = 0 ∨ ¬ f_X6_areEqual xs ys b d = 0 ∨ ¬ f_X6_areEqual xs ys a b = 0 then 0 else 1) := by
  have e0 : nI k + 0 = nI (k + 0) := by have : k = 0 ∨ k = 1 := by omega
                                        rcases this with rfl | rfl <;> decide
  have e1 : nI k + 1 = nI (k + 1) := by have : k = 0 ∨ k = 1 := by omega
                                        rcases this with rfl | rfl <;> decide
  unfold f_X6_common_J57
  rw [e0, e1, cm_82 a b c d y3 y4 (k := k + 0) (by omega), cm_82 a b c d y3 y4 (k := k + 1) (by omega)]
  by_cases h1 : y2 = 0 <;> by_cases h2 : f_X6_areEqual xs ys c d = 0 <;> simp only [h1, h2, not_true, not_false_iff, or_true, true_or, or_false, or_self, if_true, if_false]
theorem cm_all (a b c d : Int32) : f_X6_common xs ys a b c d = trI (((((if f_X6_isOn xs ys a b c = 0 then 0 else 1) + if f_X6_isOn xs ys a b d = 0 ∨ ¬ f_X6_areEqual xs ys c d = 0 then 0 else 1) + if f_X6_isOn xs ys c d a = 0 ∨ ¬ f_X6_areEqual xs ys a c = 0 ∨ ¬ f_X6_areEqual xs ys a d = 0 then 0 else 1)) + if f_X6_isOn xs ys c d b = 0 ∨ ¬ f_X6_areEqual xs ys b c = 0 ∨ ¬ f_X6_areEqual xs ys b d = 0 ∨ ¬ f_X6_areEqual xs ys a b = 0 then 0 else 1) := by
  unfold f_X6_common
  have e0 : (0 : Int32) + 0 = nI 0 := rfl
  have e1 : (0 : Int32) + 1 = nI 1 := rfl
  rw [e0, e1, cm_57 a b c d _ _ _ (k := 0) (by omega), cm_57 a b c d _ _ _ (k := 1) (by omega)]
  by_cases h1 : f_X6_isOn xs ys a b c = 0 <;> simp only [h1, if_true, if_false]
theorem ite_01 (q : Prop) [Decidable q] : (q ∧ (if q then 0 else 1 : Nat) = 0) ∨ (¬ q ∧ (if q then 0 else 1 : Nat) = 1) := by
  by_cases h : q
  · left; exact ⟨h, if_pos h⟩
  · right; exact ⟨h, if_neg h⟩
theorem co_int2 (a b c d : Int) (n1 n2 n3 n4 : Nat) (h1 : a ≤ b) (h2 : c ≤ d) {u v : Int} (hu : u = max a c) (hv : v = min b d)
    (k1 : (¬ (a ≤ c ∧ c ≤ b) ∧ n1 = 0) ∨ ((a ≤ c ∧ c ≤ b) ∧ n1 = 1)) (k2 : ((¬ (a ≤ d ∧ d ≤ b) ∨ c = d) ∧ n2 = 0) ∨ (¬ (¬ (a ≤ d ∧ d ≤ b) ∨ c = d) ∧ n2 = 1))
    (k3 : ((¬ (c ≤ a ∧ a ≤ d) ∨ a = c ∨ a = d) ∧ n3 = 0) ∨ (¬ (¬ (c ≤ a ∧ a ≤ d) ∨ a = c ∨ a = d) ∧ n3 = 1)) (k4 : ((¬ (c ≤ b ∧ b ≤ d) ∨ b = c ∨ b = d ∨ a = b) ∧ n4 = 0) ∨ (¬ (¬ (c ≤ b ∧ b ≤ d) ∨ b = c ∨ b = d ∨ a = b) ∧ n4 = 1)) :
    (u = v ↔ n1 + n2 + n3 + n4 = 1) ∧ (u < v ↔ 2 ≤ n1 + n2 + n3 + n4) := by
  rcases Int.le_total a c with h3 | h3 <;> rcases Int.le_total b d with h4 | h4
  · rw [Int.max_eq_right h3] at hu; rw [Int.min_eq_left h4] at hv; subst hu hv
    rcases k1 with ⟨k1, rfl⟩ | ⟨k1, rfl⟩ <;> rcases k2 with ⟨k2, rfl⟩ | ⟨k2, rfl⟩ <;> rcases k3 with ⟨k3, rfl⟩ | ⟨k3, rfl⟩ <;> rcases k4 with ⟨k4, rfl⟩ | ⟨k4, rfl⟩ <;> omega
  · rw [Int.max_eq_right h3] at hu; rw [Int.min_eq_right h4] at hv; subst hu hv
    rcases k1 with ⟨k1, rfl⟩ | ⟨k1, rfl⟩ <;> rcases k2 with ⟨k2, rfl⟩ | ⟨k2, rfl⟩ <;> rcases k3 with ⟨k3, rfl⟩ | ⟨k3, rfl⟩ <;> rcases k4 with ⟨k4, rfl⟩ | ⟨k4, rfl⟩ <;> omega
  · rw [Int.max_eq_left h3] at hu; rw [Int.min_eq_left h4] at hv; subst hu hv
    rcases k1 with ⟨k1, rfl⟩ | ⟨k1, rfl⟩ <;> rcases k2 with ⟨k2, rfl⟩ | ⟨k2, rfl⟩ <;> rcases k3 with ⟨k3, rfl⟩ | ⟨k3, rfl⟩ <;> rcases k4 with ⟨k4, rfl⟩ | ⟨k4, rfl⟩ <;> omega
  · rw [Int.max_eq_left h3] at hu; rw [Int.min_eq_right h4] at hv; subst hu hv
    rcases k1 with ⟨k1, rfl⟩ | ⟨k1, rfl⟩ <;> rcases k2 with ⟨k2, rfl⟩ | ⟨k2, rfl⟩ <;> rcases k3 with ⟨k3, rfl⟩ | ⟨k3, rfl⟩ <;> rcases k4 with ⟨k4, rfl⟩ | ⟨k4, rfl⟩ <;> omega
theorem co_int (ka kb kc kd : Int) (n1 n2 n3 n4 : Nat)
    (k1 : (¬ (min ka kb ≤ kc ∧ kc ≤ max ka kb) ∧ n1 = 0) ∨ (¬ ¬ (min ka kb ≤ kc ∧ kc ≤ max ka kb) ∧ n1 = 1)) (k2 : ((¬ (min ka kb ≤ kd ∧ kd ≤ max ka kb) ∨ kc = kd) ∧ n2 = 0) ∨ (¬ (¬ (min ka kb ≤ kd ∧ kd ≤ max ka kb) ∨ kc = kd) ∧ n2 = 1))
    (k3 : ((¬ (min kc kd ≤ ka ∧ ka ≤ max kc kd) ∨ ka = kc ∨ ka = kd) ∧ n3 = 0) ∨ (¬ (¬ (min kc kd ≤ ka ∧ ka ≤ max kc kd) ∨ ka = kc ∨ ka = kd) ∧ n3 = 1)) (k4 : ((¬ (min kc kd ≤ kb ∧ kb ≤ max kc kd) ∨ kb = kc ∨ kb = kd ∨ ka = kb) ∧ n4 = 0) ∨ (¬ (¬ (min kc kd ≤ kb ∧ kb ≤ max kc kd) ∨ kb = kc ∨ kb = kd ∨ ka = kb) ∧ n4 = 1)) :
    (max (min ka kb) (min kc kd) = min (max ka kb) (max kc kd) ↔ n1 + n2 + n3 + n4 = 1) ∧ (max (min ka kb) (min kc kd) < min (max ka kb) (max kc kd) ↔ 2 ≤ n1 + n2 + n3 + n4) := by
  rw [Classical.not_not] at k1
  rcases Int.le_total ka kb with h1 | h1 <;> rcases Int.le_total kc kd with h2 | h2
  · rw [Int.min_eq_left h1, Int.max_eq_right h1] at *; rw [Int.min_eq_left h2, Int.max_eq_right h2] at *
    exact co_int2 ka kb kc kd n1 n2 n3 n4 h1 h2 rfl rfl k1 k2 k3 k4
  · rw [Int.min_eq_left h1, Int.max_eq_right h1] at *; rw [Int.min_eq_right h2, Int.max_eq_left h2] at *
    have := co_int2 ka kb kd kc (if (ka ≤ kd ∧ kd ≤ kb) then 1 else 0) (if (ka ≤ kc ∧ kc ≤ kb) ∧ ¬ kc = kd then 1 else 0) n3 n4 h1 h2 rfl rfl (by split <;> omega) (by split <;> omega) (by omega) (by omega)
    have e : (if (ka ≤ kd ∧ kd ≤ kb) then 1 else 0) + (if (ka ≤ kc ∧ kc ≤ kb) ∧ ¬ kc = kd then 1 else 0) + n3 + n4 = n1 + n2 + n3 + n4 := by
      split <;> split <;> omega
    rw [e] at this; exact this
  · rw [Int.min_eq_right h1, Int.max_eq_left h1] at *; rw [Int.min_eq_left h2, Int.max_eq_right h2] at *
    have := co_int2 kb ka kc kd n1 n2 (if (kc ≤ kb ∧ kb ≤ kd) ∧ ¬ (kb = kc ∨ kb = kd) then 1 else 0) (if (kc ≤ ka ∧ ka ≤ kd) ∧ ¬ (ka = kc ∨ ka = kd ∨ ka = kb) then 1 else 0) h1 h2 rfl rfl k1 k2 (by split <;> omega) (by split <;> omega)
    have e : n1 + n2 + (if (kc ≤ kb ∧ kb ≤ kd) ∧ ¬ (kb = kc ∨ kb = kd) then 1 else 0) + (if (kc ≤ ka ∧ ka ≤ kd) ∧ ¬ (ka = kc ∨ ka = kd ∨ ka = kb) then 1 else 0) = n1 + n2 + n3 + n4 := by
      split <;> split <;> omega
    rw [e] at this; exact this
  · rw [Int.min_eq_right h1, Int.max_eq_left h1] at *; rw [Int.min_eq_right h2, Int.max_eq_left h2] at *
    have := co_int2 kb ka kd kc (if (kb ≤ kd ∧ kd ≤ ka) then 1 else 0) (if (kb ≤ kc ∧ kc ≤ ka) ∧ ¬ kc = kd then 1 else 0) (if (kd ≤ kb ∧ kb ≤ kc) ∧ ¬ (kb = kc ∨ kb = kd) then 1 else 0) (if (kd ≤ ka ∧ ka ≤ kc) ∧ ¬ (ka = kc ∨ ka = kd ∨ ka = kb) then 1 else 0) h1 h2 rfl rfl (by split <;> omega) (by split <;> omega) (by split <;> omega) (by split <;> omega)
    have e : (if (kb ≤ kd ∧ kd ≤ ka) then 1 else 0) + (if (kb ≤ kc ∧ kc ≤ ka) ∧ ¬ kc = kd then 1 else 0) + (if (kd ≤ kb ∧ kb ≤ kc) ∧ ¬ (kb = kc ∨ kb = kd) then 1 else 0) + (if (kd ≤ ka ∧ ka ≤ kc) ∧ ¬ (ka = kc ∨ ka = kd ∨ ka = kb) then 1 else 0) = n1 + n2 + n3 + n4 := by
      split <;> split <;> split <;> split <;> omega
    rw [e] at this; exact this
theorem co_key (hx : gB xs) (hy : gB ys) (a b c d : Int32) (h1 : gT xs ys a b c = 0) (h2 : gT xs ys a b d = 0) (h3 : gT xs ys c d a = 0) (h4 : gT xs ys c d b = 0) : f_X0_overlap xs ys a b c d = if f_X6_common xs ys a b c d = 2 then 3 else if f_X6_common xs ys a b c d = 1 then 2 else 0 := by
  rw [ov_key hx hy, cm_all]
  simp only [tr_2, tr_1]
  simp only [on_key hx hy a b c h1, on_key hx hy a b d h2, on_key hx hy c d a h3, on_key hx hy c d b h4, eq_key hx hy, Classical.not_not]
  have k := co_int (gK xs ys a) (gK xs ys b) (gK xs ys c) (gK xs ys d) _ _ _ _ (ite_01 _) (ite_01 _) (ite_01 _) (ite_01 _)
  simp only [k.1, k.2]
  repeat' split
  all_goals first | rfl | (exfalso; omega)
theorem mz_1 {x y : Int32} (h : ¬ 0 ≤ x * y) : ¬ x = 0 ∧ ¬ y = 0 := by
  constructor
  · intro e; subst e; simp at h
  · intro e; subst e; simp at h
theorem cr_tail (y5 y6 y7 y8 o1 o2 o3 o4 : Int32) (h1 : ¬ y5 = 0 → o1 = 0) (h2 : ¬ y6 = 0 → o2 = 0) (h3 : ¬ y7 = 0 → o3 = 0) (h4 : ¬ y8 = 0 → o4 = 0) :
    (if o1 = 0 then (if o2 = 0 then (if o3 = 0 then (if o4 = 0 then (if 0 ≤ (y5 * y6) then (0 : Int32) else (if 0 ≤ (y7 * y8) then (0 : Int32) else (1 : Int32))) else (2 : Int32)) else (2 : Int32)) else (2 : Int32)) else (2 : Int32)) =
    (if 0 ≤ (y5 * y6) then (if o1 = 0 then (if o2 = 0 then (if o3 = 0 then (if o4 = 0 then ((0 : Int32), (0 : Int32)) else ((2 : Int32), (0 : Int32))) else ((2 : Int32), (0 : Int32))) else ((2 : Int32), (0 : Int32))) else ((2 : Int32), (0 : Int32))) else (if 0 ≤ (y7 * y8) then (if o1 = 0 then (if o2 = 0 then (if o3 = 0 then (if o4 = 0 then ((0 : Int32), (0 : Int32)) else ((2 : Int32), (0 : Int32))) else ((2 : Int32), (0 : Int32))) else ((2 : Int32), (0 : Int32))) else ((2 : Int32), (0 : Int32))) else ((1 : Int32), (0 : Int32)))).1 := by
  by_cases p : 0 ≤ y5 * y6
  · simp only [p, if_true]
    repeat' split
    all_goals rfl
  · have e1 := h1 (mz_1 p).1; have e2 := h2 (mz_1 p).2
    simp only [p, e1, e2, if_true, if_false]
    by_cases q : 0 ≤ y7 * y8
    · simp only [q, if_true]
      repeat' split
      all_goals rfl
    · have e3 := h3 (mz_1 q).1; have e4 := h4 (mz_1 q).2
      simp only [q, e3, e4, if_true, if_false]
theorem f_cross {P : Int32} (hx : gB xs) (hy : gB ys) (th a b c d : Int32) : f_X5_cross xs ys P a b c d = (f_X6_cross xs ys th P a b c d).1 := by
  unfold f_X5_cross f_X6_cross f_X2_hasAll f_X0_crossing f_X6_cross_J145
  have e : ∀ q, f_X2_has P q = f_X6_isPoint P q := fun _ => rfl
  simp only [e, ge_turn, on_eq hx hy]
  by_cases ha : f_X6_isPoint P a = 0
  · simp [ha]
  by_cases hb : f_X6_isPoint P b = 0
  · simp [ha, hb]
  by_cases hc : f_X6_isPoint P c = 0
  · simp [ha, hb, hc]
  by_cases hd : f_X6_isPoint P d = 0
  · simp [ha, hb, hc, hd]
  simp only [ha, hb, hc, hd, if_false]
  rw [if_neg (by decide)]
  have z1 : ∀ {u v w : Int32}, ¬ f_X6_turn xs ys u v w = 0 → f_X6_isOn xs ys u v w = 0 := fun h => by unfold f_X6_isOn; rw [if_neg h]
  have k := co_key hx hy a b c d
  simp only [← sg_0, ← gT_eq hx hy] at k
  have w := cr_tail (f_X6_turn xs ys a b c) (f_X6_turn xs ys a b d) (f_X6_turn xs ys c d a) (f_X6_turn xs ys c d b) _ _ _ _ z1 z1 z1 z1
  by_cases t1 : f_X6_turn xs ys a b c = 0
  · rw [if_pos t1, if_pos t1]
    by_cases t2 : f_X6_turn xs ys a b d = 0
    · rw [if_pos t2, if_pos t2]
      by_cases t3 : f_X6_turn xs ys c d a = 0
      · rw [if_pos t3, if_pos t3]
        by_cases t4 : f_X6_turn xs ys c d b = 0
        · rw [if_pos t4, if_pos t4, k t1 t2 t3 t4]
          repeat' split
          all_goals first | rfl | contradiction
        · rw [if_neg t4, if_neg t4]; exact w
      · rw [if_neg t3, if_neg t3]; exact w
    · rw [if_neg t2, if_neg t2]; exact w
  · rw [if_neg t1, if_neg t1]; exact w
/-! separated -/
def gR (xs ys : Nat → Int32) (a b c d : Int32) : Int := ((gx xs a - gx xs d) * (gx xs a - gx xs d) + (gx ys a - gx ys d) * (gx ys a - gx ys d)) * ((gx xs b - gx xs d) * (gx ys c - gx ys d) - (gx ys b - gx ys d) * (gx xs c - gx xs d)) + ((gx xs b - gx xs d) * (gx xs b - gx xs d) + (gx ys b - gx ys d) * (gx ys b - gx ys d)) * ((gx xs c - gx xs d) * (gx ys a - gx ys d) - (gx ys c - gx ys d) * (gx xs a - gx xs d)) + ((gx xs c - gx xs d) * (gx xs c - gx xs d) + (gx ys c - gx ys d) * (gx ys c - gx ys d)) * ((gx xs a - gx xs d) * (gx ys b - gx ys d) - (gx ys a - gx ys d) * (gx xs b - gx xs d))
theorem rg_part {x1 x2 x3 x4 x5 x6 x7 x8 : Int64} {i1 i2 i3 i4 i5 i6 i7 i8 : Int} (h1 : x1.toInt = i1) (h2 : x2.toInt = i2) (h3 : x3.toInt = i3) (h4 : x4.toInt = i4) (h5 : x5.toInt = i5) (h6 : x6.toInt = i6) (h7 : x7.toInt = i7) (h8 : x8.toInt = i8)
    (b1 : -19200 ≤ i1 ∧ i1 ≤ 19200) (b2 : -19200 ≤ i2 ∧ i2 ≤ 19200) (b3 : -19200 ≤ i3 ∧ i3 ≤ 19200) (b4 : -19200 ≤ i4 ∧ i4 ≤ 19200) (b5 : -19200 ≤ i5 ∧ i5 ≤ 19200) (b6 : -19200 ≤ i6 ∧ i6 ≤ 19200) (b7 : -19200 ≤ i7 ∧ i7 ≤ 19200) (b8 : -19200 ≤ i8 ∧ i8 ≤ 19200) :
    ((x1 * x2 + x3 * x4) * (x5 * x6 - x7 * x8)).toInt = (i1 * i2 + i3 * i4) * (i5 * i6 - i7 * i8) ∧ -543581798400000000 ≤ (i1 * i2 + i3 * i4) * (i5 * i6 - i7 * i8) ∧ (i1 * i2 + i3 * i4) * (i5 * i6 - i7 * i8) ≤ 543581798400000000 := by
  have m1 := ab_mul b1 b2; have m2 := ab_mul b3 b4; have m3 := ab_mul b5 b6; have m4 := ab_mul b7 b8
  have e1 : (x1 * x2).toInt = i1 * i2 := by rw [fb_mulL (by rw [h1, h2]; omega) (by rw [h1, h2]; omega), h1, h2]
  have e2 : (x3 * x4).toInt = i3 * i4 := by rw [fb_mulL (by rw [h3, h4]; omega) (by rw [h3, h4]; omega), h3, h4]
  have e3 : (x5 * x6).toInt = i5 * i6 := by rw [fb_mulL (by rw [h5, h6]; omega) (by rw [h5, h6]; omega), h5, h6]
  have e4 : (x7 * x8).toInt = i7 * i8 := by rw [fb_mulL (by rw [h7, h8]; omega) (by rw [h7, h8]; omega), h7, h8]
  have s1 : (x1 * x2 + x3 * x4).toInt = i1 * i2 + i3 * i4 := by rw [fb_addL (by rw [e1, e2]; omega) (by rw [e1, e2]; omega), e1, e2]
  have s2 : (x5 * x6 - x7 * x8).toInt = i5 * i6 - i7 * i8 := by rw [fb_subL (by rw [e3, e4]; omega) (by rw [e3, e4]; omega), e3, e4]
  have mm := ab_mul (x := i1 * i2 + i3 * i4) (y := i5 * i6 - i7 * i8) (a := 737280000) (b := 737280000) (by omega) (by omega)
  refine ⟨?_, by omega, by omega⟩
  rw [fb_mulL (by rw [s1, s2]; omega) (by rw [s1, s2]; omega), s1, s2]
theorem rg_sum {x y z : Int64} {i j k : Int} (h1 : x.toInt = i ∧ -543581798400000000 ≤ i ∧ i ≤ 543581798400000000) (h2 : y.toInt = j ∧ -543581798400000000 ≤ j ∧ j ≤ 543581798400000000) (h3 : z.toInt = k ∧ -543581798400000000 ≤ k ∧ k ≤ 543581798400000000) : (x + y + z).toInt = i + j + k := by
  have q : (x + y).toInt = i + j := by rw [fb_addL (by omega) (by omega), h1.1, h2.1]
  rw [fb_addL (by omega) (by omega), q, h3.1]
theorem gR_eq (hx : gB xs) (hy : gB ys) (a b c d : Int32) : f_X6_ring xs ys a b c d = f_X6_turn xs ys a b c * sg (gR xs ys a b c d) := by
  have xa := gx_b hx a; have xb := gx_b hx b; have xc := gx_b hx c; have xd := gx_b hx d
  have ya := gx_b hy a; have yb := gx_b hy b; have yc := gx_b hy c; have yd := gx_b hy d
  unfold f_X6_ring
  rw [sg_of]
  have d1 := tI_sub (x := xs (Int32.toNatClampNeg a)) (y := xs (Int32.toNatClampNeg d)) xa xd
  have d2 := tI_sub (x := ys (Int32.toNatClampNeg a)) (y := ys (Int32.toNatClampNeg d)) ya yd
  have d3 := tI_sub (x := xs (Int32.toNatClampNeg b)) (y := xs (Int32.toNatClampNeg d)) xb xd
  have d4 := tI_sub (x := ys (Int32.toNatClampNeg b)) (y := ys (Int32.toNatClampNeg d)) yb yd
  have d5 := tI_sub (x := xs (Int32.toNatClampNeg c)) (y := xs (Int32.toNatClampNeg d)) xc xd
  have d6 := tI_sub (x := ys (Int32.toNatClampNeg c)) (y := ys (Int32.toNatClampNeg d)) yc yd
  unfold gx at *
  have p1 := rg_part d1 d1 d2 d2 d3 d6 d4 d5 (by omega) (by omega) (by omega) (by omega) (by omega) (by omega) (by omega) (by omega)
  have p2 := rg_part d3 d3 d4 d4 d5 d2 d6 d1 (by omega) (by omega) (by omega) (by omega) (by omega) (by omega) (by omega) (by omega)
  have p3 := rg_part d5 d5 d6 d6 d1 d4 d2 d3 (by omega) (by omega) (by omega) (by omega) (by omega) (by omega) (by omega) (by omega)
  rw [rg_sum p1 p2 p3]
  rfl
theorem sg_mul0 (u v : Int) : (sg u * sg v = 0) ↔ u = 0 ∨ v = 0 := by
  rcases sg_cases u with ⟨h1, e1⟩ | ⟨h1, e1⟩ | ⟨h1, e1⟩ <;> rcases sg_cases v with ⟨h2, e2⟩ | ⟨h2, e2⟩ | ⟨h2, e2⟩ <;> rw [e1, e2] <;> (constructor <;> intro h <;> first | omega | rfl | exact absurd h (by decide))
theorem sg_muln (u v : Int) (hu : ¬ u = 0) (hv : ¬ v = 0) : (0 ≤ sg u * sg v) ↔ sg u = sg v := by
  rcases sg_cases u with ⟨h1, e1⟩ | ⟨h1, e1⟩ | ⟨h1, e1⟩ <;> rcases sg_cases v with ⟨h2, e2⟩ | ⟨h2, e2⟩ | ⟨h2, e2⟩ <;> rw [e1, e2] <;> first | omega | decide
/-- d in line with a and b, all different, c off the line: on no circle -/
theorem rg_line {ax a2 bx b2 cx c2 : Int} (hA : ¬ (ax = 0 ∧ a2 = 0)) (hB : ¬ (bx = 0 ∧ b2 = 0)) (hAB : ¬ (ax - bx = 0 ∧ a2 - b2 = 0)) (h1 : ax * b2 - a2 * bx = 0) (h2 : ¬ (bx * c2 - b2 * cx) - (ax * c2 - a2 * cx) = 0) : ¬ ((ax * ax + a2 * a2) * (bx * c2 - b2 * cx) + (bx * bx + b2 * b2) * (cx * a2 - c2 * ax) + (cx * cx + c2 * c2) * (ax * b2 - a2 * bx)) = 0 := by
  intro h
  have pa := nn_pos hA; have pb := nn_pos hB; have pab := nn_pos hAB
  have e := id_lag ax a2 bx b2 cx c2
  rw [h1, Int.zero_mul, Int.add_zero] at e
  have hk : (ax * c2 - a2 * cx) * ((ax - bx) * bx + (a2 - b2) * b2) = 0 := by grind
  have hac : ¬ ax * c2 - a2 * cx = 0 := by
    intro h9
    rw [h9, Int.zero_mul] at e
    rcases Int.mul_eq_zero.mp e.symm with h8 | h8
    · rw [h8, h9] at h2; exact h2 rfl
    · omega
  have q := id_sq (ax - bx) (a2 - b2) bx b2
  have hz : (ax - bx) * b2 - (a2 - b2) * bx = 0 := by grind
  rcases Int.mul_eq_zero.mp hk with h8 | h8
  · exact hac h8
  · rw [h8, hz] at q
    have := Int.mul_pos pab pb
    omega
theorem f_sepa {P : Int32} (hx : gB xs) (hy : gB ys) (th a b c d : Int32) : f_X5_separated xs ys P a b c d = (f_X6_separated xs ys th P a b c d).1 := by
  unfold f_X5_separated f_X6_separated f_X2_hasAll f_X0_separation f_X0_anyEqual
  have e : ∀ q, f_X2_has P q = f_X6_isPoint P q := fun _ => rfl
  simp only [e, ge_turn, on_eq hx hy, ge_equal, ge_ring]
  by_cases ha : f_X6_isPoint P a = 0
  · simp [ha]
  by_cases hb : f_X6_isPoint P b = 0
  · simp [ha, hb]
  by_cases hc : f_X6_isPoint P c = 0
  · simp [ha, hb, hc]
  by_cases hd : f_X6_isPoint P d = 0
  · simp [ha, hb, hc, hd]
  by_cases q1 : f_X6_areEqual xs ys a b = 0
  case neg => simp [ha, hb, hc, hd, q1]
  by_cases q2 : f_X6_areEqual xs ys a c = 0
  case neg => simp [ha, hb, hc, hd, q1, q2]
  by_cases q3 : f_X6_areEqual xs ys a d = 0
  case neg => simp [ha, hb, hc, hd, q1, q2, q3]
  by_cases q4 : f_X6_areEqual xs ys b c = 0
  case neg => simp [ha, hb, hc, hd, q1, q2, q3, q4]
  by_cases q5 : f_X6_areEqual xs ys b d = 0
  case neg => simp [ha, hb, hc, hd, q1, q2, q3, q4, q5]
  by_cases q6 : f_X6_areEqual xs ys c d = 0
  case neg => simp [ha, hb, hc, hd, q1, q2, q3, q4, q5, q6]
  simp only [ha, hb, hc, hd, q1, q2, q3, q4, q5, q6, if_false, if_true]
  rw [if_neg (by decide)]
  simp only [gR_eq hx hy, gT_eq hx hy, sg_0, sg_mul0]
  by_cases t1 : gT xs ys a b c = 0
  · rw [if_pos t1, if_pos t1]
    repeat' split
    all_goals first | rfl | contradiction
  rw [if_neg t1, if_neg t1]
  simp only [t1, false_or]
  by_cases r : gR xs ys a b c d = 0
  case neg => rw [if_neg r, if_neg r]
  rw [if_pos r, if_pos r]
  have t2 : ¬ gT xs ys a b d = 0 := by
    intro h9
    rw [gE_0] at q1 q3 q5
    refine rg_line (ax := gx xs a - gx xs d) (a2 := gx ys a - gx ys d) (bx := gx xs b - gx xs d) (b2 := gx ys b - gx ys d) (cx := gx xs c - gx xs d) (c2 := gx ys c - gx ys d) (by omega) (by omega) (by omega) ?_ ?_ r
    · unfold gT at h9; grind
    · intro h8; unfold gT at h9 t1; apply t1; grind
  simp only [sg_muln _ _ t1 t2]
  repeat' split
  all_goals first | rfl | contradiction
end FY
