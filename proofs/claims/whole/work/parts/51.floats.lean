/-! the quick filter: floats -/
section FL
theorem fn_ok {x : UInt32} {K : Nat} (h : mg K x) (hK : K ≤ 255) : FP.Core.val32 x ≠ .nan := by
  rw [FP.Core.ne_nan32]
  have := mg_up h hK
  unfold mg at this; omega
theorem gr_3 {a b : UInt32} (ha : FP.Core.val32 a ≠ .nan) (hb : FP.Core.val32 b ≠ .nan) : FP.Core.val32 (f_X3_greater a b) ≠ .nan ∧ FP.Core.fkey (f_X3_greater a b) = max (FP.Core.fkey a) (FP.Core.fkey b) := by
  unfold f_X3_greater
  rcases Int.lt_trichotomy (FP.Core.fkey a) (FP.Core.fkey b) with h | h | h
  · have e : FP.fcmp a b = some .lt := (FP.Core.fcmp_lt_key ha hb).mpr h
    rw [e, if_pos (by decide)]; exact ⟨hb, by omega⟩
  · have e : FP.fcmp a b = some .eq := (FP.Core.fcmp_eq_key ha hb).mpr h
    rw [e, if_neg (by decide)]; exact ⟨ha, by omega⟩
  · have e : FP.fcmp a b = some .gt := (FP.Core.fcmp_gt_key ha hb).mpr h
    rw [e, if_neg (by decide)]; exact ⟨ha, by omega⟩
theorem gr_6 {a b : UInt32} (ha : FP.Core.val32 a ≠ .nan) (hb : FP.Core.val32 b ≠ .nan) : FP.Core.val32 (f_X6_greater a b) ≠ .nan ∧ FP.Core.fkey (f_X6_greater a b) = max (FP.Core.fkey a) (FP.Core.fkey b) := by
  unfold f_X6_greater
  rcases Int.lt_trichotomy (FP.Core.fkey a) (FP.Core.fkey b) with h | h | h
  · have e : FP.fcmp a b = some .lt := (FP.Core.fcmp_lt_key ha hb).mpr h
    rw [e, if_pos (by decide)]; exact ⟨hb, by omega⟩
  · have e : FP.fcmp a b = some .eq := (FP.Core.fcmp_eq_key ha hb).mpr h
    rw [e, if_pos (by decide)]; exact ⟨hb, by omega⟩
  · have e : FP.fcmp a b = some .gt := (FP.Core.fcmp_gt_key ha hb).mpr h
    rw [e, if_neg (by decide)]; exact ⟨ha, by omega⟩
theorem sq_same {s t : UInt32} (hs : FP.Core.val32 s ≠ .nan) (ht : FP.Core.val32 t ≠ .nan) (h : FP.Core.fkey s = FP.Core.fkey t) : FP.fmul s s = FP.fmul t t := by
  have e : FP.Core.fcmp s t = some .eq := (FP.Core.fcmp_eq_key hs ht).mpr h
  by_cases hz : FP.Core.FZero t
  · have h0 := FP.Core.zero_iff32.mpr hz
    have hz0 : FP.Core.val32 0 ≠ .nan := (FP.Core.fcmp_some h0).2
    have h1 : FP.Core.fkey t = FP.Core.fkey 0 := (FP.Core.fcmp_eq_key ht hz0).mp h0
    have h2 : FP.Core.fcmp s 0 = some .eq := (FP.Core.fcmp_eq_key hs hz0).mpr (h.trans h1)
    rcases FP.Core.zero_bits32 h0 with e1 | e1 <;> rcases FP.Core.zero_bits32 h2 with e2 | e2 <;> rw [e1, e2] <;> decide +kernel
  · rw [FP.Core.eq_bits32 hz e]
variable {xs ys : Nat → Int32}
theorem un_ok (x : UInt32) (h : mg 140 x) : FP.Core.val32 (f_X6_size_ x) ≠ .nan := by
  unfold f_X6_size_
  split
  · exact fn_ok h (by decide)
  · exact fn_ok (mg_neg h) (by decide)
theorem fx_ok (hx : gB xs) (p : Int32) : FP.Core.val32 (f_X6_size_ (f_X6_fx xs p)) ≠ .nan := by
  apply un_ok
  unfold f_X6_fx
  exact mg_div12 (mg_i2f (Nat.le_trans (hx _) (by decide)))
theorem fy_ok (hy : gB ys) (p : Int32) : FP.Core.val32 (f_X6_size_ (f_X6_fy ys p)) ≠ .nan := by
  apply un_ok
  unfold f_X6_fy
  exact mg_div12 (mg_i2f (Nat.le_trans (hy _) (by decide)))
def fR (xs ys : Nat → Int32) (p : Int32) : Int := max (FP.Core.fkey (f_X6_size_ (f_X6_fx xs p))) (FP.Core.fkey (f_X6_size_ (f_X6_fy ys p)))
theorem rc_3 (hx : gB xs) (hy : gB ys) (p : Int32) : FP.Core.val32 (f_X3_reach xs ys p) ≠ .nan ∧ FP.Core.fkey (f_X3_reach xs ys p) = fR xs ys p := gr_3 (fx_ok hx p) (fy_ok hy p)
theorem rc_6 (hx : gB xs) (hy : gB ys) (p : Int32) : FP.Core.val32 (f_X6_greater (f_X6_size_ (f_X6_fx xs p)) (f_X6_size_ (f_X6_fy ys p))) ≠ .nan ∧ FP.Core.fkey (f_X6_greater (f_X6_size_ (f_X6_fx xs p)) (f_X6_size_ (f_X6_fy ys p))) = fR xs ys p := gr_6 (fx_ok hx p) (fy_ok hy p)
theorem mo_6 (hx : gB xs) (hy : gB ys) (a b c : Int32) : FP.Core.val32 (f_X6_most xs ys a b c) ≠ .nan ∧ FP.Core.fkey (f_X6_most xs ys a b c) = max (max (fR xs ys a) (fR xs ys b)) (fR xs ys c) := by
  have r1 := rc_6 hx hy a; have r2 := rc_6 hx hy b; have r3 := rc_6 hx hy c
  have g1 := gr_6 r1.1 r2.1
  have g2 := gr_6 g1.1 r3.1
  unfold f_X6_most
  rw [g1.2, r1.2, r2.2, r3.2] at g2
  exact g2
theorem dt_eq (hx : gB xs) (hy : gB ys) (a b c : Int32) : f_X3_decidesTurn xs ys a b c = f_X6_decidesTurn xs ys a b c := by
  have r1 := rc_3 hx hy a; have r2 := rc_3 hx hy b; have r3 := rc_3 hx hy c
  have g1 := gr_3 r1.1 r2.1
  have g2 := gr_3 g1.1 r3.1
  rw [g1.2, r1.2, r2.2, r3.2] at g2
  have m := mo_6 hx hy a b c
  unfold f_X3_decidesTurn
  rw [sq_same g2.1 m.1 (g2.2.trans m.2.symm)]
  rfl
theorem dr_eq (hx : gB xs) (hy : gB ys) (a b c d : Int32) : f_X3_decidesRing xs ys a b c d = f_X6_decidesRing xs ys a b c d := by
  have r1 := rc_3 hx hy a; have r2 := rc_3 hx hy b; have r3 := rc_3 hx hy c; have r4 := rc_3 hx hy d
  have g1 := gr_3 r1.1 r2.1
  have g2 := gr_3 r3.1 r4.1
  have g3 := gr_3 g1.1 g2.1
  rw [g1.2, g2.2, r1.2, r2.2, r3.2, r4.2] at g3
  have m := mo_6 hx hy a b c
  have r5 := rc_6 hx hy d
  have g4 := gr_6 m.1 r5.1
  rw [m.2, r5.2] at g4
  unfold f_X3_decidesRing
  rw [sq_same g3.1 g4.1 (by rw [g3.2, g4.2]; omega)]
  rfl
theorem nt_eq (on c1 c2 c3 d s : Int32) : f_X3_note on c1 c2 c3 d s = f_X6_counted on c1 c2 c3 d s := by
  unfold f_X3_note f_X6_counted
  simp only [Int32.add_zero]
theorem f_side {P on c1 c2 c3 th a b c : Int32} (hx : gB xs) (hy : gB ys) : (f_X5_side xs ys P on c1 c2 c3 a b c).1 = (f_X6_side xs ys th P on c1 c2 c3 a b c).1 ∧ (f_X6_side xs ys th P on c1 c2 c3 a b c).2.2.1 = (f_X5_side xs ys P on c1 c2 c3 a b c).2.1 ∧ (f_X6_side xs ys th P on c1 c2 c3 a b c).2.2.2.1 = (f_X5_side xs ys P on c1 c2 c3 a b c).2.2.1 ∧ (f_X6_side xs ys th P on c1 c2 c3 a b c).2.2.2.2 = (f_X5_side xs ys P on c1 c2 c3 a b c).2.2.2 := by
  unfold f_X5_side f_X6_side f_X2_hasAll
  have e : ∀ q, f_X2_has P q = f_X6_isPoint P q := fun _ => rfl
  simp only [e, ge_equal, ge_turn, dt_eq hx hy, nt_eq]
  generalize f_X6_counted on c1 c2 c3 (f_X6_decidesTurn xs ys a b c) (f_X6_turn xs ys a b c) = R
  by_cases h1 : f_X6_isPoint P a = 0
  · simp [h1]
  by_cases h2 : f_X6_isPoint P b = 0
  · simp [h1, h2]
  by_cases h3 : f_X6_isPoint P c = 0
  · simp [h1, h2, h3]
  by_cases h4 : f_X6_areEqual xs ys a b = 0
  · simp [h1, h2, h3, h4]
  · simp [h1, h2, h3, h4]
theorem f_circle {P on c1 c2 c3 th a b c d : Int32} (hx : gB xs) (hy : gB ys) : (f_X5_circle xs ys P on c1 c2 c3 a b c d).1 = (f_X6_circle xs ys th P on c1 c2 c3 a b c d).1 ∧ (f_X6_circle xs ys th P on c1 c2 c3 a b c d).2.2.1 = (f_X5_circle xs ys P on c1 c2 c3 a b c d).2.1 ∧ (f_X6_circle xs ys th P on c1 c2 c3 a b c d).2.2.2.1 = (f_X5_circle xs ys P on c1 c2 c3 a b c d).2.2.1 ∧ (f_X6_circle xs ys th P on c1 c2 c3 a b c d).2.2.2.2 = (f_X5_circle xs ys P on c1 c2 c3 a b c d).2.2.2 := by
  unfold f_X5_circle f_X6_circle f_X2_hasAll
  have e : ∀ q, f_X2_has P q = f_X6_isPoint P q := fun _ => rfl
  simp only [e, ge_ring, ge_turn, dr_eq hx hy, nt_eq]
  generalize f_X6_counted on c1 c2 c3 (f_X6_decidesRing xs ys a b c d) (f_X6_ring xs ys a b c d) = R
  by_cases h1 : f_X6_isPoint P a = 0
  · simp [h1]
  by_cases h2 : f_X6_isPoint P b = 0
  · simp [h1, h2]
  by_cases h3 : f_X6_isPoint P c = 0
  · simp [h1, h2, h3]
  by_cases h5 : f_X6_isPoint P d = 0
  · simp [h1, h2, h3, h5]
  by_cases h4 : f_X6_turn xs ys a b c = 0
  · simp [h1, h2, h3, h4, h5]
  · simp [h1, h2, h3, h4, h5]
end FL
