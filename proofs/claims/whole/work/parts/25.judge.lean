/-! X5_isCoordinate -/
theorem hs_X5_isCoordinate : yX5_isCoordinate.cls ≠ "java/lang/invoke/MethodHandle" ∧ yX5_isCoordinate.cls ≠ "java/lang/invoke/VarHandle" ∧ (parseMethodDescriptor yX5_isCoordinate.desc).map (fun d => d.parameters.length) = some 1 := by decide +kernel
theorem hd_X5_isCoordinate : yX5_isCoordinate.cls = RX5 ∧ yX5_isCoordinate.cls ≠ "java/lang/invoke/MethodHandle" ∧ yX5_isCoordinate.cls ≠ "java/lang/invoke/VarHandle" ∧ (parseMethodDescriptor yX5_isCoordinate.desc).map (fun d => d.parameters.length) = some 1 := ⟨rfl, hs_X5_isCoordinate⟩
def f_X5_isCoordinate  (p1 : Int64) : Int32 := (if (lg_cmp p1 (-800 : Int64)) < 0 then (0 : Int32) else (if 0 < (lg_cmp p1 (800 : Int64)) then (0 : Int32) else (1 : Int32)))
abbrev rm_X5_isCoordinate : Room := { frames := 0, cells := 0, slots := 0, locals := 0 }
set_option maxHeartbeats 8000000 in
set_option maxRecDepth 100000 in
theorem c_X5_isCoordinate (l : Launch) (p1 : Int64) : Met l yX5_isCoordinate (Cond.code yX5_isCoordinate cX5_isCoordinate 2 (some .boolean) :: lw_G) rm_X5_isCoordinate (nPc [.long p1]) (pQi (f_X5_isCoordinate p1)) 0 0 pNo := by
  refine nm_of (by decide) (Nat.le_of_ble_eq_true rfl) ?_
  intro p e s m args below meth c Q ls hQ hx hb hr hlk hml hown hts hS hl
  have hown : s.vm.findClass RX5 = some m.cls := hown
  have hl : lv_has ls 2 [(0, .long p1)] := hl
  refine lv_lload_n hx hb dX5_isCoordinate_0 rfl (lv_at hl 0 rfl) ?_
  refine lv_ldc2 hx hb hown (hts _ mG_4_22) dX5_isCoordinate_1 ?_
  refine W.lcmp hx hb dX5_isCoordinate_4 ?_
  refine lv_if_lt (tgt := 20) hx hb dX5_isCoordinate_5 (by decide) (fun c1 => ?_) (fun c1 => ?_)
  · skip
    refine lv_iconst (v := (0 : Int32)) hx hb dX5_isCoordinate_20 (by decide) ?_
    exact rp_z hQ hx hb hr hlk hS (Eq.symm (by simp only [f_X5_isCoordinate, if_pos c1])) (by decide) dX5_isCoordinate_21
  · skip
    refine lv_lload_n hx hb dX5_isCoordinate_8 rfl (lv_at hl 0 rfl) ?_
    refine lv_ldc2 hx hb hown (hts _ mG_4_23) dX5_isCoordinate_9 ?_
    refine W.lcmp hx hb dX5_isCoordinate_12 ?_
    refine lv_if_gt (tgt := 20) hx hb dX5_isCoordinate_13 (by decide) (fun c2 => ?_) (fun c2 => ?_)
    · skip
      refine lv_iconst (v := (0 : Int32)) hx hb dX5_isCoordinate_20 (by decide) ?_
      exact rp_z hQ hx hb hr hlk hS (Eq.symm (by simp only [f_X5_isCoordinate, if_neg c1, if_pos c2])) (by decide) dX5_isCoordinate_21
    · skip
      refine lv_iconst (v := (1 : Int32)) hx hb dX5_isCoordinate_16 (by decide) ?_
      refine lv_goto (tgt := 21) hx hb dX5_isCoordinate_17 (by decide) ?_
      exact rp_z hQ hx hb hr hlk hS (Eq.symm (by simp only [f_X5_isCoordinate, if_neg c1, if_neg c2])) (by decide) dX5_isCoordinate_21
/-! X5_isDown -/
theorem hs_X5_isDown : yX5_isDown.cls ≠ "java/lang/invoke/MethodHandle" ∧ yX5_isDown.cls ≠ "java/lang/invoke/VarHandle" ∧ (parseMethodDescriptor yX5_isDown.desc).map (fun d => d.parameters.length) = some 1 := by decide +kernel
theorem hd_X5_isDown : yX5_isDown.cls = RX5 ∧ yX5_isDown.cls ≠ "java/lang/invoke/MethodHandle" ∧ yX5_isDown.cls ≠ "java/lang/invoke/VarHandle" ∧ (parseMethodDescriptor yX5_isDown.desc).map (fun d => d.parameters.length) = some 1 := ⟨rfl, hs_X5_isDown⟩
def f_X5_isDown  (p1 : Int64) : Int32 := (if (lg_cmp p1 (0 : Int64)) ≤ 0 then (0 : Int32) else (if 0 < (lg_cmp p1 (12 : Int64)) then (0 : Int32) else (if (lg_cmp ((12 : Int64) - (12 : Int64) / p1 * p1) (0 : Int64)) = 0 then (1 : Int32) else (0 : Int32))))
abbrev rm_X5_isDown : Room := { frames := 0, cells := 0, slots := 0, locals := 0 }
set_option maxHeartbeats 8000000 in
set_option maxRecDepth 100000 in
theorem c_X5_isDown (l : Launch) (p1 : Int64) : Met l yX5_isDown (Cond.code yX5_isDown cX5_isDown 2 (some .boolean) :: lw_G) rm_X5_isDown (nPc [.long p1]) (pQi (f_X5_isDown p1)) 0 0 pNo := by
  refine nm_of (by decide) (Nat.le_of_ble_eq_true rfl) ?_
  intro p e s m args below meth c Q ls hQ hx hb hr hlk hml hown hts hS hl
  have hown : s.vm.findClass RX5 = some m.cls := hown
  have hl : lv_has ls 2 [(0, .long p1)] := hl
  refine lv_lload_n hx hb dX5_isDown_0 rfl (lv_at hl 0 rfl) ?_
  refine lv_lconst (v := (0 : Int64)) hx hb dX5_isDown_1 (by decide) ?_
  refine W.lcmp hx hb dX5_isDown_2 ?_
  refine lv_if_le (tgt := 28) hx hb dX5_isDown_3 (by decide) (fun c1 => ?_) (fun c1 => ?_)
  · skip
    refine lv_iconst (v := (0 : Int32)) hx hb dX5_isDown_28 (by decide) ?_
    exact rp_z hQ hx hb hr hlk hS (Eq.symm (by simp only [f_X5_isDown, if_pos c1])) (by decide) dX5_isDown_29
  · skip
    have hz : ¬ p1 = 0 := fun h => c1 (by rw [h]; decide)
    refine lv_lload_n hx hb dX5_isDown_6 rfl (lv_at hl 0 rfl) ?_
    refine lv_ldc2 hx hb hown (hts _ mG_5_3) dX5_isDown_7 ?_
    refine W.lcmp hx hb dX5_isDown_10 ?_
    refine lv_if_gt (tgt := 28) hx hb dX5_isDown_11 (by decide) (fun c2 => ?_) (fun c2 => ?_)
    · skip
      refine lv_iconst (v := (0 : Int32)) hx hb dX5_isDown_28 (by decide) ?_
      exact rp_z hQ hx hb hr hlk hS (Eq.symm (by simp only [f_X5_isDown, if_neg c1, if_pos c2])) (by decide) dX5_isDown_29
    · skip
      refine lv_ldc2 hx hb hown (hts _ mG_5_3) dX5_isDown_14 ?_
      refine lv_lload_n hx hb dX5_isDown_17 rfl (lv_at hl 0 rfl) ?_
      refine lv_lrem hx hb dX5_isDown_18 (by first | with_reducible assumption | exact in0_24 | exact in0_60 | decide) ?_
      refine lv_lconst (v := (0 : Int64)) hx hb dX5_isDown_19 (by decide) ?_
      refine W.lcmp hx hb dX5_isDown_20 ?_
      refine lv_if_ne (tgt := 28) hx hb dX5_isDown_21 (by decide) (fun c3 => ?_) (fun c3 => ?_)
      · skip
        refine lv_iconst (v := (0 : Int32)) hx hb dX5_isDown_28 (by decide) ?_
        exact rp_z hQ hx hb hr hlk hS (Eq.symm (by simp only [f_X5_isDown, if_neg c1, if_neg c2, if_neg c3])) (by decide) dX5_isDown_29
      · skip
        refine lv_iconst (v := (1 : Int32)) hx hb dX5_isDown_24 (by decide) ?_
        refine lv_goto (tgt := 29) hx hb dX5_isDown_25 (by decide) ?_
        exact rp_z hQ hx hb hr hlk hS (Eq.symm (by simp only [f_X5_isDown, if_neg c1, if_neg c2, if_pos c3])) (by decide) dX5_isDown_29
theorem lg_ne {p : Int64} (c : ¬ lg_cmp p 0 ≤ 0) : ¬ p = 0 := fun h => c (by rw [h]; decide)
theorem isDown_ne {p : Int64} (c : ¬ f_X5_isDown p = 0) : ¬ Int64.toInt32 p = 0 := by
  intro h
  apply c
  unfold f_X5_isDown
  by_cases c1 : lg_cmp p 0 ≤ 0
  · rw [if_pos c1]
  rw [if_neg c1]
  by_cases c2 : 0 < lg_cmp p 12
  · rw [if_pos c2]
  exfalso
  have h1 : (0 : Int64) < p := by
    rw [Int64.lt_iff_toInt_lt]
    have := mt (lg_cmp_le p 0).mpr c1
    rw [Int64.le_iff_toInt_le] at this
    omega
  have h2 : p ≤ 12 := by
    have := mt (lg_cmp_gt p 12).mpr c2
    rw [Int64.le_iff_toInt_le]
    rw [Int64.lt_iff_toInt_lt] at this
    omega
  rw [Int64.lt_iff_toInt_lt, show (0 : Int64).toInt = 0 by decide] at h1
  rw [Int64.le_iff_toInt_le, show (12 : Int64).toInt = 12 by decide] at h2
  have h3 : (Int64.toInt32 p).toInt = p.toInt := by
    rw [Int64.toInt_toInt32]
    exact Int.bmod_eq_of_le (by omega) (by omega)
  rw [h, show (0 : Int32).toInt = 0 by decide] at h3
  omega
theorem nz {v : Int32} (h : v = 0 ∨ v = 1) : narrow .boolean (.int v) = .int v := by rcases h with rfl | rfl <;> decide
theorem fz {v : Int32} (h : v = 0 ∨ v = 1) : fits .boolean (.int v) = true := by rcases h with rfl | rfl <;> decide
theorem in_has {v0 p : Int32} (hv0 : v0 ≤ 60) (c : ¬ f_X2_has v0 p = 0) : vp_in p 60 := by
  unfold f_X2_has at c
  by_cases c1 : p < 0
  · rw [if_pos c1] at c
    exact absurd rfl c
  · rw [if_neg c1] at c
    by_cases c2 : v0 ≤ p
    · rw [if_pos c2] at c
      exact absurd rfl c
    · exact ixl60 (Int32.not_lt.mp c1) (Int32.lt_of_lt_of_le (Int32.not_le.mp c2) hv0)
theorem in_hasAll {v0 p q r : Int32} (hv0 : v0 ≤ 60) (c : ¬ f_X2_hasAll v0 p q r = 0) : vp_in p 60 ∧ vp_in q 60 ∧ vp_in r 60 := by
  unfold f_X2_hasAll at c
  by_cases c1 : f_X2_has v0 p = 0
  · rw [if_pos c1] at c
    exact absurd rfl c
  · rw [if_neg c1] at c
    by_cases c2 : f_X2_has v0 q = 0
    · rw [if_pos c2] at c
      exact absurd rfl c
    · rw [if_neg c2] at c
      by_cases c3 : f_X2_has v0 r = 0
      · rw [if_pos c3] at c
        exact absurd rfl c
      · exact ⟨in_has hv0 c1, in_has hv0 c2, in_has hv0 c3⟩
theorem ff_loop {pl : Nat → Int32} {v5 p1 p2 : Int32} : ∀ (n : Nat) (i : Int32), 0 ≤ i → (p1.toInt - i.toInt).toNat < n → f_X4_fault_L18 pl v5 p1 p2 n i = 0 → ∀ j : Nat, i.toInt ≤ j → (j : Int) < p1.toInt → ¬ pl j = -1 := by
  intro n
  induction n with
  | zero => intro i h0 hf; exact absurd hf (Nat.not_lt_zero _)
  | succ n ih =>
    intro i h0 hf h j h1 h2
    rw [f_X4_fault_L18] at h
    by_cases c : p1 ≤ i
    · have := Int32.le_iff_toInt_le.mp c
      omega
    · rw [if_neg c] at h
      by_cases c2 : pl (Int32.toNatClampNeg i) = -1
      · rw [if_pos c2] at h
        exact absurd h (by decide)
      · rw [if_neg c2] at h
        have e0 : (0 : Int32).toInt = 0 := by decide
        have hi : (0 : Int32).toInt ≤ i.toInt := Int32.le_iff_toInt_le.mp h0
        have e1 : ((Int32.toNatClampNeg i : Nat) : Int) = i.toInt := by
          rw [Int32.toNatClampNeg]
          exact Int.toNat_of_nonneg (by omega)
        by_cases q : (j : Int) = i.toInt
        · have : Int32.toNatClampNeg i = j := by omega
          rw [← this]
          exact c2
        · exact ih (i + 1) (lp_pos h0 c) (lp_dec c hf) h j (by rw [in_1 c]; omega) h2
theorem ff_spec {pl : Nat → Int32} {v5 p1 p2 : Int32} (hh : v5 ≤ 24) (hpl : ∀ j : Nat, pl j = -1 ∨ vp_in (pl j) 60) (c : f_X4_fault pl v5 p1 p2 = 0) : p2 ≤ p1 ∧ p1 ≤ 24 ∧ ∀ j : Nat, (j : Int) < p1.toInt → vp_in (pl j) 60 := by
  unfold f_X4_fault at c
  by_cases c1 : p1 < p2
  · rw [if_pos c1] at c
    exact absurd c (by decide)
  · rw [if_neg c1] at c
    by_cases c2 : p1 ≤ v5
    · rw [if_pos c2] at c
      have hn : p1 ≤ 24 := Int32.le_trans c2 hh
      refine ⟨Int32.not_lt.mp c1, hn, fun j hj => ?_⟩
      exact (hpl j).resolve_left (ff_loop 25 0 (by decide) (lp_fuel (by decide) hn) c j (by rw [show (0 : Int32).toInt = 0 by decide]; omega) hj)
    · rw [if_neg c2] at c
      exact absurd c (by decide)
theorem n1 {p : Int32} (h : 1 ≤ p) : ¬ p ≤ 0 := fun q => absurd (Int32.le_trans h q) (by decide)
/-! X5_between -/
theorem hs_X5_between : yX5_between.cls ≠ "java/lang/invoke/MethodHandle" ∧ yX5_between.cls ≠ "java/lang/invoke/VarHandle" ∧ (parseMethodDescriptor yX5_between.desc).map (fun d => d.parameters.length) = some 3 := by decide +kernel
theorem hd_X5_between : yX5_between.cls = RX5 ∧ yX5_between.cls ≠ "java/lang/invoke/MethodHandle" ∧ yX5_between.cls ≠ "java/lang/invoke/VarHandle" ∧ (parseMethodDescriptor yX5_between.desc).map (fun d => d.parameters.length) = some 3 := ⟨rfl, hs_X5_between⟩
def f_X5_between (xs : Nat → Int32) (ys : Nat → Int32) (v0 : Int32) (p1 : Int32) (p2 : Int32) (p3 : Int32) : Int32 := (if (f_X2_hasAll v0 p1 p2 p3) = 0 then (-2 : Int32) else (f_X0_betweenness xs ys p1 p2 p3))
abbrev rm_X5_between : Room := { frames := 5, cells := 0, slots := 0, locals := 117 }
set_option maxHeartbeats 8000000 in
set_option maxRecDepth 100000 in
theorem c_X5_between (l : Launch) (dC : Nat → ClassId) (dI : Nat → Nat → Nat) (a : Nat → Nat) (cI cJ : ClassId) (xs : Nat → Int32) (ys : Nat → Int32) (pl : Nat → Int32) (kp : Nat → Int32) (lp : Nat → Int64) (lq : Nat → Int64) (lr : Nat → Int64) (v0 : Int32) (v1 : Int32) (v2 : Int32) (v3 : Int32) (v4 : Int32) (v5 : Int32) (v6 : Int32) (v7 : Int32) (v8 : Int32) (v9 : Int32) (v10 : Int32) (p1 : Int32) (p2 : Int32) (p3 : Int32) (hv0 : v0 ≤ 60) : Met l yX5_between (Cond.code yX5_between cX5_between 4 (some .int) :: lw_G) rm_X5_between (pPc (dC, dI) (tIJ cI cJ) (wC a cI cJ xs ys pl kp lp lq lr v0 v1 v2 v3 v4 v5 v6 v7 v8 v9 v10) [.ref (a 0), .int p1, .int p2, .int p3]) (pQi (f_X5_between xs ys v0 p1 p2 p3)) 0 0 pNo := by
  refine pm_of (by decide) (Nat.le_of_ble_eq_true rfl) ?_
  intro p e s m args below meth c Q ls hQ hx hb hr hlk hml hown hts hP hK hS hl
  have hown : s.vm.findClass RX5 = some m.cls := hown
  have hl : lv_has ls 4 [(0, .ref (a 0)), (1, .int p1), (2, .int p2), (3, .int p3)] := hl
  refine lv_aload_n hx hb dX5_between_0 rfl (lv_at hl 0 rfl) ?_
  refine va_get (D := (dC, dI)) (ci := 9) (v := .ref (a 1)) (C := RX5) (T := TX5) (N := 5) hx hb hts (fun _ h => gI_wsX50 h) hown hK.1 hP 0 rfl rfl 0 (by decide) (hts _ mG_1_17) (fun _ h9 => h9) rfl dX5_between_1 ?_
  refine lv_iload_n hx hb dX5_between_4 rfl (lv_at hl 1 rfl) ?_
  refine lv_iload_n hx hb dX5_between_5 rfl (lv_at hl 2 rfl) ?_
  refine lv_iload_n hx hb dX5_between_6 rfl (lv_at hl 3 rfl) ?_
  refine cp_i (va_runV (As := [.int p1, .int p2, .int p3]) (rest := []) ⟨hx, hb, hml, hown, hts⟩ (c_X2_hasAll l dC dI a cI cJ xs ys pl kp lp lq lr v0 v1 v2 v3 v4 v5 v6 v7 v8 v9 v10 p1 p2 p3 ) (cwV 3 hts (gG_V mG_9_11 mG_9_12 mG_9_13 mG_1_16 (gG_c mG_9_14 gG_G)) rfl rfl rfl hd_X2_hasAll ⟨Nat.le_of_ble_eq_true rfl, Nat.le_of_ble_eq_true rfl⟩) (pPcV (ci := 6) (q0 := 1) hK hP rfl rfl) rfl rfl hl.1 rfl (lv_room (Nat.le_of_ble_eq_true rfl)) dX5_between_7 ⟨Nat.le_of_ble_eq_true rfl, Nat.le_of_ble_eq_true rfl⟩) hP hS (fun H hP hS => ?_)
  refine lv_if_eq (tgt := 26) hx hb dX5_between_10 (by decide) (fun c1 => ?_) (fun c1 => ?_)
  · skip
    refine lv_bipush (v := (-2 : Int32)) hx hb dX5_between_26 (by decide) ?_
    exact rp_i hQ hx hb hr hlk hS (Eq.symm (by simp only [f_X5_between, if_pos c1])) dX5_between_28
  · skip
    obtain ⟨hi1, hi2, hi3⟩ := in_hasAll hv0 c1
    refine lv_aload_n hx hb dX5_between_13 rfl (lv_at hl 0 rfl) ?_
    refine va_get (D := (dC, dI)) (ci := 9) (v := .ref (a 5)) (C := RX5) (T := TX5) (N := 5) hx hb hts (fun _ h => gI_wsX50 h) hown hK.1 hP 0 rfl rfl 2 (by decide) (hts _ mG_2_1) (fun _ h9 => h9) rfl dX5_between_14 ?_
    refine lv_iload_n hx hb dX5_between_17 rfl (lv_at hl 1 rfl) ?_
    refine lv_iload_n hx hb dX5_between_18 rfl (lv_at hl 2 rfl) ?_
    refine lv_iload_n hx hb dX5_between_19 rfl (lv_at hl 3 rfl) ?_
    refine cp_i (va_runV (As := [.int p1, .int p2, .int p3]) (rest := []) ⟨hx, hb, hml, hown, hts⟩ (c_X0_betweenness l dC dI a cI cJ xs ys pl kp lp lq lr v0 v1 v2 v3 v4 v5 v6 v7 v8 v9 v10 p1 p2 p3 (by first | with_reducible assumption | exact in0_24 | exact in0_60 | decide) (by first | with_reducible assumption | exact in0_24 | exact in0_60 | decide) (by first | with_reducible assumption | exact in0_24 | exact in0_60 | decide)) (cwV 3 hts (gG_V mG_15_21 mG_15_22 mG_15_23 mG_2_0 (gG_c mG_16_0 gG_G)) rfl rfl rfl hd_X0_betweenness ⟨Nat.le_of_ble_eq_true rfl, Nat.le_of_ble_eq_true rfl⟩) (pPcV (ci := 4) (q0 := 5) hK hP rfl rfl) rfl rfl hl.1 rfl (lv_room (Nat.le_of_ble_eq_true rfl)) dX5_between_20 ⟨Nat.le_of_ble_eq_true rfl, Nat.le_of_ble_eq_true rfl⟩) hP hS (fun H hP hS => ?_)
    refine lv_goto (tgt := 28) hx hb dX5_between_23 (by decide) ?_
    exact rp_i hQ hx hb hr hlk hS (Eq.symm (by simp only [f_X5_between, if_neg c1])) dX5_between_28
/-! X5_inside -/
theorem hs_X5_inside : yX5_inside.cls ≠ "java/lang/invoke/MethodHandle" ∧ yX5_inside.cls ≠ "java/lang/invoke/VarHandle" ∧ (parseMethodDescriptor yX5_inside.desc).map (fun d => d.parameters.length) = some 4 := by decide +kernel
theorem hd_X5_inside : yX5_inside.cls = RX5 ∧ yX5_inside.cls ≠ "java/lang/invoke/MethodHandle" ∧ yX5_inside.cls ≠ "java/lang/invoke/VarHandle" ∧ (parseMethodDescriptor yX5_inside.desc).map (fun d => d.parameters.length) = some 4 := ⟨rfl, hs_X5_inside⟩
def f_X5_inside (xs : Nat → Int32) (ys : Nat → Int32) (v0 : Int32) (p1 : Int32) (p2 : Int32) (p3 : Int32) (p4 : Int32) : Int32 := (if (f_X2_hasAll v0 p1 p2 p3) = 0 then (-2 : Int32) else (if (f_X2_has v0 p4) = 0 then (-2 : Int32) else (if (f_X2_equal xs ys p1 p2) = 0 then (if (f_X2_equal xs ys p1 p3) = 0 then (f_X0_withinAngle xs ys p1 p2 p3 p4) else (-4 : Int32)) else (-4 : Int32))))
abbrev rm_X5_inside : Room := { frames := 5, cells := 0, slots := 0, locals := 124 }
set_option maxHeartbeats 8000000 in
set_option maxRecDepth 100000 in
theorem c_X5_inside (l : Launch) (dC : Nat → ClassId) (dI : Nat → Nat → Nat) (a : Nat → Nat) (cI cJ : ClassId) (xs : Nat → Int32) (ys : Nat → Int32) (pl : Nat → Int32) (kp : Nat → Int32) (lp : Nat → Int64) (lq : Nat → Int64) (lr : Nat → Int64) (v0 : Int32) (v1 : Int32) (v2 : Int32) (v3 : Int32) (v4 : Int32) (v5 : Int32) (v6 : Int32) (v7 : Int32) (v8 : Int32) (v9 : Int32) (v10 : Int32) (p1 : Int32) (p2 : Int32) (p3 : Int32) (p4 : Int32) (hv0 : v0 ≤ 60) : Met l yX5_inside (Cond.code yX5_inside cX5_inside 5 (some .int) :: lw_G) rm_X5_inside (pPc (dC, dI) (tIJ cI cJ) (wC a cI cJ xs ys pl kp lp lq lr v0 v1 v2 v3 v4 v5 v6 v7 v8 v9 v10) [.ref (a 0), .int p1, .int p2, .int p3, .int p4]) (pQi (f_X5_inside xs ys v0 p1 p2 p3 p4)) 0 0 pNo := by
  refine pm_of (by decide) (Nat.le_of_ble_eq_true rfl) ?_
  intro p e s m args below meth c Q ls hQ hx hb hr hlk hml hown hts hP hK hS hl
  have hown : s.vm.findClass RX5 = some m.cls := hown
  have hl : lv_has ls 5 [(0, .ref (a 0)), (1, .int p1), (2, .int p2), (3, .int p3), (4, .int p4)] := hl
  refine lv_aload_n hx hb dX5_inside_0 rfl (lv_at hl 0 rfl) ?_
  refine va_get (D := (dC, dI)) (ci := 9) (v := .ref (a 1)) (C := RX5) (T := TX5) (N := 5) hx hb hts (fun _ h => gI_wsX50 h) hown hK.1 hP 0 rfl rfl 0 (by decide) (hts _ mG_1_17) (fun _ h9 => h9) rfl dX5_inside_1 ?_
  refine lv_iload_n hx hb dX5_inside_4 rfl (lv_at hl 1 rfl) ?_
  refine lv_iload_n hx hb dX5_inside_5 rfl (lv_at hl 2 rfl) ?_
  refine lv_iload_n hx hb dX5_inside_6 rfl (lv_at hl 3 rfl) ?_
  refine cp_i (va_runV (As := [.int p1, .int p2, .int p3]) (rest := []) ⟨hx, hb, hml, hown, hts⟩ (c_X2_hasAll l dC dI a cI cJ xs ys pl kp lp lq lr v0 v1 v2 v3 v4 v5 v6 v7 v8 v9 v10 p1 p2 p3 ) (cwV 3 hts (gG_V mG_9_11 mG_9_12 mG_9_13 mG_1_16 (gG_c mG_9_14 gG_G)) rfl rfl rfl hd_X2_hasAll ⟨Nat.le_of_ble_eq_true rfl, Nat.le_of_ble_eq_true rfl⟩) (pPcV (ci := 6) (q0 := 1) hK hP rfl rfl) rfl rfl hl.1 rfl (lv_room (Nat.le_of_ble_eq_true rfl)) dX5_inside_7 ⟨Nat.le_of_ble_eq_true rfl, Nat.le_of_ble_eq_true rfl⟩) hP hS (fun H hP hS => ?_)
  refine lv_if_eq (tgt := 25) hx hb dX5_inside_10 (by decide) (fun c1 => ?_) (fun c1 => ?_)
  · skip
    refine lv_bipush (v := (-2 : Int32)) hx hb dX5_inside_25 (by decide) ?_
    exact rp_i hQ hx hb hr hlk hS (Eq.symm (by simp only [f_X5_inside, if_pos c1])) dX5_inside_27
  · skip
    obtain ⟨hi1, hi2, hi3⟩ := in_hasAll hv0 c1
    refine lv_aload_n hx hb dX5_inside_13 rfl (lv_at hl 0 rfl) ?_
    refine va_get (D := (dC, dI)) (ci := 9) (v := .ref (a 1)) (C := RX5) (T := TX5) (N := 5) hx hb hts (fun _ h => gI_wsX50 h) hown hK.1 hP 0 rfl rfl 0 (by decide) (hts _ mG_1_17) (fun _ h9 => h9) rfl dX5_inside_14 ?_
    refine lv_iload hx hb dX5_inside_17 (lv_at hl 4 rfl) ?_
    refine cp_i (va_runV (As := [.int p4]) (rest := []) ⟨hx, hb, hml, hown, hts⟩ (c_X2_has l dC dI a cI cJ xs ys pl kp lp lq lr v0 v1 v2 v3 v4 v5 v6 v7 v8 v9 v10 p4 ) (cwV 1 hts (gG_V mG_7_13 mG_7_14 mG_7_15 mG_1_16 (gG_c mG_7_16 gG_G)) rfl rfl rfl hd_X2_has ⟨Nat.le_of_ble_eq_true rfl, Nat.le_of_ble_eq_true rfl⟩) (pPcV (ci := 6) (q0 := 1) hK hP rfl rfl) rfl rfl hl.1 rfl (lv_room (Nat.le_of_ble_eq_true rfl)) dX5_inside_19 ⟨Nat.le_of_ble_eq_true rfl, Nat.le_of_ble_eq_true rfl⟩) hP hS (fun H hP hS => ?_)
    refine lv_if_ne (tgt := 28) hx hb dX5_inside_22 (by decide) (fun c2 => ?_) (fun c2 => ?_)
    · skip
      have hi4 : vp_in p4 60 := in_has hv0 c2
      refine lv_aload_n hx hb dX5_inside_28 rfl (lv_at hl 0 rfl) ?_
      refine va_get (D := (dC, dI)) (ci := 9) (v := .ref (a 1)) (C := RX5) (T := TX5) (N := 5) hx hb hts (fun _ h => gI_wsX50 h) hown hK.1 hP 0 rfl rfl 0 (by decide) (hts _ mG_1_17) (fun _ h9 => h9) rfl dX5_inside_29 ?_
      refine lv_iload_n hx hb dX5_inside_32 rfl (lv_at hl 1 rfl) ?_
      refine lv_iload_n hx hb dX5_inside_33 rfl (lv_at hl 2 rfl) ?_
      refine cp_i (va_runV (As := [.int p1, .int p2]) (rest := []) ⟨hx, hb, hml, hown, hts⟩ (c_X2_equal l dC dI a cI cJ xs ys pl kp lp lq lr v0 v1 v2 v3 v4 v5 v6 v7 v8 v9 v10 p1 p2 (by first | with_reducible assumption | exact in0_24 | exact in0_60 | decide) (by first | with_reducible assumption | exact in0_24 | exact in0_60 | decide)) (cwV 2 hts (gG_V mG_9_16 mG_9_17 mG_9_18 mG_1_16 (gG_c mG_9_19 gG_G)) rfl rfl rfl hd_X2_equal ⟨Nat.le_of_ble_eq_true rfl, Nat.le_of_ble_eq_true rfl⟩) (pPcV (ci := 6) (q0 := 1) hK hP rfl rfl) rfl rfl hl.1 rfl (lv_room (Nat.le_of_ble_eq_true rfl)) dX5_inside_34 ⟨Nat.le_of_ble_eq_true rfl, Nat.le_of_ble_eq_true rfl⟩) hP hS (fun H hP hS => ?_)
      refine lv_if_ne (tgt := 52) hx hb dX5_inside_37 (by decide) (fun c3 => ?_) (fun c3 => ?_)
      · skip
        refine lv_bipush (v := (-4 : Int32)) hx hb dX5_inside_52 (by decide) ?_
        exact rp_i hQ hx hb hr hlk hS (Eq.symm (by simp only [f_X5_inside, if_neg c1, if_neg c2, if_neg c3])) dX5_inside_54
      · skip
        refine lv_aload_n hx hb dX5_inside_40 rfl (lv_at hl 0 rfl) ?_
        refine va_get (D := (dC, dI)) (ci := 9) (v := .ref (a 1)) (C := RX5) (T := TX5) (N := 5) hx hb hts (fun _ h => gI_wsX50 h) hown hK.1 hP 0 rfl rfl 0 (by decide) (hts _ mG_1_17) (fun _ h9 => h9) rfl dX5_inside_41 ?_
        refine lv_iload_n hx hb dX5_inside_44 rfl (lv_at hl 1 rfl) ?_
        refine lv_iload_n hx hb dX5_inside_45 rfl (lv_at hl 3 rfl) ?_
        refine cp_i (va_runV (As := [.int p1, .int p3]) (rest := []) ⟨hx, hb, hml, hown, hts⟩ (c_X2_equal l dC dI a cI cJ xs ys pl kp lp lq lr v0 v1 v2 v3 v4 v5 v6 v7 v8 v9 v10 p1 p3 (by first | with_reducible assumption | exact in0_24 | exact in0_60 | decide) (by first | with_reducible assumption | exact in0_24 | exact in0_60 | decide)) (cwV 2 hts (gG_V mG_9_16 mG_9_17 mG_9_18 mG_1_16 (gG_c mG_9_19 gG_G)) rfl rfl rfl hd_X2_equal ⟨Nat.le_of_ble_eq_true rfl, Nat.le_of_ble_eq_true rfl⟩) (pPcV (ci := 6) (q0 := 1) hK hP rfl rfl) rfl rfl hl.1 rfl (lv_room (Nat.le_of_ble_eq_true rfl)) dX5_inside_46 ⟨Nat.le_of_ble_eq_true rfl, Nat.le_of_ble_eq_true rfl⟩) hP hS (fun H hP hS => ?_)
        refine lv_if_eq (tgt := 55) hx hb dX5_inside_49 (by decide) (fun c4 => ?_) (fun c4 => ?_)
        · skip
          refine lv_aload_n hx hb dX5_inside_55 rfl (lv_at hl 0 rfl) ?_
          refine va_get (D := (dC, dI)) (ci := 9) (v := .ref (a 5)) (C := RX5) (T := TX5) (N := 5) hx hb hts (fun _ h => gI_wsX50 h) hown hK.1 hP 0 rfl rfl 2 (by decide) (hts _ mG_2_1) (fun _ h9 => h9) rfl dX5_inside_56 ?_
          refine lv_iload_n hx hb dX5_inside_59 rfl (lv_at hl 1 rfl) ?_
          refine lv_iload_n hx hb dX5_inside_60 rfl (lv_at hl 2 rfl) ?_
          refine lv_iload_n hx hb dX5_inside_61 rfl (lv_at hl 3 rfl) ?_
          refine lv_iload hx hb dX5_inside_62 (lv_at hl 4 rfl) ?_
          refine cp_i (va_runV (As := [.int p1, .int p2, .int p3, .int p4]) (rest := []) ⟨hx, hb, hml, hown, hts⟩ (c_X0_withinAngle l dC dI a cI cJ xs ys pl kp lp lq lr v0 v1 v2 v3 v4 v5 v6 v7 v8 v9 v10 p1 p2 p3 p4 (by first | with_reducible assumption | exact in0_24 | exact in0_60 | decide) (by first | with_reducible assumption | exact in0_24 | exact in0_60 | decide) (by first | with_reducible assumption | exact in0_24 | exact in0_60 | decide) (by first | with_reducible assumption | exact in0_24 | exact in0_60 | decide)) (cwV 4 hts (gG_V mG_17_8 mG_17_9 mG_17_10 mG_2_0 (gG_c mG_17_11 gG_G)) rfl rfl rfl hd_X0_withinAngle ⟨Nat.le_of_ble_eq_true rfl, Nat.le_of_ble_eq_true rfl⟩) (pPcV (ci := 4) (q0 := 5) hK hP rfl rfl) rfl rfl hl.1 rfl (lv_room (Nat.le_of_ble_eq_true rfl)) dX5_inside_64 ⟨Nat.le_of_ble_eq_true rfl, Nat.le_of_ble_eq_true rfl⟩) hP hS (fun H hP hS => ?_)
          exact rp_i hQ hx hb hr hlk hS (Eq.symm (by simp only [f_X5_inside, if_neg c1, if_neg c2, if_pos c3, if_pos c4])) dX5_inside_67
        · skip
          refine lv_bipush (v := (-4 : Int32)) hx hb dX5_inside_52 (by decide) ?_
          exact rp_i hQ hx hb hr hlk hS (Eq.symm (by simp only [f_X5_inside, if_neg c1, if_neg c2, if_pos c3, if_neg c4])) dX5_inside_54
    · skip
      refine lv_bipush (v := (-2 : Int32)) hx hb dX5_inside_25 (by decide) ?_
      exact rp_i hQ hx hb hr hlk hS (Eq.symm (by simp only [f_X5_inside, if_neg c1, if_pos c2])) dX5_inside_27
/-! X5_cross -/
theorem hs_X5_cross : yX5_cross.cls ≠ "java/lang/invoke/MethodHandle" ∧ yX5_cross.cls ≠ "java/lang/invoke/VarHandle" ∧ (parseMethodDescriptor yX5_cross.desc).map (fun d => d.parameters.length) = some 4 := by decide +kernel
theorem hd_X5_cross : yX5_cross.cls = RX5 ∧ yX5_cross.cls ≠ "java/lang/invoke/MethodHandle" ∧ yX5_cross.cls ≠ "java/lang/invoke/VarHandle" ∧ (parseMethodDescriptor yX5_cross.desc).map (fun d => d.parameters.length) = some 4 := ⟨rfl, hs_X5_cross⟩
def f_X5_cross (xs : Nat → Int32) (ys : Nat → Int32) (v0 : Int32) (p1 : Int32) (p2 : Int32) (p3 : Int32) (p4 : Int32) : Int32 := (if (f_X2_hasAll v0 p1 p2 p3) = 0 then (-2 : Int32) else (if (f_X2_has v0 p4) = 0 then (-2 : Int32) else (f_X0_crossing xs ys p1 p2 p3 p4)))
abbrev rm_X5_cross : Room := { frames := 5, cells := 0, slots := 0, locals := 122 }
set_option maxHeartbeats 8000000 in
set_option maxRecDepth 100000 in
theorem c_X5_cross (l : Launch) (dC : Nat → ClassId) (dI : Nat → Nat → Nat) (a : Nat → Nat) (cI cJ : ClassId) (xs : Nat → Int32) (ys : Nat → Int32) (pl : Nat → Int32) (kp : Nat → Int32) (lp : Nat → Int64) (lq : Nat → Int64) (lr : Nat → Int64) (v0 : Int32) (v1 : Int32) (v2 : Int32) (v3 : Int32) (v4 : Int32) (v5 : Int32) (v6 : Int32) (v7 : Int32) (v8 : Int32) (v9 : Int32) (v10 : Int32) (p1 : Int32) (p2 : Int32) (p3 : Int32) (p4 : Int32) (hv0 : v0 ≤ 60) : Met l yX5_cross (Cond.code yX5_cross cX5_cross 5 (some .int) :: lw_G) rm_X5_cross (pPc (dC, dI) (tIJ cI cJ) (wC a cI cJ xs ys pl kp lp lq lr v0 v1 v2 v3 v4 v5 v6 v7 v8 v9 v10) [.ref (a 0), .int p1, .int p2, .int p3, .int p4]) (pQi (f_X5_cross xs ys v0 p1 p2 p3 p4)) 0 0 pNo := by
  refine pm_of (by decide) (Nat.le_of_ble_eq_true rfl) ?_
  intro p e s m args below meth c Q ls hQ hx hb hr hlk hml hown hts hP hK hS hl
  have hown : s.vm.findClass RX5 = some m.cls := hown
  have hl : lv_has ls 5 [(0, .ref (a 0)), (1, .int p1), (2, .int p2), (3, .int p3), (4, .int p4)] := hl
  refine lv_aload_n hx hb dX5_cross_0 rfl (lv_at hl 0 rfl) ?_
  refine va_get (D := (dC, dI)) (ci := 9) (v := .ref (a 1)) (C := RX5) (T := TX5) (N := 5) hx hb hts (fun _ h => gI_wsX50 h) hown hK.1 hP 0 rfl rfl 0 (by decide) (hts _ mG_1_17) (fun _ h9 => h9) rfl dX5_cross_1 ?_
  refine lv_iload_n hx hb dX5_cross_4 rfl (lv_at hl 1 rfl) ?_
  refine lv_iload_n hx hb dX5_cross_5 rfl (lv_at hl 2 rfl) ?_
  refine lv_iload_n hx hb dX5_cross_6 rfl (lv_at hl 3 rfl) ?_
  refine cp_i (va_runV (As := [.int p1, .int p2, .int p3]) (rest := []) ⟨hx, hb, hml, hown, hts⟩ (c_X2_hasAll l dC dI a cI cJ xs ys pl kp lp lq lr v0 v1 v2 v3 v4 v5 v6 v7 v8 v9 v10 p1 p2 p3 ) (cwV 3 hts (gG_V mG_9_11 mG_9_12 mG_9_13 mG_1_16 (gG_c mG_9_14 gG_G)) rfl rfl rfl hd_X2_hasAll ⟨Nat.le_of_ble_eq_true rfl, Nat.le_of_ble_eq_true rfl⟩) (pPcV (ci := 6) (q0 := 1) hK hP rfl rfl) rfl rfl hl.1 rfl (lv_room (Nat.le_of_ble_eq_true rfl)) dX5_cross_7 ⟨Nat.le_of_ble_eq_true rfl, Nat.le_of_ble_eq_true rfl⟩) hP hS (fun H hP hS => ?_)
  refine lv_if_eq (tgt := 25) hx hb dX5_cross_10 (by decide) (fun c1 => ?_) (fun c1 => ?_)
  · skip
    refine lv_bipush (v := (-2 : Int32)) hx hb dX5_cross_25 (by decide) ?_
    exact rp_i hQ hx hb hr hlk hS (Eq.symm (by simp only [f_X5_cross, if_pos c1])) dX5_cross_27
  · skip
    obtain ⟨hi1, hi2, hi3⟩ := in_hasAll hv0 c1
    refine lv_aload_n hx hb dX5_cross_13 rfl (lv_at hl 0 rfl) ?_
    refine va_get (D := (dC, dI)) (ci := 9) (v := .ref (a 1)) (C := RX5) (T := TX5) (N := 5) hx hb hts (fun _ h => gI_wsX50 h) hown hK.1 hP 0 rfl rfl 0 (by decide) (hts _ mG_1_17) (fun _ h9 => h9) rfl dX5_cross_14 ?_
    refine lv_iload hx hb dX5_cross_17 (lv_at hl 4 rfl) ?_
    refine cp_i (va_runV (As := [.int p4]) (rest := []) ⟨hx, hb, hml, hown, hts⟩ (c_X2_has l dC dI a cI cJ xs ys pl kp lp lq lr v0 v1 v2 v3 v4 v5 v6 v7 v8 v9 v10 p4 ) (cwV 1 hts (gG_V mG_7_13 mG_7_14 mG_7_15 mG_1_16 (gG_c mG_7_16 gG_G)) rfl rfl rfl hd_X2_has ⟨Nat.le_of_ble_eq_true rfl, Nat.le_of_ble_eq_true rfl⟩) (pPcV (ci := 6) (q0 := 1) hK hP rfl rfl) rfl rfl hl.1 rfl (lv_room (Nat.le_of_ble_eq_true rfl)) dX5_cross_19 ⟨Nat.le_of_ble_eq_true rfl, Nat.le_of_ble_eq_true rfl⟩) hP hS (fun H hP hS => ?_)
    refine lv_if_ne (tgt := 28) hx hb dX5_cross_22 (by decide) (fun c2 => ?_) (fun c2 => ?_)
    · skip
      have hi4 : vp_in p4 60 := in_has hv0 c2
      refine lv_aload_n hx hb dX5_cross_28 rfl (lv_at hl 0 rfl) ?_
      refine va_get (D := (dC, dI)) (ci := 9) (v := .ref (a 5)) (C := RX5) (T := TX5) (N := 5) hx hb hts (fun _ h => gI_wsX50 h) hown hK.1 hP 0 rfl rfl 2 (by decide) (hts _ mG_2_1) (fun _ h9 => h9) rfl dX5_cross_29 ?_
      refine lv_iload_n hx hb dX5_cross_32 rfl (lv_at hl 1 rfl) ?_
      refine lv_iload_n hx hb dX5_cross_33 rfl (lv_at hl 2 rfl) ?_
      refine lv_iload_n hx hb dX5_cross_34 rfl (lv_at hl 3 rfl) ?_
      refine lv_iload hx hb dX5_cross_35 (lv_at hl 4 rfl) ?_
      refine cp_i (va_runV (As := [.int p1, .int p2, .int p3, .int p4]) (rest := []) ⟨hx, hb, hml, hown, hts⟩ (c_X0_crossing l dC dI a cI cJ xs ys pl kp lp lq lr v0 v1 v2 v3 v4 v5 v6 v7 v8 v9 v10 p1 p2 p3 p4 (by first | with_reducible assumption | exact in0_24 | exact in0_60 | decide) (by first | with_reducible assumption | exact in0_24 | exact in0_60 | decide) (by first | with_reducible assumption | exact in0_24 | exact in0_60 | decide) (by first | with_reducible assumption | exact in0_24 | exact in0_60 | decide)) (cwV 4 hts (gG_V mG_18_5 mG_18_6 mG_18_7 mG_2_0 (gG_c mG_18_8 gG_G)) rfl rfl rfl hd_X0_crossing ⟨Nat.le_of_ble_eq_true rfl, Nat.le_of_ble_eq_true rfl⟩) (pPcV (ci := 4) (q0 := 5) hK hP rfl rfl) rfl rfl hl.1 rfl (lv_room (Nat.le_of_ble_eq_true rfl)) dX5_cross_37 ⟨Nat.le_of_ble_eq_true rfl, Nat.le_of_ble_eq_true rfl⟩) hP hS (fun H hP hS => ?_)
      exact rp_i hQ hx hb hr hlk hS (Eq.symm (by simp only [f_X5_cross, if_neg c1, if_neg c2])) dX5_cross_40
    · skip
      refine lv_bipush (v := (-2 : Int32)) hx hb dX5_cross_25 (by decide) ?_
      exact rp_i hQ hx hb hr hlk hS (Eq.symm (by simp only [f_X5_cross, if_neg c1, if_pos c2])) dX5_cross_27
/-! X5_separated -/
theorem hs_X5_separated : yX5_separated.cls ≠ "java/lang/invoke/MethodHandle" ∧ yX5_separated.cls ≠ "java/lang/invoke/VarHandle" ∧ (parseMethodDescriptor yX5_separated.desc).map (fun d => d.parameters.length) = some 4 := by decide +kernel
theorem hd_X5_separated : yX5_separated.cls = RX5 ∧ yX5_separated.cls ≠ "java/lang/invoke/MethodHandle" ∧ yX5_separated.cls ≠ "java/lang/invoke/VarHandle" ∧ (parseMethodDescriptor yX5_separated.desc).map (fun d => d.parameters.length) = some 4 := ⟨rfl, hs_X5_separated⟩
def f_X5_separated (xs : Nat → Int32) (ys : Nat → Int32) (v0 : Int32) (p1 : Int32) (p2 : Int32) (p3 : Int32) (p4 : Int32) : Int32 := (if (f_X2_hasAll v0 p1 p2 p3) = 0 then (-2 : Int32) else (if (f_X2_has v0 p4) = 0 then (-2 : Int32) else (f_X0_separation xs ys p1 p2 p3 p4)))
abbrev rm_X5_separated : Room := { frames := 5, cells := 0, slots := 0, locals := 135 }
set_option maxHeartbeats 8000000 in
set_option maxRecDepth 100000 in
theorem c_X5_separated (l : Launch) (dC : Nat → ClassId) (dI : Nat → Nat → Nat) (a : Nat → Nat) (cI cJ : ClassId) (xs : Nat → Int32) (ys : Nat → Int32) (pl : Nat → Int32) (kp : Nat → Int32) (lp : Nat → Int64) (lq : Nat → Int64) (lr : Nat → Int64) (v0 : Int32) (v1 : Int32) (v2 : Int32) (v3 : Int32) (v4 : Int32) (v5 : Int32) (v6 : Int32) (v7 : Int32) (v8 : Int32) (v9 : Int32) (v10 : Int32) (p1 : Int32) (p2 : Int32) (p3 : Int32) (p4 : Int32) (hv0 : v0 ≤ 60) : Met l yX5_separated (Cond.code yX5_separated cX5_separated 5 (some .int) :: lw_G) rm_X5_separated (pPc (dC, dI) (tIJ cI cJ) (wC a cI cJ xs ys pl kp lp lq lr v0 v1 v2 v3 v4 v5 v6 v7 v8 v9 v10) [.ref (a 0), .int p1, .int p2, .int p3, .int p4]) (pQi (f_X5_separated xs ys v0 p1 p2 p3 p4)) 0 0 pNo := by
  refine pm_of (by decide) (Nat.le_of_ble_eq_true rfl) ?_
  intro p e s m args below meth c Q ls hQ hx hb hr hlk hml hown hts hP hK hS hl
  have hown : s.vm.findClass RX5 = some m.cls := hown
  have hl : lv_has ls 5 [(0, .ref (a 0)), (1, .int p1), (2, .int p2), (3, .int p3), (4, .int p4)] := hl
  refine lv_aload_n hx hb dX5_separated_0 rfl (lv_at hl 0 rfl) ?_
  refine va_get (D := (dC, dI)) (ci := 9) (v := .ref (a 1)) (C := RX5) (T := TX5) (N := 5) hx hb hts (fun _ h => gI_wsX50 h) hown hK.1 hP 0 rfl rfl 0 (by decide) (hts _ mG_1_17) (fun _ h9 => h9) rfl dX5_separated_1 ?_
  refine lv_iload_n hx hb dX5_separated_4 rfl (lv_at hl 1 rfl) ?_
  refine lv_iload_n hx hb dX5_separated_5 rfl (lv_at hl 2 rfl) ?_
  refine lv_iload_n hx hb dX5_separated_6 rfl (lv_at hl 3 rfl) ?_
  refine cp_i (va_runV (As := [.int p1, .int p2, .int p3]) (rest := []) ⟨hx, hb, hml, hown, hts⟩ (c_X2_hasAll l dC dI a cI cJ xs ys pl kp lp lq lr v0 v1 v2 v3 v4 v5 v6 v7 v8 v9 v10 p1 p2 p3 ) (cwV 3 hts (gG_V mG_9_11 mG_9_12 mG_9_13 mG_1_16 (gG_c mG_9_14 gG_G)) rfl rfl rfl hd_X2_hasAll ⟨Nat.le_of_ble_eq_true rfl, Nat.le_of_ble_eq_true rfl⟩) (pPcV (ci := 6) (q0 := 1) hK hP rfl rfl) rfl rfl hl.1 rfl (lv_room (Nat.le_of_ble_eq_true rfl)) dX5_separated_7 ⟨Nat.le_of_ble_eq_true rfl, Nat.le_of_ble_eq_true rfl⟩) hP hS (fun H hP hS => ?_)
  refine lv_if_eq (tgt := 25) hx hb dX5_separated_10 (by decide) (fun c1 => ?_) (fun c1 => ?_)
  · skip
    refine lv_bipush (v := (-2 : Int32)) hx hb dX5_separated_25 (by decide) ?_
    exact rp_i hQ hx hb hr hlk hS (Eq.symm (by simp only [f_X5_separated, if_pos c1])) dX5_separated_27
  · skip
    obtain ⟨hi1, hi2, hi3⟩ := in_hasAll hv0 c1
    refine lv_aload_n hx hb dX5_separated_13 rfl (lv_at hl 0 rfl) ?_
    refine va_get (D := (dC, dI)) (ci := 9) (v := .ref (a 1)) (C := RX5) (T := TX5) (N := 5) hx hb hts (fun _ h => gI_wsX50 h) hown hK.1 hP 0 rfl rfl 0 (by decide) (hts _ mG_1_17) (fun _ h9 => h9) rfl dX5_separated_14 ?_
    refine lv_iload hx hb dX5_separated_17 (lv_at hl 4 rfl) ?_
    refine cp_i (va_runV (As := [.int p4]) (rest := []) ⟨hx, hb, hml, hown, hts⟩ (c_X2_has l dC dI a cI cJ xs ys pl kp lp lq lr v0 v1 v2 v3 v4 v5 v6 v7 v8 v9 v10 p4 ) (cwV 1 hts (gG_V mG_7_13 mG_7_14 mG_7_15 mG_1_16 (gG_c mG_7_16 gG_G)) rfl rfl rfl hd_X2_has ⟨Nat.le_of_ble_eq_true rfl, Nat.le_of_ble_eq_true rfl⟩) (pPcV (ci := 6) (q0 := 1) hK hP rfl rfl) rfl rfl hl.1 rfl (lv_room (Nat.le_of_ble_eq_true rfl)) dX5_separated_19 ⟨Nat.le_of_ble_eq_true rfl, Nat.le_of_ble_eq_true rfl⟩) hP hS (fun H hP hS => ?_)
    refine lv_if_ne (tgt := 28) hx hb dX5_separated_22 (by decide) (fun c2 => ?_) (fun c2 => ?_)
    · skip
      have hi4 : vp_in p4 60 := in_has hv0 c2
      refine lv_aload_n hx hb dX5_separated_28 rfl (lv_at hl 0 rfl) ?_
      refine va_get (D := (dC, dI)) (ci := 9) (v := .ref (a 5)) (C := RX5) (T := TX5) (N := 5) hx hb hts (fun _ h => gI_wsX50 h) hown hK.1 hP 0 rfl rfl 2 (by decide) (hts _ mG_2_1) (fun _ h9 => h9) rfl dX5_separated_29 ?_
      refine lv_iload_n hx hb dX5_separated_32 rfl (lv_at hl 1 rfl) ?_
      refine lv_iload_n hx hb dX5_separated_33 rfl (lv_at hl 2 rfl) ?_
      refine lv_iload_n hx hb dX5_separated_34 rfl (lv_at hl 3 rfl) ?_
      refine lv_iload hx hb dX5_separated_35 (lv_at hl 4 rfl) ?_
      refine cp_i (va_runV (As := [.int p1, .int p2, .int p3, .int p4]) (rest := []) ⟨hx, hb, hml, hown, hts⟩ (c_X0_separation l dC dI a cI cJ xs ys pl kp lp lq lr v0 v1 v2 v3 v4 v5 v6 v7 v8 v9 v10 p1 p2 p3 p4 (by first | with_reducible assumption | exact in0_24 | exact in0_60 | decide) (by first | with_reducible assumption | exact in0_24 | exact in0_60 | decide) (by first | with_reducible assumption | exact in0_24 | exact in0_60 | decide) (by first | with_reducible assumption | exact in0_24 | exact in0_60 | decide)) (cwV 4 hts (gG_V mG_19_10 mG_19_11 mG_19_12 mG_2_0 (gG_c mG_19_13 gG_G)) rfl rfl rfl hd_X0_separation ⟨Nat.le_of_ble_eq_true rfl, Nat.le_of_ble_eq_true rfl⟩) (pPcV (ci := 4) (q0 := 5) hK hP rfl rfl) rfl rfl hl.1 rfl (lv_room (Nat.le_of_ble_eq_true rfl)) dX5_separated_37 ⟨Nat.le_of_ble_eq_true rfl, Nat.le_of_ble_eq_true rfl⟩) hP hS (fun H hP hS => ?_)
      exact rp_i hQ hx hb hr hlk hS (Eq.symm (by simp only [f_X5_separated, if_neg c1, if_neg c2])) dX5_separated_40
    · skip
      refine lv_bipush (v := (-2 : Int32)) hx hb dX5_separated_25 (by decide) ?_
      exact rp_i hQ hx hb hr hlk hS (Eq.symm (by simp only [f_X5_separated, if_neg c1, if_pos c2])) dX5_separated_27
/-! X5_filter -/
theorem hs_X5_filter : yX5_filter.cls ≠ "java/lang/invoke/MethodHandle" ∧ yX5_filter.cls ≠ "java/lang/invoke/VarHandle" ∧ (parseMethodDescriptor yX5_filter.desc).map (fun d => d.parameters.length) = some 1 := by decide +kernel
theorem hd_X5_filter : yX5_filter.cls = RX5 ∧ yX5_filter.cls ≠ "java/lang/invoke/MethodHandle" ∧ yX5_filter.cls ≠ "java/lang/invoke/VarHandle" ∧ (parseMethodDescriptor yX5_filter.desc).map (fun d => d.parameters.length) = some 1 := ⟨rfl, hs_X5_filter⟩
def f_X5_filter (v1 : Int32) (p1 : Int32) : Int32 × Int32 := (if v1 = 0 then ((0 : Int32), p1) else ((1 : Int32), p1))
abbrev rm_X5_filter : Room := { frames := 0, cells := 0, slots := 0, locals := 0 }
set_option maxHeartbeats 8000000 in
set_option maxRecDepth 100000 in
theorem c_X5_filter (l : Launch) (dC : Nat → ClassId) (dI : Nat → Nat → Nat) (a : Nat → Nat) (cI cJ : ClassId) (xs : Nat → Int32) (ys : Nat → Int32) (pl : Nat → Int32) (kp : Nat → Int32) (lp : Nat → Int64) (lq : Nat → Int64) (lr : Nat → Int64) (v0 : Int32) (v1 : Int32) (v2 : Int32) (v3 : Int32) (v4 : Int32) (v5 : Int32) (v6 : Int32) (v7 : Int32) (v8 : Int32) (v9 : Int32) (v10 : Int32) (p1 : Int32) (hz : p1 = 0 ∨ p1 = 1) : Met l yX5_filter (Cond.code yX5_filter cX5_filter 3 (some .int) :: lw_G) rm_X5_filter (wPc (dC, dI) (tIJ cI cJ) (wC a cI cJ xs ys pl kp lp lq lr v0 v1 v2 v3 v4 v5 v6 v7 v8 v9 v10) [.ref (a 0), .int p1]) (wQi (dC, dI) (wA (wC a cI cJ xs ys pl kp lp lq lr v0 v1 v2 v3 v4 v5 v6 v7 v8 v9 v10)) (wC a cI cJ xs ys pl kp lp lq lr v0 ((f_X5_filter v1 p1).2) v2 v3 v4 v5 v6 v7 v8 v9 v10) (f_X5_filter v1 p1).1) 0 0 (wA (wC a cI cJ xs ys pl kp lp lq lr v0 v1 v2 v3 v4 v5 v6 v7 v8 v9 v10)) := by
  refine wm_of (by decide) (Nat.le_of_ble_eq_true rfl) ?_
  intro p e s m args below meth c Q ls hQ hx hb hr hlk hml hown hts hP hK hD hS hl
  have hown : s.vm.findClass RX5 = some m.cls := hown
  have hl : lv_has ls 3 [(0, .ref (a 0)), (1, .int p1)] := hl
  generalize hAe : wA (wC a cI cJ xs ys pl kp lp lq lr v0 v1 v2 v3 v4 v5 v6 v7 v8 v9 v10) = A at hQ hD hS
  refine lv_aload_n hx hb dX5_filter_0 rfl (lv_at hl 0 rfl) ?_
  refine va_get (D := (dC, dI)) (ci := 9) (v := .ref (a 4)) (C := RX5) (T := TX5) (N := 5) hx hb hts (fun _ h => gI_wsX50 h) hown hK.1 hP 0 rfl rfl 1 (by decide) (hts _ mG_1_21) (fun _ h9 => h9) rfl dX5_filter_1 ?_
  refine va_get (D := (dC, dI)) (ci := 7) (v := .int v1) (C := RX3) (T := TX3) (N := 5) hx hb hts (fun _ h => gI_wsX30 h) hown hK.1 hP 4 rfl rfl 1 (by decide) (hts _ mG_15_1) (fun _ h9 => h9) rfl dX5_filter_4 ?_
  refine lv_if_eq (tgt := 14) hx hb dX5_filter_7 (by decide) (fun c1 => ?_) (fun c1 => ?_)
  · skip
    refine lv_iconst (v := (0 : Int32)) hx hb dX5_filter_14 (by decide) ?_
    refine lv_istore_n (lv' := [(2, .int (0 : Int32)), (0, .ref (a 0)), (1, .int p1)]) hx hb dX5_filter_15 rfl hl (by decide) rfl (fun ls hl => ?_)
    refine lv_aload_n hx hb dX5_filter_16 rfl (lv_at hl 1 rfl) ?_
    refine va_get (D := (dC, dI)) (ci := 9) (v := .ref (a 4)) (C := RX5) (T := TX5) (N := 5) hx hb hts (fun _ h => gI_wsX50 h) hown hK.1 hP 0 rfl rfl 1 (by decide) (hts _ mG_1_21) (fun _ h9 => h9) rfl dX5_filter_17 ?_
    refine lv_iload_n hx hb dX5_filter_20 rfl (lv_at hl 2 rfl) ?_
    refine va_put (D := (dC, dI)) (ci := 7) (v := .int p1) (ty := .boolean) (C := RX3) (T := TX3) (N := 5) hx hb hts (fun _ h => gI_wsX30 h) tyX3 tyX3_ok nmX3 hown hK.1 hP hD hS 4 rfl rfl 1 (by decide) (hts _ mG_15_1) (fun _ h9 => h9) rfl (by decide +kernel) (nz hz) (fz hz) (Nat.le_of_ble_eq_true rfl) dX5_filter_21 (fun H locs hP hD hS => ?_)
    have hP : va_P (dC, dI) vwCl (wC a cI cJ xs ys pl kp lp lq lr v0 p1 v2 v3 v4 v5 v6 v7 v8 v9 v10) H := hP
    have hD : va_D A (wC a cI cJ xs ys pl kp lp lq lr v0 p1 v2 v3 v4 v5 v6 v7 v8 v9 v10) := hD
    refine lv_iload_n hx hb dX5_filter_24 rfl (lv_at hl 0 rfl) ?_
    have hE : (f_X5_filter v1 p1) = ((0 : Int32), p1) := (by simp only [f_X5_filter, if_pos c1])
    exact rw_i hQ hx hb hr hlk (by rw [hE]; exact hP) hS (by rw [hE]) dX5_filter_25
  · skip
    refine lv_iconst (v := (1 : Int32)) hx hb dX5_filter_10 (by decide) ?_
    refine lv_goto (tgt := 15) hx hb dX5_filter_11 (by decide) ?_
    refine lv_istore_n (lv' := [(2, .int (1 : Int32)), (0, .ref (a 0)), (1, .int p1)]) hx hb dX5_filter_15 rfl hl (by decide) rfl (fun ls hl => ?_)
    refine lv_aload_n hx hb dX5_filter_16 rfl (lv_at hl 1 rfl) ?_
    refine va_get (D := (dC, dI)) (ci := 9) (v := .ref (a 4)) (C := RX5) (T := TX5) (N := 5) hx hb hts (fun _ h => gI_wsX50 h) hown hK.1 hP 0 rfl rfl 1 (by decide) (hts _ mG_1_21) (fun _ h9 => h9) rfl dX5_filter_17 ?_
    refine lv_iload_n hx hb dX5_filter_20 rfl (lv_at hl 2 rfl) ?_
    refine va_put (D := (dC, dI)) (ci := 7) (v := .int p1) (ty := .boolean) (C := RX3) (T := TX3) (N := 5) hx hb hts (fun _ h => gI_wsX30 h) tyX3 tyX3_ok nmX3 hown hK.1 hP hD hS 4 rfl rfl 1 (by decide) (hts _ mG_15_1) (fun _ h9 => h9) rfl (by decide +kernel) (nz hz) (fz hz) (Nat.le_of_ble_eq_true rfl) dX5_filter_21 (fun H locs hP hD hS => ?_)
    have hP : va_P (dC, dI) vwCl (wC a cI cJ xs ys pl kp lp lq lr v0 p1 v2 v3 v4 v5 v6 v7 v8 v9 v10) H := hP
    have hD : va_D A (wC a cI cJ xs ys pl kp lp lq lr v0 p1 v2 v3 v4 v5 v6 v7 v8 v9 v10) := hD
    refine lv_iload_n hx hb dX5_filter_24 rfl (lv_at hl 0 rfl) ?_
    have hE : (f_X5_filter v1 p1) = ((1 : Int32), p1) := (by simp only [f_X5_filter, if_neg c1])
    exact rw_i hQ hx hb hr hlk (by rw [hE]; exact hP) hS (by rw [hE]) dX5_filter_25
/-! X5_decided -/
theorem hs_X5_decided : yX5_decided.cls ≠ "java/lang/invoke/MethodHandle" ∧ yX5_decided.cls ≠ "java/lang/invoke/VarHandle" ∧ (parseMethodDescriptor yX5_decided.desc).map (fun d => d.parameters.length) = some 1 := by decide +kernel
theorem hd_X5_decided : yX5_decided.cls = RX5 ∧ yX5_decided.cls ≠ "java/lang/invoke/MethodHandle" ∧ yX5_decided.cls ≠ "java/lang/invoke/VarHandle" ∧ (parseMethodDescriptor yX5_decided.desc).map (fun d => d.parameters.length) = some 1 := ⟨rfl, hs_X5_decided⟩
def f_X5_decided (v2 : Int32) (v3 : Int32) (v4 : Int32) (p1 : Int32) : Int32 := (if p1 = 0 then v2 else (if p1 = 1 then v3 else (if p1 = 2 then v4 else (-2 : Int32))))
abbrev rm_X5_decided : Room := { frames := 0, cells := 0, slots := 0, locals := 0 }
set_option maxHeartbeats 8000000 in
set_option maxRecDepth 100000 in
theorem c_X5_decided (l : Launch) (dC : Nat → ClassId) (dI : Nat → Nat → Nat) (a : Nat → Nat) (cI cJ : ClassId) (xs : Nat → Int32) (ys : Nat → Int32) (pl : Nat → Int32) (kp : Nat → Int32) (lp : Nat → Int64) (lq : Nat → Int64) (lr : Nat → Int64) (v0 : Int32) (v1 : Int32) (v2 : Int32) (v3 : Int32) (v4 : Int32) (v5 : Int32) (v6 : Int32) (v7 : Int32) (v8 : Int32) (v9 : Int32) (v10 : Int32) (p1 : Int32) : Met l yX5_decided (Cond.code yX5_decided cX5_decided 2 (some .int) :: lw_G) rm_X5_decided (pPc (dC, dI) (tIJ cI cJ) (wC a cI cJ xs ys pl kp lp lq lr v0 v1 v2 v3 v4 v5 v6 v7 v8 v9 v10) [.ref (a 0), .int p1]) (pQi (f_X5_decided v2 v3 v4 p1)) 0 0 pNo := by
  refine pm_of (by decide) (Nat.le_of_ble_eq_true rfl) ?_
  intro p e s m args below meth c Q ls hQ hx hb hr hlk hml hown hts hP hK hS hl
  have hown : s.vm.findClass RX5 = some m.cls := hown
  have hl : lv_has ls 2 [(0, .ref (a 0)), (1, .int p1)] := hl
  refine lv_iload_n hx hb dX5_decided_0 rfl (lv_at hl 1 rfl) ?_
  by_cases c1 : p1 = 0
  · refine lv_tableIn (off := 27) (tgt := 28) hx hb dX5_decided_1 (by rw [c1]; decide) (by rw [c1]; decide) (by rw [c1]; rfl) (by decide) ?_
    refine lv_aload_n hx hb dX5_decided_28 rfl (lv_at hl 0 rfl) ?_
    refine va_get (D := (dC, dI)) (ci := 9) (v := .ref (a 4)) (C := RX5) (T := TX5) (N := 5) hx hb hts (fun _ h => gI_wsX50 h) hown hK.1 hP 0 rfl rfl 1 (by decide) (hts _ mG_1_21) (fun _ h9 => h9) rfl dX5_decided_29 ?_
    refine va_get (D := (dC, dI)) (ci := 7) (v := .int v2) (C := RX3) (T := TX3) (N := 5) hx hb hts (fun _ h => gI_wsX30 h) hown hK.1 hP 4 rfl rfl 2 (by decide) (hts _ mG_15_10) (fun _ h9 => h9) rfl dX5_decided_32 ?_
    exact rp_i hQ hx hb hr hlk hS (Eq.symm (by simp only [f_X5_decided, if_pos c1])) dX5_decided_35
  by_cases c2 : p1 = 1
  · refine lv_tableIn (off := 35) (tgt := 36) hx hb dX5_decided_1 (by rw [c2]; decide) (by rw [c2]; decide) (by rw [c2]; rfl) (by decide) ?_
    refine lv_aload_n hx hb dX5_decided_36 rfl (lv_at hl 0 rfl) ?_
    refine va_get (D := (dC, dI)) (ci := 9) (v := .ref (a 4)) (C := RX5) (T := TX5) (N := 5) hx hb hts (fun _ h => gI_wsX50 h) hown hK.1 hP 0 rfl rfl 1 (by decide) (hts _ mG_1_21) (fun _ h9 => h9) rfl dX5_decided_37 ?_
    refine va_get (D := (dC, dI)) (ci := 7) (v := .int v3) (C := RX3) (T := TX3) (N := 5) hx hb hts (fun _ h => gI_wsX30 h) hown hK.1 hP 4 rfl rfl 3 (by decide) (hts _ mG_15_11) (fun _ h9 => h9) rfl dX5_decided_40 ?_
    exact rp_i hQ hx hb hr hlk hS (Eq.symm (by simp only [f_X5_decided, if_neg c1, if_pos c2])) dX5_decided_43
  by_cases c3 : p1 = 2
  · refine lv_tableIn (off := 43) (tgt := 44) hx hb dX5_decided_1 (by rw [c3]; decide) (by rw [c3]; decide) (by rw [c3]; rfl) (by decide) ?_
    refine lv_aload_n hx hb dX5_decided_44 rfl (lv_at hl 0 rfl) ?_
    refine va_get (D := (dC, dI)) (ci := 9) (v := .ref (a 4)) (C := RX5) (T := TX5) (N := 5) hx hb hts (fun _ h => gI_wsX50 h) hown hK.1 hP 0 rfl rfl 1 (by decide) (hts _ mG_1_21) (fun _ h9 => h9) rfl dX5_decided_45 ?_
    refine va_get (D := (dC, dI)) (ci := 7) (v := .int v4) (C := RX3) (T := TX3) (N := 5) hx hb hts (fun _ h => gI_wsX30 h) hown hK.1 hP 4 rfl rfl 4 (by decide) (hts _ mG_15_12) (fun _ h9 => h9) rfl dX5_decided_48 ?_
    exact rp_i hQ hx hb hr hlk hS (Eq.symm (by simp only [f_X5_decided, if_neg c1, if_neg c2, if_pos c3])) dX5_decided_51
  refine lv_tableOut (tgt := 52) hx hb dX5_decided_1 (sw_2 c1 c2 c3) (by decide) ?_
  refine lv_bipush (v := (-2 : Int32)) hx hb dX5_decided_52 (by decide) ?_
  exact rp_i hQ hx hb hr hlk hS (Eq.symm (by simp only [f_X5_decided, if_neg c1, if_neg c2, if_neg c3])) dX5_decided_54
/-! X5_count -/
theorem hs_X5_count : yX5_count.cls ≠ "java/lang/invoke/MethodHandle" ∧ yX5_count.cls ≠ "java/lang/invoke/VarHandle" ∧ (parseMethodDescriptor yX5_count.desc).map (fun d => d.parameters.length) = some 1 := by decide +kernel
theorem hd_X5_count : yX5_count.cls = RX5 ∧ yX5_count.cls ≠ "java/lang/invoke/MethodHandle" ∧ yX5_count.cls ≠ "java/lang/invoke/VarHandle" ∧ (parseMethodDescriptor yX5_count.desc).map (fun d => d.parameters.length) = some 1 := ⟨rfl, hs_X5_count⟩
def f_X5_count (v0 : Int32) (v1 : Int32) (v5 : Int32) (v6 : Int32) (p1 : Int32) : Int32 := (if p1 = 0 then v0 else (if p1 = 1 then v5 else (if p1 = 2 then v6 else (if p1 = 3 then (if v1 = 0 then (0 : Int32) else (1 : Int32)) else (-2 : Int32)))))
abbrev rm_X5_count : Room := { frames := 0, cells := 0, slots := 0, locals := 0 }
set_option maxHeartbeats 8000000 in
set_option maxRecDepth 100000 in
theorem c_X5_count (l : Launch) (dC : Nat → ClassId) (dI : Nat → Nat → Nat) (a : Nat → Nat) (cI cJ : ClassId) (xs : Nat → Int32) (ys : Nat → Int32) (pl : Nat → Int32) (kp : Nat → Int32) (lp : Nat → Int64) (lq : Nat → Int64) (lr : Nat → Int64) (v0 : Int32) (v1 : Int32) (v2 : Int32) (v3 : Int32) (v4 : Int32) (v5 : Int32) (v6 : Int32) (v7 : Int32) (v8 : Int32) (v9 : Int32) (v10 : Int32) (p1 : Int32) : Met l yX5_count (Cond.code yX5_count cX5_count 2 (some .int) :: lw_G) rm_X5_count (pPc (dC, dI) (tIJ cI cJ) (wC a cI cJ xs ys pl kp lp lq lr v0 v1 v2 v3 v4 v5 v6 v7 v8 v9 v10) [.ref (a 0), .int p1]) (pQi (f_X5_count v0 v1 v5 v6 p1)) 0 0 pNo := by
  refine pm_of (by decide) (Nat.le_of_ble_eq_true rfl) ?_
  intro p e s m args below meth c Q ls hQ hx hb hr hlk hml hown hts hP hK hS hl
  have hown : s.vm.findClass RX5 = some m.cls := hown
  have hl : lv_has ls 2 [(0, .ref (a 0)), (1, .int p1)] := hl
  refine lv_iload_n hx hb dX5_count_0 rfl (lv_at hl 1 rfl) ?_
  by_cases c1 : p1 = 0
  · refine lv_tableIn (off := 31) (tgt := 32) hx hb dX5_count_1 (by rw [c1]; decide) (by rw [c1]; decide) (by rw [c1]; rfl) (by decide) ?_
    refine lv_aload_n hx hb dX5_count_32 rfl (lv_at hl 0 rfl) ?_
    refine va_get (D := (dC, dI)) (ci := 9) (v := .ref (a 1)) (C := RX5) (T := TX5) (N := 5) hx hb hts (fun _ h => gI_wsX50 h) hown hK.1 hP 0 rfl rfl 0 (by decide) (hts _ mG_1_17) (fun _ h9 => h9) rfl dX5_count_33 ?_
    refine va_get (D := (dC, dI)) (ci := 6) (v := .int v0) (C := RX2) (T := TX2) (N := 3) hx hb hts (fun _ h => gI_wsX20 h) hown hK.1 hP 1 rfl rfl 2 (by decide) (hts _ mG_31_1) (fun _ h9 => h9) rfl dX5_count_36 ?_
    exact rp_i hQ hx hb hr hlk hS (Eq.symm (by simp only [f_X5_count, if_pos c1])) dX5_count_39
  by_cases c2 : p1 = 1
  · refine lv_tableIn (off := 39) (tgt := 40) hx hb dX5_count_1 (by rw [c2]; decide) (by rw [c2]; decide) (by rw [c2]; rfl) (by decide) ?_
    refine lv_aload_n hx hb dX5_count_40 rfl (lv_at hl 0 rfl) ?_
    refine va_get (D := (dC, dI)) (ci := 9) (v := .ref (a 6)) (C := RX5) (T := TX5) (N := 5) hx hb hts (fun _ h => gI_wsX50 h) hown hK.1 hP 0 rfl rfl 3 (by decide) (hts _ mG_2_5) (fun _ h9 => h9) rfl dX5_count_41 ?_
    refine va_get (D := (dC, dI)) (ci := 8) (v := .int v5) (C := RX4) (T := TX4) (N := 3) hx hb hts (fun _ h => gI_wsX40 h) hown hK.1 hP 6 rfl rfl 2 (by decide) (hts _ mG_31_2) (fun _ h9 => h9) rfl dX5_count_44 ?_
    exact rp_i hQ hx hb hr hlk hS (Eq.symm (by simp only [f_X5_count, if_neg c1, if_pos c2])) dX5_count_47
  by_cases c3 : p1 = 2
  · refine lv_tableIn (off := 47) (tgt := 48) hx hb dX5_count_1 (by rw [c3]; decide) (by rw [c3]; decide) (by rw [c3]; rfl) (by decide) ?_
    refine lv_aload_n hx hb dX5_count_48 rfl (lv_at hl 0 rfl) ?_
    refine va_get (D := (dC, dI)) (ci := 9) (v := .ref (a 8)) (C := RX5) (T := TX5) (N := 5) hx hb hts (fun _ h => gI_wsX50 h) hown hK.1 hP 0 rfl rfl 4 (by decide) (hts _ mG_2_9) (fun _ h9 => h9) rfl dX5_count_49 ?_
    refine va_get (D := (dC, dI)) (ci := 5) (v := .int v6) (C := RX1) (T := TX1) (N := 10) hx hb hts (fun _ h => gI_wsX10 h) hown hK.1 hP 8 rfl rfl 4 (by decide) (hts _ mG_28_3) (fun _ h9 => h9) rfl dX5_count_52 ?_
    exact rp_i hQ hx hb hr hlk hS (Eq.symm (by simp only [f_X5_count, if_neg c1, if_neg c2, if_pos c3])) dX5_count_55
  by_cases c4 : p1 = 3
  · refine lv_tableIn (off := 55) (tgt := 56) hx hb dX5_count_1 (by rw [c4]; decide) (by rw [c4]; decide) (by rw [c4]; rfl) (by decide) ?_
    refine lv_aload_n hx hb dX5_count_56 rfl (lv_at hl 0 rfl) ?_
    refine va_get (D := (dC, dI)) (ci := 9) (v := .ref (a 4)) (C := RX5) (T := TX5) (N := 5) hx hb hts (fun _ h => gI_wsX50 h) hown hK.1 hP 0 rfl rfl 1 (by decide) (hts _ mG_1_21) (fun _ h9 => h9) rfl dX5_count_57 ?_
    refine va_get (D := (dC, dI)) (ci := 7) (v := .int v1) (C := RX3) (T := TX3) (N := 5) hx hb hts (fun _ h => gI_wsX30 h) hown hK.1 hP 4 rfl rfl 1 (by decide) (hts _ mG_15_1) (fun _ h9 => h9) rfl dX5_count_60 ?_
    refine lv_if_eq (tgt := 70) hx hb dX5_count_63 (by decide) (fun c5 => ?_) (fun c5 => ?_)
    · skip
      refine lv_iconst (v := (0 : Int32)) hx hb dX5_count_70 (by decide) ?_
      exact rp_i hQ hx hb hr hlk hS (Eq.symm (by simp only [f_X5_count, if_neg c1, if_neg c2, if_neg c3, if_pos c4, if_pos c5])) dX5_count_71
    · skip
      refine lv_iconst (v := (1 : Int32)) hx hb dX5_count_66 (by decide) ?_
      refine lv_goto (tgt := 71) hx hb dX5_count_67 (by decide) ?_
      exact rp_i hQ hx hb hr hlk hS (Eq.symm (by simp only [f_X5_count, if_neg c1, if_neg c2, if_neg c3, if_pos c4, if_neg c5])) dX5_count_71
  refine lv_tableOut (tgt := 72) hx hb dX5_count_1 (sw_3 c1 c2 c3 c4) (by decide) ?_
  refine lv_bipush (v := (-2 : Int32)) hx hb dX5_count_72 (by decide) ?_
  exact rp_i hQ hx hb hr hlk hS (Eq.symm (by simp only [f_X5_count, if_neg c1, if_neg c2, if_neg c3, if_neg c4])) dX5_count_74
/-! X5_convex -/
theorem hs_X5_convex : yX5_convex.cls ≠ "java/lang/invoke/MethodHandle" ∧ yX5_convex.cls ≠ "java/lang/invoke/VarHandle" ∧ (parseMethodDescriptor yX5_convex.desc).map (fun d => d.parameters.length) = some 1 := by decide +kernel
theorem hd_X5_convex : yX5_convex.cls = RX5 ∧ yX5_convex.cls ≠ "java/lang/invoke/MethodHandle" ∧ yX5_convex.cls ≠ "java/lang/invoke/VarHandle" ∧ (parseMethodDescriptor yX5_convex.desc).map (fun d => d.parameters.length) = some 1 := ⟨rfl, hs_X5_convex⟩
def f_X5_convex (xs : Nat → Int32) (ys : Nat → Int32) (pl : Nat → Int32) (v5 : Int32) (p1 : Int32) : Int32 := (if (f_X4_fault pl v5 p1 (3 : Int32)) = 0 then (f_X4_convexity xs ys pl p1) else (f_X4_fault pl v5 p1 (3 : Int32)))
abbrev rm_X5_convex : Room := { frames := 5, cells := 0, slots := 0, locals := 119 }
set_option maxHeartbeats 8000000 in
set_option maxRecDepth 100000 in
theorem c_X5_convex (l : Launch) (dC : Nat → ClassId) (dI : Nat → Nat → Nat) (a : Nat → Nat) (cI cJ : ClassId) (xs : Nat → Int32) (ys : Nat → Int32) (pl : Nat → Int32) (kp : Nat → Int32) (lp : Nat → Int64) (lq : Nat → Int64) (lr : Nat → Int64) (v0 : Int32) (v1 : Int32) (v2 : Int32) (v3 : Int32) (v4 : Int32) (v5 : Int32) (v6 : Int32) (v7 : Int32) (v8 : Int32) (v9 : Int32) (v10 : Int32) (p1 : Int32) (hh : v5 ≤ 24) (hpl : ∀ j : Nat, pl j = -1 ∨ vp_in (pl j) 60) : Met l yX5_convex (Cond.code yX5_convex cX5_convex 3 (some .int) :: lw_G) rm_X5_convex (pPc (dC, dI) (tIJ cI cJ) (wC a cI cJ xs ys pl kp lp lq lr v0 v1 v2 v3 v4 v5 v6 v7 v8 v9 v10) [.ref (a 0), .int p1]) (pQi (f_X5_convex xs ys pl v5 p1)) 0 0 pNo := by
  refine pm_of (by decide) (Nat.le_of_ble_eq_true rfl) ?_
  intro p e s m args below meth c Q ls hQ hx hb hr hlk hml hown hts hP hK hS hl
  have hown : s.vm.findClass RX5 = some m.cls := hown
  have hl : lv_has ls 3 [(0, .ref (a 0)), (1, .int p1)] := hl
  refine lv_aload_n hx hb dX5_convex_0 rfl (lv_at hl 0 rfl) ?_
  refine va_get (D := (dC, dI)) (ci := 9) (v := .ref (a 6)) (C := RX5) (T := TX5) (N := 5) hx hb hts (fun _ h => gI_wsX50 h) hown hK.1 hP 0 rfl rfl 3 (by decide) (hts _ mG_2_5) (fun _ h9 => h9) rfl dX5_convex_1 ?_
  refine lv_iload_n hx hb dX5_convex_4 rfl (lv_at hl 1 rfl) ?_
  refine lv_iconst (v := (3 : Int32)) hx hb dX5_convex_5 (by decide) ?_
  refine cp_i (va_runV (As := [.int p1, .int (3 : Int32)]) (rest := []) ⟨hx, hb, hml, hown, hts⟩ (c_X4_fault l dC dI a cI cJ xs ys pl kp lp lq lr v0 v1 v2 v3 v4 v5 v6 v7 v8 v9 v10 p1 (3 : Int32) (by first | with_reducible assumption | exact in0_24 | exact in0_60 | decide)) (cwV 2 hts (gG_V mG_20_3 mG_20_4 mG_20_5 mG_2_4 (gG_c mG_20_6 gG_G)) rfl rfl rfl hd_X4_fault ⟨Nat.le_of_ble_eq_true rfl, Nat.le_of_ble_eq_true rfl⟩) (pPcV (ci := 8) (q0 := 6) hK hP rfl rfl) rfl rfl hl.1 rfl (lv_room (Nat.le_of_ble_eq_true rfl)) dX5_convex_6 ⟨Nat.le_of_ble_eq_true rfl, Nat.le_of_ble_eq_true rfl⟩) hP hS (fun H hP hS => ?_)
  refine lv_topi (fun y1 ey1 => ?_)
  refine lv_istore_n (lv' := [(2, .int y1), (0, .ref (a 0)), (1, .int p1)]) hx hb dX5_convex_9 rfl hl (by decide) rfl (fun ls hl => ?_)
  refine lv_iload_n hx hb dX5_convex_10 rfl (lv_at hl 0 rfl) ?_
  refine lv_if_ne (tgt := 25) hx hb dX5_convex_11 (by decide) (fun c2 => ?_) (fun c2 => ?_)
  · skip
    refine lv_iload_n hx hb dX5_convex_25 rfl (lv_at hl 0 rfl) ?_
    exact rp_i hQ hx hb hr hlk hS (Eq.symm (by subst ey1; simp only [f_X5_convex, if_neg c2])) dX5_convex_26
  · skip
    obtain ⟨h3, hn, hv⟩ := ff_spec hh hpl (by rw [← ey1]; exact c2)
    refine lv_aload_n hx hb dX5_convex_14 rfl (lv_at hl 1 rfl) ?_
    refine va_get (D := (dC, dI)) (ci := 9) (v := .ref (a 6)) (C := RX5) (T := TX5) (N := 5) hx hb hts (fun _ h => gI_wsX50 h) hown hK.1 hP 0 rfl rfl 3 (by decide) (hts _ mG_2_5) (fun _ h9 => h9) rfl dX5_convex_15 ?_
    refine lv_iload_n hx hb dX5_convex_18 rfl (lv_at hl 2 rfl) ?_
    refine cp_i (va_runV (As := [.int p1]) (rest := []) ⟨hx, hb, hml, hown, hts⟩ (c_X4_convexity l dC dI a cI cJ xs ys pl kp lp lq lr v0 v1 v2 v3 v4 v5 v6 v7 v8 v9 v10 p1 (by first | with_reducible assumption | exact in0_24 | exact in0_60 | decide) (by first | with_reducible assumption | exact in0_24 | exact in0_60 | decide) (by first | with_reducible assumption | exact in0_24 | exact in0_60 | decide)) (cwV 1 hts (gG_V mG_20_7 mG_20_8 mG_20_9 mG_2_4 (gG_c mG_20_10 gG_G)) rfl rfl rfl hd_X4_convexity ⟨Nat.le_of_ble_eq_true rfl, Nat.le_of_ble_eq_true rfl⟩) (pPcV (ci := 8) (q0 := 6) hK hP rfl rfl) rfl rfl hl.1 rfl (lv_room (Nat.le_of_ble_eq_true rfl)) dX5_convex_19 ⟨Nat.le_of_ble_eq_true rfl, Nat.le_of_ble_eq_true rfl⟩) hP hS (fun H hP hS => ?_)
    refine lv_goto (tgt := 26) hx hb dX5_convex_22 (by decide) ?_
    exact rp_i hQ hx hb hr hlk hS (Eq.symm (by subst ey1; simp only [f_X5_convex, if_pos c2])) dX5_convex_26
/-! X5_polygon -/
theorem hs_X5_polygon : yX5_polygon.cls ≠ "java/lang/invoke/MethodHandle" ∧ yX5_polygon.cls ≠ "java/lang/invoke/VarHandle" ∧ (parseMethodDescriptor yX5_polygon.desc).map (fun d => d.parameters.length) = some 2 := by decide +kernel
theorem hd_X5_polygon : yX5_polygon.cls = RX5 ∧ yX5_polygon.cls ≠ "java/lang/invoke/MethodHandle" ∧ yX5_polygon.cls ≠ "java/lang/invoke/VarHandle" ∧ (parseMethodDescriptor yX5_polygon.desc).map (fun d => d.parameters.length) = some 2 := ⟨rfl, hs_X5_polygon⟩
def f_X5_polygon (xs : Nat → Int32) (ys : Nat → Int32) (pl : Nat → Int32) (v0 : Int32) (v5 : Int32) (p1 : Int32) (p2 : Int32) : Int32 := (if (f_X2_has v0 p2) = 0 then (-2 : Int32) else (if (f_X4_fault pl v5 p1 (1 : Int32)) = 0 then (if (f_X4_anyEdgeHolds xs ys pl p1 p2) = 0 then (((f_X4_risesAt xs ys pl p1 p2) + (f_X4_fallsAt xs ys pl p1 p2)) - ((f_X4_risesAt xs ys pl p1 p2) + (f_X4_fallsAt xs ys pl p1 p2)) / (2 : Int32) * (2 : Int32)) else (2 : Int32)) else (f_X4_fault pl v5 p1 (1 : Int32))))
abbrev rm_X5_polygon : Room := { frames := 5, cells := 0, slots := 0, locals := 119 }
set_option maxHeartbeats 8000000 in
set_option maxRecDepth 100000 in
theorem c_X5_polygon (l : Launch) (dC : Nat → ClassId) (dI : Nat → Nat → Nat) (a : Nat → Nat) (cI cJ : ClassId) (xs : Nat → Int32) (ys : Nat → Int32) (pl : Nat → Int32) (kp : Nat → Int32) (lp : Nat → Int64) (lq : Nat → Int64) (lr : Nat → Int64) (v0 : Int32) (v1 : Int32) (v2 : Int32) (v3 : Int32) (v4 : Int32) (v5 : Int32) (v6 : Int32) (v7 : Int32) (v8 : Int32) (v9 : Int32) (v10 : Int32) (p1 : Int32) (p2 : Int32) (hv0 : v0 ≤ 60) (hh : v5 ≤ 24) (hpl : ∀ j : Nat, pl j = -1 ∨ vp_in (pl j) 60) : Met l yX5_polygon (Cond.code yX5_polygon cX5_polygon 4 (some .int) :: lw_G) rm_X5_polygon (pPc (dC, dI) (tIJ cI cJ) (wC a cI cJ xs ys pl kp lp lq lr v0 v1 v2 v3 v4 v5 v6 v7 v8 v9 v10) [.ref (a 0), .int p1, .int p2]) (pQi (f_X5_polygon xs ys pl v0 v5 p1 p2)) 0 0 pNo := by
  refine pm_of (by decide) (Nat.le_of_ble_eq_true rfl) ?_
  intro p e s m args below meth c Q ls hQ hx hb hr hlk hml hown hts hP hK hS hl
  have hown : s.vm.findClass RX5 = some m.cls := hown
  have hl : lv_has ls 4 [(0, .ref (a 0)), (1, .int p1), (2, .int p2)] := hl
  refine lv_aload_n hx hb dX5_polygon_0 rfl (lv_at hl 0 rfl) ?_
  refine va_get (D := (dC, dI)) (ci := 9) (v := .ref (a 1)) (C := RX5) (T := TX5) (N := 5) hx hb hts (fun _ h => gI_wsX50 h) hown hK.1 hP 0 rfl rfl 0 (by decide) (hts _ mG_1_17) (fun _ h9 => h9) rfl dX5_polygon_1 ?_
  refine lv_iload_n hx hb dX5_polygon_4 rfl (lv_at hl 2 rfl) ?_
  refine cp_i (va_runV (As := [.int p2]) (rest := []) ⟨hx, hb, hml, hown, hts⟩ (c_X2_has l dC dI a cI cJ xs ys pl kp lp lq lr v0 v1 v2 v3 v4 v5 v6 v7 v8 v9 v10 p2 ) (cwV 1 hts (gG_V mG_7_13 mG_7_14 mG_7_15 mG_1_16 (gG_c mG_7_16 gG_G)) rfl rfl rfl hd_X2_has ⟨Nat.le_of_ble_eq_true rfl, Nat.le_of_ble_eq_true rfl⟩) (pPcV (ci := 6) (q0 := 1) hK hP rfl rfl) rfl rfl hl.1 rfl (lv_room (Nat.le_of_ble_eq_true rfl)) dX5_polygon_5 ⟨Nat.le_of_ble_eq_true rfl, Nat.le_of_ble_eq_true rfl⟩) hP hS (fun H hP hS => ?_)
  refine lv_if_eq (tgt := 23) hx hb dX5_polygon_8 (by decide) (fun c1 => ?_) (fun c1 => ?_)
  · skip
    refine lv_bipush (v := (-2 : Int32)) hx hb dX5_polygon_23 (by decide) ?_
    refine lv_istore_n (lv' := [(3, .int (-2 : Int32)), (0, .ref (a 0)), (1, .int p1), (2, .int p2)]) hx hb dX5_polygon_25 rfl hl (by decide) rfl (fun ls hl => ?_)
    refine lv_iload_n hx hb dX5_polygon_26 rfl (lv_at hl 0 rfl) ?_
    refine lv_if_eq (tgt := 32) hx hb dX5_polygon_27 (by decide) (fun c9 => absurd c9 (by decide)) (fun _ => ?_)
    refine lv_iload_n hx hb dX5_polygon_30 rfl (lv_at hl 0 rfl) ?_
    exact rp_i hQ hx hb hr hlk hS (Eq.symm (by simp only [f_X5_polygon, if_pos c1])) dX5_polygon_31
  · skip
    have hp : vp_in p2 60 := in_has hv0 c1
    refine lv_aload_n hx hb dX5_polygon_11 rfl (lv_at hl 0 rfl) ?_
    refine va_get (D := (dC, dI)) (ci := 9) (v := .ref (a 6)) (C := RX5) (T := TX5) (N := 5) hx hb hts (fun _ h => gI_wsX50 h) hown hK.1 hP 0 rfl rfl 3 (by decide) (hts _ mG_2_5) (fun _ h9 => h9) rfl dX5_polygon_12 ?_
    refine lv_iload_n hx hb dX5_polygon_15 rfl (lv_at hl 1 rfl) ?_
    refine lv_iconst (v := (1 : Int32)) hx hb dX5_polygon_16 (by decide) ?_
    refine cp_i (va_runV (As := [.int p1, .int (1 : Int32)]) (rest := []) ⟨hx, hb, hml, hown, hts⟩ (c_X4_fault l dC dI a cI cJ xs ys pl kp lp lq lr v0 v1 v2 v3 v4 v5 v6 v7 v8 v9 v10 p1 (1 : Int32) (by first | with_reducible assumption | exact in0_24 | exact in0_60 | decide)) (cwV 2 hts (gG_V mG_20_3 mG_20_4 mG_20_5 mG_2_4 (gG_c mG_20_6 gG_G)) rfl rfl rfl hd_X4_fault ⟨Nat.le_of_ble_eq_true rfl, Nat.le_of_ble_eq_true rfl⟩) (pPcV (ci := 8) (q0 := 6) hK hP rfl rfl) rfl rfl hl.1 rfl (lv_room (Nat.le_of_ble_eq_true rfl)) dX5_polygon_17 ⟨Nat.le_of_ble_eq_true rfl, Nat.le_of_ble_eq_true rfl⟩) hP hS (fun H hP hS => ?_)
    refine lv_goto (tgt := 25) hx hb dX5_polygon_20 (by decide) ?_
    refine lv_topi (fun y2 ey2 => ?_)
    refine lv_istore_n (lv' := [(3, .int y2), (0, .ref (a 0)), (1, .int p1), (2, .int p2)]) hx hb dX5_polygon_25 rfl hl (by decide) rfl (fun ls hl => ?_)
    refine lv_iload_n hx hb dX5_polygon_26 rfl (lv_at hl 0 rfl) ?_
    refine lv_if_eq (tgt := 32) hx hb dX5_polygon_27 (by decide) (fun c3 => ?_) (fun c3 => ?_)
    · skip
      obtain ⟨hf1, hn, hv⟩ := ff_spec hh hpl (by rw [← ey2]; exact c3)
      refine lv_aload_n hx hb dX5_polygon_32 rfl (lv_at hl 1 rfl) ?_
      refine va_get (D := (dC, dI)) (ci := 9) (v := .ref (a 6)) (C := RX5) (T := TX5) (N := 5) hx hb hts (fun _ h => gI_wsX50 h) hown hK.1 hP 0 rfl rfl 3 (by decide) (hts _ mG_2_5) (fun _ h9 => h9) rfl dX5_polygon_33 ?_
      refine lv_iload_n hx hb dX5_polygon_36 rfl (lv_at hl 2 rfl) ?_
      refine lv_iload_n hx hb dX5_polygon_37 rfl (lv_at hl 3 rfl) ?_
      refine cp_i (va_runV (As := [.int p1, .int p2]) (rest := []) ⟨hx, hb, hml, hown, hts⟩ (c_X4_anyEdgeHolds l dC dI a cI cJ xs ys pl kp lp lq lr v0 v1 v2 v3 v4 v5 v6 v7 v8 v9 v10 p1 p2 (by first | with_reducible assumption | exact in0_24 | exact in0_60 | decide) (by first | with_reducible assumption | exact in0_24 | exact in0_60 | decide) (by first | with_reducible assumption | exact in0_24 | exact in0_60 | decide)) (cwV 2 hts (gG_V mG_21_16 mG_21_17 mG_21_18 mG_2_4 (gG_c mG_21_19 gG_G)) rfl rfl rfl hd_X4_anyEdgeHolds ⟨Nat.le_of_ble_eq_true rfl, Nat.le_of_ble_eq_true rfl⟩) (pPcV (ci := 8) (q0 := 6) hK hP rfl rfl) rfl rfl hl.1 rfl (lv_room (Nat.le_of_ble_eq_true rfl)) dX5_polygon_38 ⟨Nat.le_of_ble_eq_true rfl, Nat.le_of_ble_eq_true rfl⟩) hP hS (fun H hP hS => ?_)
      refine lv_if_eq (tgt := 46) hx hb dX5_polygon_41 (by decide) (fun c4 => ?_) (fun c4 => ?_)
      · skip
        refine lv_aload_n hx hb dX5_polygon_46 rfl (lv_at hl 1 rfl) ?_
        refine va_get (D := (dC, dI)) (ci := 9) (v := .ref (a 6)) (C := RX5) (T := TX5) (N := 5) hx hb hts (fun _ h => gI_wsX50 h) hown hK.1 hP 0 rfl rfl 3 (by decide) (hts _ mG_2_5) (fun _ h9 => h9) rfl dX5_polygon_47 ?_
        refine lv_iload_n hx hb dX5_polygon_50 rfl (lv_at hl 2 rfl) ?_
        refine lv_iload_n hx hb dX5_polygon_51 rfl (lv_at hl 3 rfl) ?_
        refine cp_i (va_runV (As := [.int p1, .int p2]) (rest := []) ⟨hx, hb, hml, hown, hts⟩ (c_X4_risesAt l dC dI a cI cJ xs ys pl kp lp lq lr v0 v1 v2 v3 v4 v5 v6 v7 v8 v9 v10 p1 p2 (by first | with_reducible assumption | exact in0_24 | exact in0_60 | decide) (by first | with_reducible assumption | exact in0_24 | exact in0_60 | decide) (by first | with_reducible assumption | exact in0_24 | exact in0_60 | decide)) (cwV 2 hts (gG_V mG_21_21 mG_21_22 mG_21_23 mG_2_4 (gG_c mG_22_0 gG_G)) rfl rfl rfl hd_X4_risesAt ⟨Nat.le_of_ble_eq_true rfl, Nat.le_of_ble_eq_true rfl⟩) (pPcV (ci := 8) (q0 := 6) hK hP rfl rfl) rfl rfl hl.1 rfl (lv_room (Nat.le_of_ble_eq_true rfl)) dX5_polygon_52 ⟨Nat.le_of_ble_eq_true rfl, Nat.le_of_ble_eq_true rfl⟩) hP hS (fun H hP hS => ?_)
        refine lv_aload_n hx hb dX5_polygon_55 rfl (lv_at hl 1 rfl) ?_
        refine va_get (D := (dC, dI)) (ci := 9) (v := .ref (a 6)) (C := RX5) (T := TX5) (N := 5) hx hb hts (fun _ h => gI_wsX50 h) hown hK.1 hP 0 rfl rfl 3 (by decide) (hts _ mG_2_5) (fun _ h9 => h9) rfl dX5_polygon_56 ?_
        refine lv_iload_n hx hb dX5_polygon_59 rfl (lv_at hl 2 rfl) ?_
        refine lv_iload_n hx hb dX5_polygon_60 rfl (lv_at hl 3 rfl) ?_
        refine cp_i (va_runV (As := [.int p1, .int p2]) (rest := [.int (f_X4_risesAt xs ys pl p1 p2)]) ⟨hx, hb, hml, hown, hts⟩ (c_X4_fallsAt l dC dI a cI cJ xs ys pl kp lp lq lr v0 v1 v2 v3 v4 v5 v6 v7 v8 v9 v10 p1 p2 (by first | with_reducible assumption | exact in0_24 | exact in0_60 | decide) (by first | with_reducible assumption | exact in0_24 | exact in0_60 | decide) (by first | with_reducible assumption | exact in0_24 | exact in0_60 | decide)) (cwV 2 hts (gG_V mG_22_6 mG_22_7 mG_22_8 mG_2_4 (gG_c mG_22_9 gG_G)) rfl rfl rfl hd_X4_fallsAt ⟨Nat.le_of_ble_eq_true rfl, Nat.le_of_ble_eq_true rfl⟩) (pPcV (ci := 8) (q0 := 6) hK hP rfl rfl) rfl rfl hl.1 rfl (lv_room (Nat.le_of_ble_eq_true rfl)) dX5_polygon_61 ⟨Nat.le_of_ble_eq_true rfl, Nat.le_of_ble_eq_true rfl⟩) hP hS (fun H hP hS => ?_)
        refine lv_iadd hx hb dX5_polygon_64 ?_
        refine lv_iconst (v := (2 : Int32)) hx hb dX5_polygon_65 (by decide) ?_
        refine lv_irem hx hb dX5_polygon_66 (by first | with_reducible assumption | exact in0_24 | exact in0_60 | decide) ?_
        exact rp_i hQ hx hb hr hlk hS (Eq.symm (by subst ey2; simp only [f_X5_polygon, if_neg c1, if_pos c3, if_pos c4])) dX5_polygon_67
      · skip
        refine lv_iconst (v := (2 : Int32)) hx hb dX5_polygon_44 (by decide) ?_
        exact rp_i hQ hx hb hr hlk hS (Eq.symm (by subst ey2; simp only [f_X5_polygon, if_neg c1, if_pos c3, if_neg c4])) dX5_polygon_45
    · skip
      refine lv_iload_n hx hb dX5_polygon_30 rfl (lv_at hl 0 rfl) ?_
      exact rp_i hQ hx hb hr hlk hS (Eq.symm (by subst ey2; simp only [f_X5_polygon, if_neg c1, if_neg c3])) dX5_polygon_31
/-! X5_winding -/
theorem hs_X5_winding : yX5_winding.cls ≠ "java/lang/invoke/MethodHandle" ∧ yX5_winding.cls ≠ "java/lang/invoke/VarHandle" ∧ (parseMethodDescriptor yX5_winding.desc).map (fun d => d.parameters.length) = some 2 := by decide +kernel
theorem hd_X5_winding : yX5_winding.cls = RX5 ∧ yX5_winding.cls ≠ "java/lang/invoke/MethodHandle" ∧ yX5_winding.cls ≠ "java/lang/invoke/VarHandle" ∧ (parseMethodDescriptor yX5_winding.desc).map (fun d => d.parameters.length) = some 2 := ⟨rfl, hs_X5_winding⟩
def f_X5_winding (xs : Nat → Int32) (ys : Nat → Int32) (pl : Nat → Int32) (v0 : Int32) (v5 : Int32) (p1 : Int32) (p2 : Int32) : Int32 := (if (f_X2_has v0 p2) = 0 then (-100 : Int32) else (if (f_X4_fault pl v5 p1 (1 : Int32)) = 0 then (if (f_X4_anyEdgeHolds xs ys pl p1 p2) = 0 then ((f_X4_risesAt xs ys pl p1 p2) - (f_X4_fallsAt xs ys pl p1 p2)) else (100 : Int32)) else (-100 : Int32)))
abbrev rm_X5_winding : Room := { frames := 5, cells := 0, slots := 0, locals := 119 }
set_option maxHeartbeats 8000000 in
set_option maxRecDepth 100000 in
theorem c_X5_winding (l : Launch) (dC : Nat → ClassId) (dI : Nat → Nat → Nat) (a : Nat → Nat) (cI cJ : ClassId) (xs : Nat → Int32) (ys : Nat → Int32) (pl : Nat → Int32) (kp : Nat → Int32) (lp : Nat → Int64) (lq : Nat → Int64) (lr : Nat → Int64) (v0 : Int32) (v1 : Int32) (v2 : Int32) (v3 : Int32) (v4 : Int32) (v5 : Int32) (v6 : Int32) (v7 : Int32) (v8 : Int32) (v9 : Int32) (v10 : Int32) (p1 : Int32) (p2 : Int32) (hv0 : v0 ≤ 60) (hh : v5 ≤ 24) (hpl : ∀ j : Nat, pl j = -1 ∨ vp_in (pl j) 60) : Met l yX5_winding (Cond.code yX5_winding cX5_winding 3 (some .int) :: lw_G) rm_X5_winding (pPc (dC, dI) (tIJ cI cJ) (wC a cI cJ xs ys pl kp lp lq lr v0 v1 v2 v3 v4 v5 v6 v7 v8 v9 v10) [.ref (a 0), .int p1, .int p2]) (pQi (f_X5_winding xs ys pl v0 v5 p1 p2)) 0 0 pNo := by
  refine pm_of (by decide) (Nat.le_of_ble_eq_true rfl) ?_
  intro p e s m args below meth c Q ls hQ hx hb hr hlk hml hown hts hP hK hS hl
  have hown : s.vm.findClass RX5 = some m.cls := hown
  have hl : lv_has ls 3 [(0, .ref (a 0)), (1, .int p1), (2, .int p2)] := hl
  refine lv_aload_n hx hb dX5_winding_0 rfl (lv_at hl 0 rfl) ?_
  refine va_get (D := (dC, dI)) (ci := 9) (v := .ref (a 1)) (C := RX5) (T := TX5) (N := 5) hx hb hts (fun _ h => gI_wsX50 h) hown hK.1 hP 0 rfl rfl 0 (by decide) (hts _ mG_1_17) (fun _ h9 => h9) rfl dX5_winding_1 ?_
  refine lv_iload_n hx hb dX5_winding_4 rfl (lv_at hl 2 rfl) ?_
  refine cp_i (va_runV (As := [.int p2]) (rest := []) ⟨hx, hb, hml, hown, hts⟩ (c_X2_has l dC dI a cI cJ xs ys pl kp lp lq lr v0 v1 v2 v3 v4 v5 v6 v7 v8 v9 v10 p2 ) (cwV 1 hts (gG_V mG_7_13 mG_7_14 mG_7_15 mG_1_16 (gG_c mG_7_16 gG_G)) rfl rfl rfl hd_X2_has ⟨Nat.le_of_ble_eq_true rfl, Nat.le_of_ble_eq_true rfl⟩) (pPcV (ci := 6) (q0 := 1) hK hP rfl rfl) rfl rfl hl.1 rfl (lv_room (Nat.le_of_ble_eq_true rfl)) dX5_winding_5 ⟨Nat.le_of_ble_eq_true rfl, Nat.le_of_ble_eq_true rfl⟩) hP hS (fun H hP hS => ?_)
  refine lv_if_eq (tgt := 23) hx hb dX5_winding_8 (by decide) (fun c1 => ?_) (fun c1 => ?_)
  · skip
    refine lv_bipush (v := (-100 : Int32)) hx hb dX5_winding_23 (by decide) ?_
    exact rp_i hQ hx hb hr hlk hS (Eq.symm (by simp only [f_X5_winding, if_pos c1])) dX5_winding_25
  · skip
    have hp : vp_in p2 60 := in_has hv0 c1
    refine lv_aload_n hx hb dX5_winding_11 rfl (lv_at hl 0 rfl) ?_
    refine va_get (D := (dC, dI)) (ci := 9) (v := .ref (a 6)) (C := RX5) (T := TX5) (N := 5) hx hb hts (fun _ h => gI_wsX50 h) hown hK.1 hP 0 rfl rfl 3 (by decide) (hts _ mG_2_5) (fun _ h9 => h9) rfl dX5_winding_12 ?_
    refine lv_iload_n hx hb dX5_winding_15 rfl (lv_at hl 1 rfl) ?_
    refine lv_iconst (v := (1 : Int32)) hx hb dX5_winding_16 (by decide) ?_
    refine cp_i (va_runV (As := [.int p1, .int (1 : Int32)]) (rest := []) ⟨hx, hb, hml, hown, hts⟩ (c_X4_fault l dC dI a cI cJ xs ys pl kp lp lq lr v0 v1 v2 v3 v4 v5 v6 v7 v8 v9 v10 p1 (1 : Int32) (by first | with_reducible assumption | exact in0_24 | exact in0_60 | decide)) (cwV 2 hts (gG_V mG_20_3 mG_20_4 mG_20_5 mG_2_4 (gG_c mG_20_6 gG_G)) rfl rfl rfl hd_X4_fault ⟨Nat.le_of_ble_eq_true rfl, Nat.le_of_ble_eq_true rfl⟩) (pPcV (ci := 8) (q0 := 6) hK hP rfl rfl) rfl rfl hl.1 rfl (lv_room (Nat.le_of_ble_eq_true rfl)) dX5_winding_17 ⟨Nat.le_of_ble_eq_true rfl, Nat.le_of_ble_eq_true rfl⟩) hP hS (fun H hP hS => ?_)
    refine lv_if_eq (tgt := 26) hx hb dX5_winding_20 (by decide) (fun c2 => ?_) (fun c2 => ?_)
    · skip
      obtain ⟨hf1, hn, hv⟩ := ff_spec hh hpl c2
      refine lv_aload_n hx hb dX5_winding_26 rfl (lv_at hl 0 rfl) ?_
      refine va_get (D := (dC, dI)) (ci := 9) (v := .ref (a 6)) (C := RX5) (T := TX5) (N := 5) hx hb hts (fun _ h => gI_wsX50 h) hown hK.1 hP 0 rfl rfl 3 (by decide) (hts _ mG_2_5) (fun _ h9 => h9) rfl dX5_winding_27 ?_
      refine lv_iload_n hx hb dX5_winding_30 rfl (lv_at hl 1 rfl) ?_
      refine lv_iload_n hx hb dX5_winding_31 rfl (lv_at hl 2 rfl) ?_
      refine cp_i (va_runV (As := [.int p1, .int p2]) (rest := []) ⟨hx, hb, hml, hown, hts⟩ (c_X4_anyEdgeHolds l dC dI a cI cJ xs ys pl kp lp lq lr v0 v1 v2 v3 v4 v5 v6 v7 v8 v9 v10 p1 p2 (by first | with_reducible assumption | exact in0_24 | exact in0_60 | decide) (by first | with_reducible assumption | exact in0_24 | exact in0_60 | decide) (by first | with_reducible assumption | exact in0_24 | exact in0_60 | decide)) (cwV 2 hts (gG_V mG_21_16 mG_21_17 mG_21_18 mG_2_4 (gG_c mG_21_19 gG_G)) rfl rfl rfl hd_X4_anyEdgeHolds ⟨Nat.le_of_ble_eq_true rfl, Nat.le_of_ble_eq_true rfl⟩) (pPcV (ci := 8) (q0 := 6) hK hP rfl rfl) rfl rfl hl.1 rfl (lv_room (Nat.le_of_ble_eq_true rfl)) dX5_winding_32 ⟨Nat.le_of_ble_eq_true rfl, Nat.le_of_ble_eq_true rfl⟩) hP hS (fun H hP hS => ?_)
      refine lv_if_eq (tgt := 41) hx hb dX5_winding_35 (by decide) (fun c3 => ?_) (fun c3 => ?_)
      · skip
        refine lv_aload_n hx hb dX5_winding_41 rfl (lv_at hl 0 rfl) ?_
        refine va_get (D := (dC, dI)) (ci := 9) (v := .ref (a 6)) (C := RX5) (T := TX5) (N := 5) hx hb hts (fun _ h => gI_wsX50 h) hown hK.1 hP 0 rfl rfl 3 (by decide) (hts _ mG_2_5) (fun _ h9 => h9) rfl dX5_winding_42 ?_
        refine lv_iload_n hx hb dX5_winding_45 rfl (lv_at hl 1 rfl) ?_
        refine lv_iload_n hx hb dX5_winding_46 rfl (lv_at hl 2 rfl) ?_
        refine cp_i (va_runV (As := [.int p1, .int p2]) (rest := []) ⟨hx, hb, hml, hown, hts⟩ (c_X4_risesAt l dC dI a cI cJ xs ys pl kp lp lq lr v0 v1 v2 v3 v4 v5 v6 v7 v8 v9 v10 p1 p2 (by first | with_reducible assumption | exact in0_24 | exact in0_60 | decide) (by first | with_reducible assumption | exact in0_24 | exact in0_60 | decide) (by first | with_reducible assumption | exact in0_24 | exact in0_60 | decide)) (cwV 2 hts (gG_V mG_21_21 mG_21_22 mG_21_23 mG_2_4 (gG_c mG_22_0 gG_G)) rfl rfl rfl hd_X4_risesAt ⟨Nat.le_of_ble_eq_true rfl, Nat.le_of_ble_eq_true rfl⟩) (pPcV (ci := 8) (q0 := 6) hK hP rfl rfl) rfl rfl hl.1 rfl (lv_room (Nat.le_of_ble_eq_true rfl)) dX5_winding_47 ⟨Nat.le_of_ble_eq_true rfl, Nat.le_of_ble_eq_true rfl⟩) hP hS (fun H hP hS => ?_)
        refine lv_aload_n hx hb dX5_winding_50 rfl (lv_at hl 0 rfl) ?_
        refine va_get (D := (dC, dI)) (ci := 9) (v := .ref (a 6)) (C := RX5) (T := TX5) (N := 5) hx hb hts (fun _ h => gI_wsX50 h) hown hK.1 hP 0 rfl rfl 3 (by decide) (hts _ mG_2_5) (fun _ h9 => h9) rfl dX5_winding_51 ?_
        refine lv_iload_n hx hb dX5_winding_54 rfl (lv_at hl 1 rfl) ?_
        refine lv_iload_n hx hb dX5_winding_55 rfl (lv_at hl 2 rfl) ?_
        refine cp_i (va_runV (As := [.int p1, .int p2]) (rest := [.int (f_X4_risesAt xs ys pl p1 p2)]) ⟨hx, hb, hml, hown, hts⟩ (c_X4_fallsAt l dC dI a cI cJ xs ys pl kp lp lq lr v0 v1 v2 v3 v4 v5 v6 v7 v8 v9 v10 p1 p2 (by first | with_reducible assumption | exact in0_24 | exact in0_60 | decide) (by first | with_reducible assumption | exact in0_24 | exact in0_60 | decide) (by first | with_reducible assumption | exact in0_24 | exact in0_60 | decide)) (cwV 2 hts (gG_V mG_22_6 mG_22_7 mG_22_8 mG_2_4 (gG_c mG_22_9 gG_G)) rfl rfl rfl hd_X4_fallsAt ⟨Nat.le_of_ble_eq_true rfl, Nat.le_of_ble_eq_true rfl⟩) (pPcV (ci := 8) (q0 := 6) hK hP rfl rfl) rfl rfl hl.1 rfl (lv_room (Nat.le_of_ble_eq_true rfl)) dX5_winding_56 ⟨Nat.le_of_ble_eq_true rfl, Nat.le_of_ble_eq_true rfl⟩) hP hS (fun H hP hS => ?_)
        refine lv_isub hx hb dX5_winding_59 ?_
        exact rp_i hQ hx hb hr hlk hS (Eq.symm (by simp only [f_X5_winding, if_neg c1, if_pos c2, if_pos c3])) dX5_winding_60
      · skip
        refine lv_bipush (v := (100 : Int32)) hx hb dX5_winding_38 (by decide) ?_
        exact rp_i hQ hx hb hr hlk hS (Eq.symm (by simp only [f_X5_winding, if_neg c1, if_pos c2, if_neg c3])) dX5_winding_40
    · skip
      refine lv_bipush (v := (-100 : Int32)) hx hb dX5_winding_23 (by decide) ?_
      exact rp_i hQ hx hb hr hlk hS (Eq.symm (by simp only [f_X5_winding, if_neg c1, if_neg c2])) dX5_winding_25
/-! X5_nearest -/
theorem hs_X5_nearest : yX5_nearest.cls ≠ "java/lang/invoke/MethodHandle" ∧ yX5_nearest.cls ≠ "java/lang/invoke/VarHandle" ∧ (parseMethodDescriptor yX5_nearest.desc).map (fun d => d.parameters.length) = some 2 := by decide +kernel
theorem hd_X5_nearest : yX5_nearest.cls = RX5 ∧ yX5_nearest.cls ≠ "java/lang/invoke/MethodHandle" ∧ yX5_nearest.cls ≠ "java/lang/invoke/VarHandle" ∧ (parseMethodDescriptor yX5_nearest.desc).map (fun d => d.parameters.length) = some 2 := ⟨rfl, hs_X5_nearest⟩
def f_X5_nearest (xs : Nat → Int32) (ys : Nat → Int32) (pl : Nat → Int32) (v0 : Int32) (v5 : Int32) (p1 : Int32) (p2 : Int32) : Int32 := (if (f_X2_has v0 p1) = 0 then (-2 : Int32) else (if (f_X4_fault pl v5 p2 (1 : Int32)) = 0 then (f_X4_nearestBits xs ys pl p1 p2) else (f_X4_fault pl v5 p2 (1 : Int32))))
abbrev rm_X5_nearest : Room := { frames := 2, cells := 0, slots := 0, locals := 54 }
set_option maxHeartbeats 8000000 in
set_option maxRecDepth 100000 in
theorem c_X5_nearest (l : Launch) (dC : Nat → ClassId) (dI : Nat → Nat → Nat) (a : Nat → Nat) (cI cJ : ClassId) (xs : Nat → Int32) (ys : Nat → Int32) (pl : Nat → Int32) (kp : Nat → Int32) (lp : Nat → Int64) (lq : Nat → Int64) (lr : Nat → Int64) (v0 : Int32) (v1 : Int32) (v2 : Int32) (v3 : Int32) (v4 : Int32) (v5 : Int32) (v6 : Int32) (v7 : Int32) (v8 : Int32) (v9 : Int32) (v10 : Int32) (p1 : Int32) (p2 : Int32) (hv0 : v0 ≤ 60) (hh : v5 ≤ 24) (hpl : ∀ j : Nat, pl j = -1 ∨ vp_in (pl j) 60) : Met l yX5_nearest (Cond.code yX5_nearest cX5_nearest 4 (some .int) :: lw_G) rm_X5_nearest (pPc (dC, dI) (tIJ cI cJ) (wC a cI cJ xs ys pl kp lp lq lr v0 v1 v2 v3 v4 v5 v6 v7 v8 v9 v10) [.ref (a 0), .int p1, .int p2]) (pQi (f_X5_nearest xs ys pl v0 v5 p1 p2)) 0 0 pNo := by
  refine pm_of (by decide) (Nat.le_of_ble_eq_true rfl) ?_
  intro p e s m args below meth c Q ls hQ hx hb hr hlk hml hown hts hP hK hS hl
  have hown : s.vm.findClass RX5 = some m.cls := hown
  have hl : lv_has ls 4 [(0, .ref (a 0)), (1, .int p1), (2, .int p2)] := hl
  refine lv_aload_n hx hb dX5_nearest_0 rfl (lv_at hl 0 rfl) ?_
  refine va_get (D := (dC, dI)) (ci := 9) (v := .ref (a 1)) (C := RX5) (T := TX5) (N := 5) hx hb hts (fun _ h => gI_wsX50 h) hown hK.1 hP 0 rfl rfl 0 (by decide) (hts _ mG_1_17) (fun _ h9 => h9) rfl dX5_nearest_1 ?_
  refine lv_iload_n hx hb dX5_nearest_4 rfl (lv_at hl 1 rfl) ?_
  refine cp_i (va_runV (As := [.int p1]) (rest := []) ⟨hx, hb, hml, hown, hts⟩ (c_X2_has l dC dI a cI cJ xs ys pl kp lp lq lr v0 v1 v2 v3 v4 v5 v6 v7 v8 v9 v10 p1 ) (cwV 1 hts (gG_V mG_7_13 mG_7_14 mG_7_15 mG_1_16 (gG_c mG_7_16 gG_G)) rfl rfl rfl hd_X2_has ⟨Nat.le_of_ble_eq_true rfl, Nat.le_of_ble_eq_true rfl⟩) (pPcV (ci := 6) (q0 := 1) hK hP rfl rfl) rfl rfl hl.1 rfl (lv_room (Nat.le_of_ble_eq_true rfl)) dX5_nearest_5 ⟨Nat.le_of_ble_eq_true rfl, Nat.le_of_ble_eq_true rfl⟩) hP hS (fun H hP hS => ?_)
  refine lv_if_eq (tgt := 23) hx hb dX5_nearest_8 (by decide) (fun c1 => ?_) (fun c1 => ?_)
  · skip
    refine lv_bipush (v := (-2 : Int32)) hx hb dX5_nearest_23 (by decide) ?_
    refine lv_istore_n (lv' := [(3, .int (-2 : Int32)), (0, .ref (a 0)), (1, .int p1), (2, .int p2)]) hx hb dX5_nearest_25 rfl hl (by decide) rfl (fun ls hl => ?_)
    refine lv_iload_n hx hb dX5_nearest_26 rfl (lv_at hl 0 rfl) ?_
    refine lv_if_ne (tgt := 42) hx hb dX5_nearest_27 (by decide) (fun _ => ?_) (fun c9 => absurd c9 (by decide))
    refine lv_iload_n hx hb dX5_nearest_42 rfl (lv_at hl 0 rfl) ?_
    exact rp_i hQ hx hb hr hlk hS (Eq.symm (by simp only [f_X5_nearest, if_pos c1])) dX5_nearest_43
  · skip
    have hp : vp_in p1 60 := in_has hv0 c1
    refine lv_aload_n hx hb dX5_nearest_11 rfl (lv_at hl 0 rfl) ?_
    refine va_get (D := (dC, dI)) (ci := 9) (v := .ref (a 6)) (C := RX5) (T := TX5) (N := 5) hx hb hts (fun _ h => gI_wsX50 h) hown hK.1 hP 0 rfl rfl 3 (by decide) (hts _ mG_2_5) (fun _ h9 => h9) rfl dX5_nearest_12 ?_
    refine lv_iload_n hx hb dX5_nearest_15 rfl (lv_at hl 2 rfl) ?_
    refine lv_iconst (v := (1 : Int32)) hx hb dX5_nearest_16 (by decide) ?_
    refine cp_i (va_runV (As := [.int p2, .int (1 : Int32)]) (rest := []) ⟨hx, hb, hml, hown, hts⟩ (c_X4_fault l dC dI a cI cJ xs ys pl kp lp lq lr v0 v1 v2 v3 v4 v5 v6 v7 v8 v9 v10 p2 (1 : Int32) (by first | with_reducible assumption | exact in0_24 | exact in0_60 | decide)) (cwV 2 hts (gG_V mG_20_3 mG_20_4 mG_20_5 mG_2_4 (gG_c mG_20_6 gG_G)) rfl rfl rfl hd_X4_fault ⟨Nat.le_of_ble_eq_true rfl, Nat.le_of_ble_eq_true rfl⟩) (pPcV (ci := 8) (q0 := 6) hK hP rfl rfl) rfl rfl hl.1 rfl (lv_room (Nat.le_of_ble_eq_true rfl)) dX5_nearest_17 ⟨Nat.le_of_ble_eq_true rfl, Nat.le_of_ble_eq_true rfl⟩) hP hS (fun H hP hS => ?_)
    refine lv_goto (tgt := 25) hx hb dX5_nearest_20 (by decide) ?_
    refine lv_topi (fun y2 ey2 => ?_)
    refine lv_istore_n (lv' := [(3, .int y2), (0, .ref (a 0)), (1, .int p1), (2, .int p2)]) hx hb dX5_nearest_25 rfl hl (by decide) rfl (fun ls hl => ?_)
    refine lv_iload_n hx hb dX5_nearest_26 rfl (lv_at hl 0 rfl) ?_
    refine lv_if_ne (tgt := 42) hx hb dX5_nearest_27 (by decide) (fun c3 => ?_) (fun c3 => ?_)
    · skip
      refine lv_iload_n hx hb dX5_nearest_42 rfl (lv_at hl 0 rfl) ?_
      exact rp_i hQ hx hb hr hlk hS (Eq.symm (by subst ey2; simp only [f_X5_nearest, if_neg c1, if_neg c3])) dX5_nearest_43
    · skip
      obtain ⟨hf1, hn, hv⟩ := ff_spec hh hpl (by rw [← ey2]; exact c3)
      have h1 := n1 hf1
      refine lv_aload_n hx hb dX5_nearest_30 rfl (lv_at hl 1 rfl) ?_
      refine va_get (D := (dC, dI)) (ci := 9) (v := .ref (a 6)) (C := RX5) (T := TX5) (N := 5) hx hb hts (fun _ h => gI_wsX50 h) hown hK.1 hP 0 rfl rfl 3 (by decide) (hts _ mG_2_5) (fun _ h9 => h9) rfl dX5_nearest_31 ?_
      refine lv_iload_n hx hb dX5_nearest_34 rfl (lv_at hl 2 rfl) ?_
      refine lv_iload_n hx hb dX5_nearest_35 rfl (lv_at hl 3 rfl) ?_
      refine cp_i (va_runV (As := [.int p1, .int p2]) (rest := []) ⟨hx, hb, hml, hown, hts⟩ (c_X4_nearestBits l dC dI a cI cJ xs ys pl kp lp lq lr v0 v1 v2 v3 v4 v5 v6 v7 v8 v9 v10 p1 p2 (by first | with_reducible assumption | exact in0_24 | exact in0_60 | decide) (by first | with_reducible assumption | exact in0_24 | exact in0_60 | decide) (by first | with_reducible assumption | exact in0_24 | exact in0_60 | decide) (by first | with_reducible assumption | exact in0_24 | exact in0_60 | decide)) (cwV 2 hts (gG_V mG_23_10 mG_23_11 mG_23_12 mG_2_4 (gG_c mG_23_13 gG_G)) rfl rfl rfl hd_X4_nearestBits ⟨Nat.le_of_ble_eq_true rfl, Nat.le_of_ble_eq_true rfl⟩) (pPcV (ci := 8) (q0 := 6) hK hP rfl rfl) rfl rfl hl.1 rfl (lv_room (Nat.le_of_ble_eq_true rfl)) dX5_nearest_36 ⟨Nat.le_of_ble_eq_true rfl, Nat.le_of_ble_eq_true rfl⟩) hP hS (fun H hP hS => ?_)
      refine lv_goto (tgt := 43) hx hb dX5_nearest_39 (by decide) ?_
      exact rp_i hQ hx hb hr hlk hS (Eq.symm (by subst ey2; simp only [f_X5_nearest, if_neg c1, if_pos c3])) dX5_nearest_43
/-! X5_around -/
theorem hs_X5_around : yX5_around.cls ≠ "java/lang/invoke/MethodHandle" ∧ yX5_around.cls ≠ "java/lang/invoke/VarHandle" ∧ (parseMethodDescriptor yX5_around.desc).map (fun d => d.parameters.length) = some 3 := by decide +kernel
theorem hd_X5_around : yX5_around.cls = RX5 ∧ yX5_around.cls ≠ "java/lang/invoke/MethodHandle" ∧ yX5_around.cls ≠ "java/lang/invoke/VarHandle" ∧ (parseMethodDescriptor yX5_around.desc).map (fun d => d.parameters.length) = some 3 := ⟨rfl, hs_X5_around⟩
def f_X5_around (xs : Nat → Int32) (ys : Nat → Int32) (pl : Nat → Int32) (v0 : Int32) (v5 : Int32) (p1 : Int32) (p2 : Int32) (p3 : Int32) : Int32 := (if (f_X2_has v0 p1) = 0 then (-2 : Int32) else (if p3 < 0 then (-2 : Int32) else (if p2 ≤ p3 then (-2 : Int32) else (if (f_X4_fault pl v5 p2 (1 : Int32)) = 0 then (f_X4_placeRound xs ys pl p1 p2 p3) else (f_X4_fault pl v5 p2 (1 : Int32))))))
abbrev rm_X5_around : Room := { frames := 6, cells := 0, slots := 0, locals := 149 }
set_option maxHeartbeats 8000000 in
set_option maxRecDepth 100000 in
theorem c_X5_around (l : Launch) (dC : Nat → ClassId) (dI : Nat → Nat → Nat) (a : Nat → Nat) (cI cJ : ClassId) (xs : Nat → Int32) (ys : Nat → Int32) (pl : Nat → Int32) (kp : Nat → Int32) (lp : Nat → Int64) (lq : Nat → Int64) (lr : Nat → Int64) (v0 : Int32) (v1 : Int32) (v2 : Int32) (v3 : Int32) (v4 : Int32) (v5 : Int32) (v6 : Int32) (v7 : Int32) (v8 : Int32) (v9 : Int32) (v10 : Int32) (p1 : Int32) (p2 : Int32) (p3 : Int32) (hv0 : v0 ≤ 60) (hh : v5 ≤ 24) (hpl : ∀ j : Nat, pl j = -1 ∨ vp_in (pl j) 60) : Met l yX5_around (Cond.code yX5_around cX5_around 5 (some .int) :: lw_G) rm_X5_around (pPc (dC, dI) (tIJ cI cJ) (wC a cI cJ xs ys pl kp lp lq lr v0 v1 v2 v3 v4 v5 v6 v7 v8 v9 v10) [.ref (a 0), .int p1, .int p2, .int p3]) (pQi (f_X5_around xs ys pl v0 v5 p1 p2 p3)) 0 0 pNo := by
  refine pm_of (by decide) (Nat.le_of_ble_eq_true rfl) ?_
  intro p e s m args below meth c Q ls hQ hx hb hr hlk hml hown hts hP hK hS hl
  have hown : s.vm.findClass RX5 = some m.cls := hown
  have hl : lv_has ls 5 [(0, .ref (a 0)), (1, .int p1), (2, .int p2), (3, .int p3)] := hl
  refine lv_aload_n hx hb dX5_around_0 rfl (lv_at hl 0 rfl) ?_
  refine va_get (D := (dC, dI)) (ci := 9) (v := .ref (a 1)) (C := RX5) (T := TX5) (N := 5) hx hb hts (fun _ h => gI_wsX50 h) hown hK.1 hP 0 rfl rfl 0 (by decide) (hts _ mG_1_17) (fun _ h9 => h9) rfl dX5_around_1 ?_
  refine lv_iload_n hx hb dX5_around_4 rfl (lv_at hl 1 rfl) ?_
  refine cp_i (va_runV (As := [.int p1]) (rest := []) ⟨hx, hb, hml, hown, hts⟩ (c_X2_has l dC dI a cI cJ xs ys pl kp lp lq lr v0 v1 v2 v3 v4 v5 v6 v7 v8 v9 v10 p1 ) (cwV 1 hts (gG_V mG_7_13 mG_7_14 mG_7_15 mG_1_16 (gG_c mG_7_16 gG_G)) rfl rfl rfl hd_X2_has ⟨Nat.le_of_ble_eq_true rfl, Nat.le_of_ble_eq_true rfl⟩) (pPcV (ci := 6) (q0 := 1) hK hP rfl rfl) rfl rfl hl.1 rfl (lv_room (Nat.le_of_ble_eq_true rfl)) dX5_around_5 ⟨Nat.le_of_ble_eq_true rfl, Nat.le_of_ble_eq_true rfl⟩) hP hS (fun H hP hS => ?_)
  refine lv_if_eq (tgt := 32) hx hb dX5_around_8 (by decide) (fun c1 => ?_) (fun c1 => ?_)
  · skip
    refine lv_bipush (v := (-2 : Int32)) hx hb dX5_around_32 (by decide) ?_
    refine lv_istore (lv' := [(4, .int (-2 : Int32)), (0, .ref (a 0)), (1, .int p1), (2, .int p2), (3, .int p3)]) hx hb dX5_around_34 hl (by decide) rfl (fun ls hl => ?_)
    refine lv_iload hx hb dX5_around_36 (lv_at hl 0 rfl) ?_
    refine lv_if_ne (tgt := 54) hx hb dX5_around_38 (by decide) (fun _ => ?_) (fun c9 => absurd c9 (by decide))
    refine lv_iload hx hb dX5_around_54 (lv_at hl 0 rfl) ?_
    exact rp_i hQ hx hb hr hlk hS (Eq.symm (by simp only [f_X5_around, if_pos c1])) dX5_around_56
  · skip
    have hc : vp_in p1 60 := in_has hv0 c1
    refine lv_iload_n hx hb dX5_around_11 rfl (lv_at hl 3 rfl) ?_
    refine lv_if_lt (tgt := 32) hx hb dX5_around_12 (by decide) (fun c2 => ?_) (fun c2 => ?_)
    · skip
      refine lv_bipush (v := (-2 : Int32)) hx hb dX5_around_32 (by decide) ?_
      refine lv_istore (lv' := [(4, .int (-2 : Int32)), (0, .ref (a 0)), (1, .int p1), (2, .int p2), (3, .int p3)]) hx hb dX5_around_34 hl (by decide) rfl (fun ls hl => ?_)
      refine lv_iload hx hb dX5_around_36 (lv_at hl 0 rfl) ?_
      refine lv_if_ne (tgt := 54) hx hb dX5_around_38 (by decide) (fun _ => ?_) (fun c9 => absurd c9 (by decide))
      refine lv_iload hx hb dX5_around_54 (lv_at hl 0 rfl) ?_
      exact rp_i hQ hx hb hr hlk hS (Eq.symm (by simp only [f_X5_around, if_neg c1, if_pos c2])) dX5_around_56
    · skip
      refine lv_iload_n hx hb dX5_around_15 rfl (lv_at hl 3 rfl) ?_
      refine lv_iload_n hx hb dX5_around_16 rfl (lv_at hl 2 rfl) ?_
      refine lv_icmp_ge (tgt := 32) hx hb dX5_around_17 (by decide) (fun c3 => ?_) (fun c3 => ?_)
      · skip
        refine lv_bipush (v := (-2 : Int32)) hx hb dX5_around_32 (by decide) ?_
        refine lv_istore (lv' := [(4, .int (-2 : Int32)), (0, .ref (a 0)), (1, .int p1), (2, .int p2), (3, .int p3)]) hx hb dX5_around_34 hl (by decide) rfl (fun ls hl => ?_)
        refine lv_iload hx hb dX5_around_36 (lv_at hl 0 rfl) ?_
        refine lv_if_ne (tgt := 54) hx hb dX5_around_38 (by decide) (fun _ => ?_) (fun c9 => absurd c9 (by decide))
        refine lv_iload hx hb dX5_around_54 (lv_at hl 0 rfl) ?_
        exact rp_i hQ hx hb hr hlk hS (Eq.symm (by simp only [f_X5_around, if_neg c1, if_neg c2, if_pos c3])) dX5_around_56
      · skip
        refine lv_aload_n hx hb dX5_around_20 rfl (lv_at hl 0 rfl) ?_
        refine va_get (D := (dC, dI)) (ci := 9) (v := .ref (a 6)) (C := RX5) (T := TX5) (N := 5) hx hb hts (fun _ h => gI_wsX50 h) hown hK.1 hP 0 rfl rfl 3 (by decide) (hts _ mG_2_5) (fun _ h9 => h9) rfl dX5_around_21 ?_
        refine lv_iload_n hx hb dX5_around_24 rfl (lv_at hl 2 rfl) ?_
        refine lv_iconst (v := (1 : Int32)) hx hb dX5_around_25 (by decide) ?_
        refine cp_i (va_runV (As := [.int p2, .int (1 : Int32)]) (rest := []) ⟨hx, hb, hml, hown, hts⟩ (c_X4_fault l dC dI a cI cJ xs ys pl kp lp lq lr v0 v1 v2 v3 v4 v5 v6 v7 v8 v9 v10 p2 (1 : Int32) (by first | with_reducible assumption | exact in0_24 | exact in0_60 | decide)) (cwV 2 hts (gG_V mG_20_3 mG_20_4 mG_20_5 mG_2_4 (gG_c mG_20_6 gG_G)) rfl rfl rfl hd_X4_fault ⟨Nat.le_of_ble_eq_true rfl, Nat.le_of_ble_eq_true rfl⟩) (pPcV (ci := 8) (q0 := 6) hK hP rfl rfl) rfl rfl hl.1 rfl (lv_room (Nat.le_of_ble_eq_true rfl)) dX5_around_26 ⟨Nat.le_of_ble_eq_true rfl, Nat.le_of_ble_eq_true rfl⟩) hP hS (fun H hP hS => ?_)
        refine lv_goto (tgt := 34) hx hb dX5_around_29 (by decide) ?_
        refine lv_topi (fun y4 ey4 => ?_)
        refine lv_istore (lv' := [(4, .int y4), (0, .ref (a 0)), (1, .int p1), (2, .int p2), (3, .int p3)]) hx hb dX5_around_34 hl (by decide) rfl (fun ls hl => ?_)
        refine lv_iload hx hb dX5_around_36 (lv_at hl 0 rfl) ?_
        refine lv_if_ne (tgt := 54) hx hb dX5_around_38 (by decide) (fun c5 => ?_) (fun c5 => ?_)
        · skip
          refine lv_iload hx hb dX5_around_54 (lv_at hl 0 rfl) ?_
          exact rp_i hQ hx hb hr hlk hS (Eq.symm (by subst ey4; simp only [f_X5_around, if_neg c1, if_neg c2, if_neg c3, if_neg c5])) dX5_around_56
        · skip
          obtain ⟨hf1, hn, hv⟩ := ff_spec hh hpl (by rw [← ey4]; exact c5)
          refine lv_aload_n hx hb dX5_around_41 rfl (lv_at hl 1 rfl) ?_
          refine va_get (D := (dC, dI)) (ci := 9) (v := .ref (a 6)) (C := RX5) (T := TX5) (N := 5) hx hb hts (fun _ h => gI_wsX50 h) hown hK.1 hP 0 rfl rfl 3 (by decide) (hts _ mG_2_5) (fun _ h9 => h9) rfl dX5_around_42 ?_
          refine lv_iload_n hx hb dX5_around_45 rfl (lv_at hl 2 rfl) ?_
          refine lv_iload_n hx hb dX5_around_46 rfl (lv_at hl 3 rfl) ?_
          refine lv_iload_n hx hb dX5_around_47 rfl (lv_at hl 4 rfl) ?_
          refine cp_i (va_runV (As := [.int p1, .int p2, .int p3]) (rest := []) ⟨hx, hb, hml, hown, hts⟩ (c_X4_placeRound l dC dI a cI cJ xs ys pl kp lp lq lr v0 v1 v2 v3 v4 v5 v6 v7 v8 v9 v10 p1 p2 p3 (by first | with_reducible assumption | exact in0_24 | exact in0_60 | decide) (by first | with_reducible assumption | exact in0_24 | exact in0_60 | decide) (by first | with_reducible assumption | exact in0_24 | exact in0_60 | decide)) (cwV 3 hts (gG_V mG_24_6 mG_24_7 mG_24_8 mG_2_4 (gG_c mG_24_9 gG_G)) rfl rfl rfl hd_X4_placeRound ⟨Nat.le_of_ble_eq_true rfl, Nat.le_of_ble_eq_true rfl⟩) (pPcV (ci := 8) (q0 := 6) hK hP rfl rfl) rfl rfl hl.1 rfl (lv_room (Nat.le_of_ble_eq_true rfl)) dX5_around_48 ⟨Nat.le_of_ble_eq_true rfl, Nat.le_of_ble_eq_true rfl⟩) hP hS (fun H hP hS => ?_)
          refine lv_goto (tgt := 56) hx hb dX5_around_51 (by decide) ?_
          exact rp_i hQ hx hb hr hlk hS (Eq.symm (by subst ey4; simp only [f_X5_around, if_neg c1, if_neg c2, if_neg c3, if_pos c5])) dX5_around_56
/-! X5_order -/
theorem hs_X5_order : yX5_order.cls ≠ "java/lang/invoke/MethodHandle" ∧ yX5_order.cls ≠ "java/lang/invoke/VarHandle" ∧ (parseMethodDescriptor yX5_order.desc).map (fun d => d.parameters.length) = some 2 := by decide +kernel
theorem hd_X5_order : yX5_order.cls = RX5 ∧ yX5_order.cls ≠ "java/lang/invoke/MethodHandle" ∧ yX5_order.cls ≠ "java/lang/invoke/VarHandle" ∧ (parseMethodDescriptor yX5_order.desc).map (fun d => d.parameters.length) = some 2 := ⟨rfl, hs_X5_order⟩
def f_X5_order (xs : Nat → Int32) (ys : Nat → Int32) (pl : Nat → Int32) (v5 : Int32) (p1 : Int32) (p2 : Int32) : Int32 := (if p2 < 0 then (-2 : Int32) else (if p1 ≤ p2 then (-2 : Int32) else (if (f_X4_fault pl v5 p1 (1 : Int32)) = 0 then (f_X4_placeAlong xs ys pl p1 p2) else (f_X4_fault pl v5 p1 (1 : Int32)))))
abbrev rm_X5_order : Room := { frames := 5, cells := 0, slots := 0, locals := 114 }
set_option maxHeartbeats 8000000 in
set_option maxRecDepth 100000 in
theorem c_X5_order (l : Launch) (dC : Nat → ClassId) (dI : Nat → Nat → Nat) (a : Nat → Nat) (cI cJ : ClassId) (xs : Nat → Int32) (ys : Nat → Int32) (pl : Nat → Int32) (kp : Nat → Int32) (lp : Nat → Int64) (lq : Nat → Int64) (lr : Nat → Int64) (v0 : Int32) (v1 : Int32) (v2 : Int32) (v3 : Int32) (v4 : Int32) (v5 : Int32) (v6 : Int32) (v7 : Int32) (v8 : Int32) (v9 : Int32) (v10 : Int32) (p1 : Int32) (p2 : Int32) (hh : v5 ≤ 24) (hpl : ∀ j : Nat, pl j = -1 ∨ vp_in (pl j) 60) : Met l yX5_order (Cond.code yX5_order cX5_order 4 (some .int) :: lw_G) rm_X5_order (pPc (dC, dI) (tIJ cI cJ) (wC a cI cJ xs ys pl kp lp lq lr v0 v1 v2 v3 v4 v5 v6 v7 v8 v9 v10) [.ref (a 0), .int p1, .int p2]) (pQi (f_X5_order xs ys pl v5 p1 p2)) 0 0 pNo := by
  refine pm_of (by decide) (Nat.le_of_ble_eq_true rfl) ?_
  intro p e s m args below meth c Q ls hQ hx hb hr hlk hml hown hts hP hK hS hl
  have hown : s.vm.findClass RX5 = some m.cls := hown
  have hl : lv_has ls 4 [(0, .ref (a 0)), (1, .int p1), (2, .int p2)] := hl
  refine lv_iload_n hx hb dX5_order_0 rfl (lv_at hl 2 rfl) ?_
  refine lv_if_lt (tgt := 21) hx hb dX5_order_1 (by decide) (fun c1 => ?_) (fun c1 => ?_)
  · skip
    refine lv_bipush (v := (-2 : Int32)) hx hb dX5_order_21 (by decide) ?_
    refine lv_istore_n (lv' := [(3, .int (-2 : Int32)), (0, .ref (a 0)), (1, .int p1), (2, .int p2)]) hx hb dX5_order_23 rfl hl (by decide) rfl (fun ls hl => ?_)
    refine lv_iload_n hx hb dX5_order_24 rfl (lv_at hl 0 rfl) ?_
    refine lv_if_ne (tgt := 40) hx hb dX5_order_25 (by decide) (fun _ => ?_) (fun c9 => absurd c9 (by decide))
    refine lv_iload_n hx hb dX5_order_40 rfl (lv_at hl 0 rfl) ?_
    exact rp_i hQ hx hb hr hlk hS (Eq.symm (by simp only [f_X5_order, if_pos c1])) dX5_order_41
  · skip
    refine lv_iload_n hx hb dX5_order_4 rfl (lv_at hl 2 rfl) ?_
    refine lv_iload_n hx hb dX5_order_5 rfl (lv_at hl 1 rfl) ?_
    refine lv_icmp_ge (tgt := 21) hx hb dX5_order_6 (by decide) (fun c2 => ?_) (fun c2 => ?_)
    · skip
      refine lv_bipush (v := (-2 : Int32)) hx hb dX5_order_21 (by decide) ?_
      refine lv_istore_n (lv' := [(3, .int (-2 : Int32)), (0, .ref (a 0)), (1, .int p1), (2, .int p2)]) hx hb dX5_order_23 rfl hl (by decide) rfl (fun ls hl => ?_)
      refine lv_iload_n hx hb dX5_order_24 rfl (lv_at hl 0 rfl) ?_
      refine lv_if_ne (tgt := 40) hx hb dX5_order_25 (by decide) (fun _ => ?_) (fun c9 => absurd c9 (by decide))
      refine lv_iload_n hx hb dX5_order_40 rfl (lv_at hl 0 rfl) ?_
      exact rp_i hQ hx hb hr hlk hS (Eq.symm (by simp only [f_X5_order, if_neg c1, if_pos c2])) dX5_order_41
    · skip
      refine lv_aload_n hx hb dX5_order_9 rfl (lv_at hl 0 rfl) ?_
      refine va_get (D := (dC, dI)) (ci := 9) (v := .ref (a 6)) (C := RX5) (T := TX5) (N := 5) hx hb hts (fun _ h => gI_wsX50 h) hown hK.1 hP 0 rfl rfl 3 (by decide) (hts _ mG_2_5) (fun _ h9 => h9) rfl dX5_order_10 ?_
      refine lv_iload_n hx hb dX5_order_13 rfl (lv_at hl 1 rfl) ?_
      refine lv_iconst (v := (1 : Int32)) hx hb dX5_order_14 (by decide) ?_
      refine cp_i (va_runV (As := [.int p1, .int (1 : Int32)]) (rest := []) ⟨hx, hb, hml, hown, hts⟩ (c_X4_fault l dC dI a cI cJ xs ys pl kp lp lq lr v0 v1 v2 v3 v4 v5 v6 v7 v8 v9 v10 p1 (1 : Int32) (by first | with_reducible assumption | exact in0_24 | exact in0_60 | decide)) (cwV 2 hts (gG_V mG_20_3 mG_20_4 mG_20_5 mG_2_4 (gG_c mG_20_6 gG_G)) rfl rfl rfl hd_X4_fault ⟨Nat.le_of_ble_eq_true rfl, Nat.le_of_ble_eq_true rfl⟩) (pPcV (ci := 8) (q0 := 6) hK hP rfl rfl) rfl rfl hl.1 rfl (lv_room (Nat.le_of_ble_eq_true rfl)) dX5_order_15 ⟨Nat.le_of_ble_eq_true rfl, Nat.le_of_ble_eq_true rfl⟩) hP hS (fun H hP hS => ?_)
      refine lv_goto (tgt := 23) hx hb dX5_order_18 (by decide) ?_
      refine lv_topi (fun y3 ey3 => ?_)
      refine lv_istore_n (lv' := [(3, .int y3), (0, .ref (a 0)), (1, .int p1), (2, .int p2)]) hx hb dX5_order_23 rfl hl (by decide) rfl (fun ls hl => ?_)
      refine lv_iload_n hx hb dX5_order_24 rfl (lv_at hl 0 rfl) ?_
      refine lv_if_ne (tgt := 40) hx hb dX5_order_25 (by decide) (fun c4 => ?_) (fun c4 => ?_)
      · skip
        refine lv_iload_n hx hb dX5_order_40 rfl (lv_at hl 0 rfl) ?_
        exact rp_i hQ hx hb hr hlk hS (Eq.symm (by subst ey3; simp only [f_X5_order, if_neg c1, if_neg c2, if_neg c4])) dX5_order_41
      · skip
        obtain ⟨hf1, hn, hv⟩ := ff_spec hh hpl (by rw [← ey3]; exact c4)
        refine lv_aload_n hx hb dX5_order_28 rfl (lv_at hl 1 rfl) ?_
        refine va_get (D := (dC, dI)) (ci := 9) (v := .ref (a 6)) (C := RX5) (T := TX5) (N := 5) hx hb hts (fun _ h => gI_wsX50 h) hown hK.1 hP 0 rfl rfl 3 (by decide) (hts _ mG_2_5) (fun _ h9 => h9) rfl dX5_order_29 ?_
        refine lv_iload_n hx hb dX5_order_32 rfl (lv_at hl 2 rfl) ?_
        refine lv_iload_n hx hb dX5_order_33 rfl (lv_at hl 3 rfl) ?_
        refine cp_i (va_runV (As := [.int p1, .int p2]) (rest := []) ⟨hx, hb, hml, hown, hts⟩ (c_X4_placeAlong l dC dI a cI cJ xs ys pl kp lp lq lr v0 v1 v2 v3 v4 v5 v6 v7 v8 v9 v10 p1 p2 (by first | with_reducible assumption | exact in0_24 | exact in0_60 | decide) (by first | with_reducible assumption | exact in0_24 | exact in0_60 | decide)) (cwV 2 hts (gG_V mG_25_17 mG_25_18 mG_25_19 mG_2_4 (gG_c mG_25_20 gG_G)) rfl rfl rfl hd_X4_placeAlong ⟨Nat.le_of_ble_eq_true rfl, Nat.le_of_ble_eq_true rfl⟩) (pPcV (ci := 8) (q0 := 6) hK hP rfl rfl) rfl rfl hl.1 rfl (lv_room (Nat.le_of_ble_eq_true rfl)) dX5_order_34 ⟨Nat.le_of_ble_eq_true rfl, Nat.le_of_ble_eq_true rfl⟩) hP hS (fun H hP hS => ?_)
        refine lv_goto (tgt := 41) hx hb dX5_order_37 (by decide) ?_
        exact rp_i hQ hx hb hr hlk hS (Eq.symm (by subst ey3; simp only [f_X5_order, if_neg c1, if_neg c2, if_pos c4])) dX5_order_41
/-! X5_line -/
theorem hs_X5_line : yX5_line.cls ≠ "java/lang/invoke/MethodHandle" ∧ yX5_line.cls ≠ "java/lang/invoke/VarHandle" ∧ (parseMethodDescriptor yX5_line.desc).map (fun d => d.parameters.length) = some 2 := by decide +kernel
theorem hd_X5_line : yX5_line.cls = RX5 ∧ yX5_line.cls ≠ "java/lang/invoke/MethodHandle" ∧ yX5_line.cls ≠ "java/lang/invoke/VarHandle" ∧ (parseMethodDescriptor yX5_line.desc).map (fun d => d.parameters.length) = some 2 := ⟨rfl, hs_X5_line⟩
def f_X5_line (xs : Nat → Int32) (ys : Nat → Int32) (lp : Nat → Int64) (lq : Nat → Int64) (lr : Nat → Int64) (v0 : Int32) (v6 : Int32) (p1 : Int32) (p2 : Int32) : Int32 × (Nat → Int64) × (Nat → Int64) × (Nat → Int64) × Int32 := (if (f_X2_has v0 p1) = 0 then ((-2 : Int32), lp, lq, lr, v6) else (if (f_X2_has v0 p2) = 0 then ((-2 : Int32), lp, lq, lr, v6) else (if (f_X2_equal xs ys p1 p2) = 0 then (((f_X1_add xs ys lp lq lr v6 p1 p2).1), ((f_X1_add xs ys lp lq lr v6 p1 p2).2.1), ((f_X1_add xs ys lp lq lr v6 p1 p2).2.2.1), ((f_X1_add xs ys lp lq lr v6 p1 p2).2.2.2.1), ((f_X1_add xs ys lp lq lr v6 p1 p2).2.2.2.2)) else ((-4 : Int32), lp, lq, lr, v6))))
abbrev rm_X5_line : Room := { frames := 3, cells := 0, slots := 0, locals := 66 }
set_option maxHeartbeats 8000000 in
set_option maxRecDepth 100000 in
theorem c_X5_line (l : Launch) (dC : Nat → ClassId) (dI : Nat → Nat → Nat) (a : Nat → Nat) (cI cJ : ClassId) (xs : Nat → Int32) (ys : Nat → Int32) (pl : Nat → Int32) (kp : Nat → Int32) (lp : Nat → Int64) (lq : Nat → Int64) (lr : Nat → Int64) (v0 : Int32) (v1 : Int32) (v2 : Int32) (v3 : Int32) (v4 : Int32) (v5 : Int32) (v6 : Int32) (v7 : Int32) (v8 : Int32) (v9 : Int32) (v10 : Int32) (p1 : Int32) (p2 : Int32) (hv0 : v0 ≤ 60) (hg : 0 ≤ v6) : Met l yX5_line (Cond.code yX5_line cX5_line 3 (some .int) :: lw_G) rm_X5_line (wPc (dC, dI) (tIJ cI cJ) (wC a cI cJ xs ys pl kp lp lq lr v0 v1 v2 v3 v4 v5 v6 v7 v8 v9 v10) [.ref (a 0), .int p1, .int p2]) (wQi (dC, dI) (wA (wC a cI cJ xs ys pl kp lp lq lr v0 v1 v2 v3 v4 v5 v6 v7 v8 v9 v10)) (wC a cI cJ xs ys pl kp ((f_X5_line xs ys lp lq lr v0 v6 p1 p2).2.1) ((f_X5_line xs ys lp lq lr v0 v6 p1 p2).2.2.1) ((f_X5_line xs ys lp lq lr v0 v6 p1 p2).2.2.2.1) v0 v1 v2 v3 v4 v5 ((f_X5_line xs ys lp lq lr v0 v6 p1 p2).2.2.2.2) v7 v8 v9 v10) (f_X5_line xs ys lp lq lr v0 v6 p1 p2).1) 0 0 (wA (wC a cI cJ xs ys pl kp lp lq lr v0 v1 v2 v3 v4 v5 v6 v7 v8 v9 v10)) := by
  refine wm_of (by decide) (Nat.le_of_ble_eq_true rfl) ?_
  intro p e s m args below meth c Q ls hQ hx hb hr hlk hml hown hts hP hK hD hS hl
  have hown : s.vm.findClass RX5 = some m.cls := hown
  have hl : lv_has ls 3 [(0, .ref (a 0)), (1, .int p1), (2, .int p2)] := hl
  generalize hAe : wA (wC a cI cJ xs ys pl kp lp lq lr v0 v1 v2 v3 v4 v5 v6 v7 v8 v9 v10) = A at hQ hD hS
  refine lv_aload_n hx hb dX5_line_0 rfl (lv_at hl 0 rfl) ?_
  refine va_get (D := (dC, dI)) (ci := 9) (v := .ref (a 1)) (C := RX5) (T := TX5) (N := 5) hx hb hts (fun _ h => gI_wsX50 h) hown hK.1 hP 0 rfl rfl 0 (by decide) (hts _ mG_1_17) (fun _ h9 => h9) rfl dX5_line_1 ?_
  refine lv_iload_n hx hb dX5_line_4 rfl (lv_at hl 1 rfl) ?_
  refine cp_i (va_runV (As := [.int p1]) (rest := []) ⟨hx, hb, hml, hown, hts⟩ (c_X2_has l dC dI a cI cJ xs ys pl kp lp lq lr v0 v1 v2 v3 v4 v5 v6 v7 v8 v9 v10 p1 ) (cwV 1 hts (gG_V mG_7_13 mG_7_14 mG_7_15 mG_1_16 (gG_c mG_7_16 gG_G)) rfl rfl rfl hd_X2_has ⟨Nat.le_of_ble_eq_true rfl, Nat.le_of_ble_eq_true rfl⟩) (pPcV (ci := 6) (q0 := 1) hK hP rfl rfl) rfl rfl hl.1 rfl (lv_room (Nat.le_of_ble_eq_true rfl)) dX5_line_5 ⟨Nat.le_of_ble_eq_true rfl, Nat.le_of_ble_eq_true rfl⟩) hP hS (fun H hP hS => ?_)
  refine lv_if_eq (tgt := 22) hx hb dX5_line_8 (by decide) (fun c1 => ?_) (fun c1 => ?_)
  · skip
    refine lv_bipush (v := (-2 : Int32)) hx hb dX5_line_22 (by decide) ?_
    have hE : (f_X5_line xs ys lp lq lr v0 v6 p1 p2) = ((-2 : Int32), lp, lq, lr, v6) := (by simp only [f_X5_line, if_pos c1])
    exact rw_i hQ hx hb hr hlk (by rw [hE]; exact hP) hS (by rw [hE]) dX5_line_24
  · skip
    have hi1 : vp_in p1 60 := in_has hv0 c1
    refine lv_aload_n hx hb dX5_line_11 rfl (lv_at hl 0 rfl) ?_
    refine va_get (D := (dC, dI)) (ci := 9) (v := .ref (a 1)) (C := RX5) (T := TX5) (N := 5) hx hb hts (fun _ h => gI_wsX50 h) hown hK.1 hP 0 rfl rfl 0 (by decide) (hts _ mG_1_17) (fun _ h9 => h9) rfl dX5_line_12 ?_
    refine lv_iload_n hx hb dX5_line_15 rfl (lv_at hl 2 rfl) ?_
    refine cp_i (va_runV (As := [.int p2]) (rest := []) ⟨hx, hb, hml, hown, hts⟩ (c_X2_has l dC dI a cI cJ xs ys pl kp lp lq lr v0 v1 v2 v3 v4 v5 v6 v7 v8 v9 v10 p2 ) (cwV 1 hts (gG_V mG_7_13 mG_7_14 mG_7_15 mG_1_16 (gG_c mG_7_16 gG_G)) rfl rfl rfl hd_X2_has ⟨Nat.le_of_ble_eq_true rfl, Nat.le_of_ble_eq_true rfl⟩) (pPcV (ci := 6) (q0 := 1) hK hP rfl rfl) rfl rfl hl.1 rfl (lv_room (Nat.le_of_ble_eq_true rfl)) dX5_line_16 ⟨Nat.le_of_ble_eq_true rfl, Nat.le_of_ble_eq_true rfl⟩) hP hS (fun H hP hS => ?_)
    refine lv_if_ne (tgt := 25) hx hb dX5_line_19 (by decide) (fun c2 => ?_) (fun c2 => ?_)
    · skip
      have hi2 : vp_in p2 60 := in_has hv0 c2
      refine lv_aload_n hx hb dX5_line_25 rfl (lv_at hl 0 rfl) ?_
      refine va_get (D := (dC, dI)) (ci := 9) (v := .ref (a 1)) (C := RX5) (T := TX5) (N := 5) hx hb hts (fun _ h => gI_wsX50 h) hown hK.1 hP 0 rfl rfl 0 (by decide) (hts _ mG_1_17) (fun _ h9 => h9) rfl dX5_line_26 ?_
      refine lv_iload_n hx hb dX5_line_29 rfl (lv_at hl 1 rfl) ?_
      refine lv_iload_n hx hb dX5_line_30 rfl (lv_at hl 2 rfl) ?_
      refine cp_i (va_runV (As := [.int p1, .int p2]) (rest := []) ⟨hx, hb, hml, hown, hts⟩ (c_X2_equal l dC dI a cI cJ xs ys pl kp lp lq lr v0 v1 v2 v3 v4 v5 v6 v7 v8 v9 v10 p1 p2 (by first | with_reducible assumption | exact in0_24 | exact in0_60 | decide) (by first | with_reducible assumption | exact in0_24 | exact in0_60 | decide)) (cwV 2 hts (gG_V mG_9_16 mG_9_17 mG_9_18 mG_1_16 (gG_c mG_9_19 gG_G)) rfl rfl rfl hd_X2_equal ⟨Nat.le_of_ble_eq_true rfl, Nat.le_of_ble_eq_true rfl⟩) (pPcV (ci := 6) (q0 := 1) hK hP rfl rfl) rfl rfl hl.1 rfl (lv_room (Nat.le_of_ble_eq_true rfl)) dX5_line_31 ⟨Nat.le_of_ble_eq_true rfl, Nat.le_of_ble_eq_true rfl⟩) hP hS (fun H hP hS => ?_)
      refine lv_if_eq (tgt := 40) hx hb dX5_line_34 (by decide) (fun c3 => ?_) (fun c3 => ?_)
      · skip
        refine lv_aload_n hx hb dX5_line_40 rfl (lv_at hl 0 rfl) ?_
        refine va_get (D := (dC, dI)) (ci := 9) (v := .ref (a 8)) (C := RX5) (T := TX5) (N := 5) hx hb hts (fun _ h => gI_wsX50 h) hown hK.1 hP 0 rfl rfl 4 (by decide) (hts _ mG_2_9) (fun _ h9 => h9) rfl dX5_line_41 ?_
        refine lv_iload_n hx hb dX5_line_44 rfl (lv_at hl 1 rfl) ?_
        refine lv_iload_n hx hb dX5_line_45 rfl (lv_at hl 2 rfl) ?_
        refine cw_i (va_runV (As := [.int p1, .int p2]) (rest := []) ⟨hx, hb, hml, hown, hts⟩ (c_X1_add l dC dI a cI cJ xs ys pl kp lp lq lr v0 v1 v2 v3 v4 v5 v6 v7 v8 v9 v10 p1 p2 (by first | with_reducible assumption | exact in0_24 | exact in0_60 | decide) (by first | with_reducible assumption | exact in0_24 | exact in0_60 | decide) (by first | with_reducible assumption | exact in0_24 | exact in0_60 | decide)) (cwV 2 hts (gG_V mG_27_12 mG_27_13 mG_27_14 mG_2_8 (gG_c mG_27_15 gG_G)) rfl rfl rfl hd_X1_add ⟨Nat.le_of_ble_eq_true rfl, Nat.le_of_ble_eq_true rfl⟩) (wPcV (ci := 5) (q0 := 8) hK hP hD rfl rfl) rfl rfl hl.1 rfl (lv_room (Nat.le_of_ble_eq_true rfl)) dX5_line_46 ⟨Nat.le_of_ble_eq_true rfl, Nat.le_of_ble_eq_true rfl⟩) (wA.sub hD) hS (fun H locs hP hk1 hS => ?_)
        have hD := hD.addr (w1 := (wC a cI cJ xs ys pl kp ((f_X1_add xs ys lp lq lr v6 p1 p2).2.1) ((f_X1_add xs ys lp lq lr v6 p1 p2).2.2.1) ((f_X1_add xs ys lp lq lr v6 p1 p2).2.2.2.1) v0 v1 v2 v3 v4 v5 ((f_X1_add xs ys lp lq lr v6 p1 p2).2.2.2.2) v7 v8 v9 v10)) rfl
        have hE : (f_X5_line xs ys lp lq lr v0 v6 p1 p2) = (((f_X1_add xs ys lp lq lr v6 p1 p2).1), ((f_X1_add xs ys lp lq lr v6 p1 p2).2.1), ((f_X1_add xs ys lp lq lr v6 p1 p2).2.2.1), ((f_X1_add xs ys lp lq lr v6 p1 p2).2.2.2.1), ((f_X1_add xs ys lp lq lr v6 p1 p2).2.2.2.2)) := (by simp only [f_X5_line, if_neg c1, if_neg c2, if_pos c3])
        exact rw_i hQ hx hb hr hlk (by rw [hE]; exact hP) hS (by rw [hE]) dX5_line_49
      · skip
        refine lv_bipush (v := (-4 : Int32)) hx hb dX5_line_37 (by decide) ?_
        have hE : (f_X5_line xs ys lp lq lr v0 v6 p1 p2) = ((-4 : Int32), lp, lq, lr, v6) := (by simp only [f_X5_line, if_neg c1, if_neg c2, if_neg c3])
        exact rw_i hQ hx hb hr hlk (by rw [hE]; exact hP) hS (by rw [hE]) dX5_line_39
    · skip
      refine lv_bipush (v := (-2 : Int32)) hx hb dX5_line_22 (by decide) ?_
      have hE : (f_X5_line xs ys lp lq lr v0 v6 p1 p2) = ((-2 : Int32), lp, lq, lr, v6) := (by simp only [f_X5_line, if_neg c1, if_pos c2])
      exact rw_i hQ hx hb hr hlk (by rw [hE]; exact hP) hS (by rw [hE]) dX5_line_24
/-! X5_lines -/
theorem hs_X5_lines : yX5_lines.cls ≠ "java/lang/invoke/MethodHandle" ∧ yX5_lines.cls ≠ "java/lang/invoke/VarHandle" ∧ (parseMethodDescriptor yX5_lines.desc).map (fun d => d.parameters.length) = some 2 := by decide +kernel
theorem hd_X5_lines : yX5_lines.cls = RX5 ∧ yX5_lines.cls ≠ "java/lang/invoke/MethodHandle" ∧ yX5_lines.cls ≠ "java/lang/invoke/VarHandle" ∧ (parseMethodDescriptor yX5_lines.desc).map (fun d => d.parameters.length) = some 2 := ⟨rfl, hs_X5_lines⟩
def f_X5_lines (kp : Nat → Int32) (lp : Nat → Int64) (lq : Nat → Int64) (lr : Nat → Int64) (v6 : Int32) (v7 : Int32) (v8 : Int32) (v9 : Int32) (v10 : Int32) (p1 : Int32) (p2 : Int32) : Int32 × (Nat → Int32) × Int32 × Int32 × Int32 × Int32 := (if p1 < 0 then ((-2 : Int32), kp, v7, v8, v9, v10) else (if v6 < p1 then ((-2 : Int32), kp, v7, v8, v9, v10) else (if p2 < 0 then ((-2 : Int32), kp, v7, v8, v9, v10) else (if p2 ≤ (5 : Int32) then (if p2 = 0 then (((f_X1_survey kp lp lq lr v7 v8 v9 v10 p1).2.1), ((f_X1_survey kp lp lq lr v7 v8 v9 v10 p1).1), ((f_X1_survey kp lp lq lr v7 v8 v9 v10 p1).2.1), ((f_X1_survey kp lp lq lr v7 v8 v9 v10 p1).2.2.1), ((f_X1_survey kp lp lq lr v7 v8 v9 v10 p1).2.2.2.1), ((f_X1_survey kp lp lq lr v7 v8 v9 v10 p1).2.2.2.2)) else (if p2 = 1 then (((f_X1_survey kp lp lq lr v7 v8 v9 v10 p1).2.2.1), ((f_X1_survey kp lp lq lr v7 v8 v9 v10 p1).1), ((f_X1_survey kp lp lq lr v7 v8 v9 v10 p1).2.1), ((f_X1_survey kp lp lq lr v7 v8 v9 v10 p1).2.2.1), ((f_X1_survey kp lp lq lr v7 v8 v9 v10 p1).2.2.2.1), ((f_X1_survey kp lp lq lr v7 v8 v9 v10 p1).2.2.2.2)) else (if p2 = 2 then ((f_X1_cells ((f_X1_survey kp lp lq lr v7 v8 v9 v10 p1).2.1) ((f_X1_survey kp lp lq lr v7 v8 v9 v10 p1).2.2.1) ((f_X1_survey kp lp lq lr v7 v8 v9 v10 p1).2.2.2.2)), ((f_X1_survey kp lp lq lr v7 v8 v9 v10 p1).1), ((f_X1_survey kp lp lq lr v7 v8 v9 v10 p1).2.1), ((f_X1_survey kp lp lq lr v7 v8 v9 v10 p1).2.2.1), ((f_X1_survey kp lp lq lr v7 v8 v9 v10 p1).2.2.2.1), ((f_X1_survey kp lp lq lr v7 v8 v9 v10 p1).2.2.2.2)) else (if p2 = 3 then ((f_X1_pieces ((f_X1_survey kp lp lq lr v7 v8 v9 v10 p1).2.1) ((f_X1_survey kp lp lq lr v7 v8 v9 v10 p1).2.2.2.2)), ((f_X1_survey kp lp lq lr v7 v8 v9 v10 p1).1), ((f_X1_survey kp lp lq lr v7 v8 v9 v10 p1).2.1), ((f_X1_survey kp lp lq lr v7 v8 v9 v10 p1).2.2.1), ((f_X1_survey kp lp lq lr v7 v8 v9 v10 p1).2.2.2.1), ((f_X1_survey kp lp lq lr v7 v8 v9 v10 p1).2.2.2.2)) else (if p2 = 4 then ((f_X1_closedCells ((f_X1_survey kp lp lq lr v7 v8 v9 v10 p1).2.1) ((f_X1_survey kp lp lq lr v7 v8 v9 v10 p1).2.2.1) ((f_X1_survey kp lp lq lr v7 v8 v9 v10 p1).2.2.2.2)), ((f_X1_survey kp lp lq lr v7 v8 v9 v10 p1).1), ((f_X1_survey kp lp lq lr v7 v8 v9 v10 p1).2.1), ((f_X1_survey kp lp lq lr v7 v8 v9 v10 p1).2.2.1), ((f_X1_survey kp lp lq lr v7 v8 v9 v10 p1).2.2.2.1), ((f_X1_survey kp lp lq lr v7 v8 v9 v10 p1).2.2.2.2)) else (((f_X1_survey kp lp lq lr v7 v8 v9 v10 p1).2.2.2.1), ((f_X1_survey kp lp lq lr v7 v8 v9 v10 p1).1), ((f_X1_survey kp lp lq lr v7 v8 v9 v10 p1).2.1), ((f_X1_survey kp lp lq lr v7 v8 v9 v10 p1).2.2.1), ((f_X1_survey kp lp lq lr v7 v8 v9 v10 p1).2.2.2.1), ((f_X1_survey kp lp lq lr v7 v8 v9 v10 p1).2.2.2.2))))))) else ((-2 : Int32), kp, v7, v8, v9, v10)))))
abbrev rm_X5_lines : Room := { frames := 5, cells := 0, slots := 0, locals := 112 }
set_option maxHeartbeats 8000000 in
set_option maxRecDepth 100000 in
theorem c_X5_lines (l : Launch) (dC : Nat → ClassId) (dI : Nat → Nat → Nat) (a : Nat → Nat) (cI cJ : ClassId) (xs : Nat → Int32) (ys : Nat → Int32) (pl : Nat → Int32) (kp : Nat → Int32) (lp : Nat → Int64) (lq : Nat → Int64) (lr : Nat → Int64) (v0 : Int32) (v1 : Int32) (v2 : Int32) (v3 : Int32) (v4 : Int32) (v5 : Int32) (v6 : Int32) (v7 : Int32) (v8 : Int32) (v9 : Int32) (v10 : Int32) (p1 : Int32) (p2 : Int32) (hl6 : v6 ≤ 12) : Met l yX5_lines (Cond.code yX5_lines cX5_lines 3 (some .int) :: lw_G) rm_X5_lines (wPc (dC, dI) (tIJ cI cJ) (wC a cI cJ xs ys pl kp lp lq lr v0 v1 v2 v3 v4 v5 v6 v7 v8 v9 v10) [.ref (a 0), .int p1, .int p2]) (wQi (dC, dI) (wA (wC a cI cJ xs ys pl kp lp lq lr v0 v1 v2 v3 v4 v5 v6 v7 v8 v9 v10)) (wC a cI cJ xs ys pl ((f_X5_lines kp lp lq lr v6 v7 v8 v9 v10 p1 p2).2.1) lp lq lr v0 v1 v2 v3 v4 v5 v6 ((f_X5_lines kp lp lq lr v6 v7 v8 v9 v10 p1 p2).2.2.1) ((f_X5_lines kp lp lq lr v6 v7 v8 v9 v10 p1 p2).2.2.2.1) ((f_X5_lines kp lp lq lr v6 v7 v8 v9 v10 p1 p2).2.2.2.2.1) ((f_X5_lines kp lp lq lr v6 v7 v8 v9 v10 p1 p2).2.2.2.2.2)) (f_X5_lines kp lp lq lr v6 v7 v8 v9 v10 p1 p2).1) 0 0 (wA (wC a cI cJ xs ys pl kp lp lq lr v0 v1 v2 v3 v4 v5 v6 v7 v8 v9 v10)) := by
  refine wm_of (by decide) (Nat.le_of_ble_eq_true rfl) ?_
  intro p e s m args below meth c Q ls hQ hx hb hr hlk hml hown hts hP hK hD hS hl
  have hown : s.vm.findClass RX5 = some m.cls := hown
  have hl : lv_has ls 3 [(0, .ref (a 0)), (1, .int p1), (2, .int p2)] := hl
  generalize hAe : wA (wC a cI cJ xs ys pl kp lp lq lr v0 v1 v2 v3 v4 v5 v6 v7 v8 v9 v10) = A at hQ hD hS
  refine lv_iload_n hx hb dX5_lines_0 rfl (lv_at hl 1 rfl) ?_
  refine lv_if_lt (tgt := 24) hx hb dX5_lines_1 (by decide) (fun c1 => ?_) (fun c1 => ?_)
  · skip
    refine lv_bipush (v := (-2 : Int32)) hx hb dX5_lines_24 (by decide) ?_
    have hE : (f_X5_lines kp lp lq lr v6 v7 v8 v9 v10 p1 p2) = ((-2 : Int32), kp, v7, v8, v9, v10) := (by simp only [f_X5_lines, if_pos c1])
    exact rw_i hQ hx hb hr hlk (by rw [hE]; exact hP) hS (by rw [hE]) dX5_lines_26
  · skip
    refine lv_iload_n hx hb dX5_lines_4 rfl (lv_at hl 1 rfl) ?_
    refine lv_aload_n hx hb dX5_lines_5 rfl (lv_at hl 0 rfl) ?_
    refine va_get (D := (dC, dI)) (ci := 9) (v := .ref (a 8)) (C := RX5) (T := TX5) (N := 5) hx hb hts (fun _ h => gI_wsX50 h) hown hK.1 hP 0 rfl rfl 4 (by decide) (hts _ mG_2_9) (fun _ h9 => h9) rfl dX5_lines_6 ?_
    refine va_get (D := (dC, dI)) (ci := 5) (v := .int v6) (C := RX1) (T := TX1) (N := 10) hx hb hts (fun _ h => gI_wsX10 h) hown hK.1 hP 8 rfl rfl 4 (by decide) (hts _ mG_28_3) (fun _ h9 => h9) rfl dX5_lines_9 ?_
    refine lv_icmp_gt (tgt := 24) hx hb dX5_lines_12 (by decide) (fun c2 => ?_) (fun c2 => ?_)
    · skip
      refine lv_bipush (v := (-2 : Int32)) hx hb dX5_lines_24 (by decide) ?_
      have hE : (f_X5_lines kp lp lq lr v6 v7 v8 v9 v10 p1 p2) = ((-2 : Int32), kp, v7, v8, v9, v10) := (by simp only [f_X5_lines, if_neg c1, if_pos c2])
      exact rw_i hQ hx hb hr hlk (by rw [hE]; exact hP) hS (by rw [hE]) dX5_lines_26
    · skip
      have hp : p1 ≤ 12 := Int32.le_trans (Int32.not_lt.mp c2) hl6
      refine lv_iload_n hx hb dX5_lines_15 rfl (lv_at hl 2 rfl) ?_
      refine lv_if_lt (tgt := 24) hx hb dX5_lines_16 (by decide) (fun c3 => ?_) (fun c3 => ?_)
      · skip
        refine lv_bipush (v := (-2 : Int32)) hx hb dX5_lines_24 (by decide) ?_
        have hE : (f_X5_lines kp lp lq lr v6 v7 v8 v9 v10 p1 p2) = ((-2 : Int32), kp, v7, v8, v9, v10) := (by simp only [f_X5_lines, if_neg c1, if_neg c2, if_pos c3])
        exact rw_i hQ hx hb hr hlk (by rw [hE]; exact hP) hS (by rw [hE]) dX5_lines_26
      · skip
        refine lv_iload_n hx hb dX5_lines_19 rfl (lv_at hl 2 rfl) ?_
        refine lv_iconst (v := (5 : Int32)) hx hb dX5_lines_20 (by decide) ?_
        refine lv_icmp_le (tgt := 27) hx hb dX5_lines_21 (by decide) (fun c4 => ?_) (fun c4 => ?_)
        · skip
          refine lv_aload_n hx hb dX5_lines_27 rfl (lv_at hl 0 rfl) ?_
          refine va_get (D := (dC, dI)) (ci := 9) (v := .ref (a 8)) (C := RX5) (T := TX5) (N := 5) hx hb hts (fun _ h => gI_wsX50 h) hown hK.1 hP 0 rfl rfl 4 (by decide) (hts _ mG_2_9) (fun _ h9 => h9) rfl dX5_lines_28 ?_
          refine lv_iload_n hx hb dX5_lines_31 rfl (lv_at hl 1 rfl) ?_
          refine cw_v (va_runV (As := [.int p1]) (rest := []) ⟨hx, hb, hml, hown, hts⟩ (c_X1_survey l dC dI a cI cJ xs ys pl kp lp lq lr v0 v1 v2 v3 v4 v5 v6 v7 v8 v9 v10 p1 (by first | with_reducible assumption | exact in0_24 | exact in0_60 | decide)) (cwV 1 hts (gG_V mG_28_7 mG_28_8 mG_28_9 mG_2_8 (gG_c mG_28_10 gG_G)) rfl rfl rfl hd_X1_survey ⟨Nat.le_of_ble_eq_true rfl, Nat.le_of_ble_eq_true rfl⟩) (wPcV (ci := 5) (q0 := 8) hK hP hD rfl rfl) rfl rfl hl.1 rfl (lv_room (Nat.le_of_ble_eq_true rfl)) dX5_lines_32 ⟨Nat.le_of_ble_eq_true rfl, Nat.le_of_ble_eq_true rfl⟩) (wA.sub hD) hS (fun H locs hP hk1 hS => ?_)
          have hD := hD.addr (w1 := (wC a cI cJ xs ys pl ((f_X1_survey kp lp lq lr v7 v8 v9 v10 p1).1) lp lq lr v0 v1 v2 v3 v4 v5 v6 ((f_X1_survey kp lp lq lr v7 v8 v9 v10 p1).2.1) ((f_X1_survey kp lp lq lr v7 v8 v9 v10 p1).2.2.1) ((f_X1_survey kp lp lq lr v7 v8 v9 v10 p1).2.2.2.1) ((f_X1_survey kp lp lq lr v7 v8 v9 v10 p1).2.2.2.2))) rfl
          refine lv_iload_n hx hb dX5_lines_35 rfl (lv_at hl 2 rfl) ?_
          by_cases c5 : p2 = 0
          · refine lv_tableIn (off := 36) (tgt := 72) hx hb dX5_lines_36 (by rw [c5]; decide) (by rw [c5]; decide) (by rw [c5]; rfl) (by decide) ?_
            refine lv_aload_n hx hb dX5_lines_72 rfl (lv_at hl 0 rfl) ?_
            refine va_get (D := (dC, dI)) (ci := 9) (v := .ref (a 8)) (C := RX5) (T := TX5) (N := 5) hx hb hts (fun _ h => gI_wsX50 h) hown hK.1 hP 0 rfl rfl 4 (by decide) (hts _ mG_2_9) (fun _ h9 => h9) rfl dX5_lines_73 ?_
            refine va_get (D := (dC, dI)) (ci := 5) (v := .int ((f_X1_survey kp lp lq lr v7 v8 v9 v10 p1).2.1)) (C := RX1) (T := TX1) (N := 10) hx hb hts (fun _ h => gI_wsX10 h) hown hK.1 hP 8 rfl rfl 6 (by decide) (hts _ mG_28_4) (fun _ h9 => h9) rfl dX5_lines_76 ?_
            have hE : (f_X5_lines kp lp lq lr v6 v7 v8 v9 v10 p1 p2) = (((f_X1_survey kp lp lq lr v7 v8 v9 v10 p1).2.1), ((f_X1_survey kp lp lq lr v7 v8 v9 v10 p1).1), ((f_X1_survey kp lp lq lr v7 v8 v9 v10 p1).2.1), ((f_X1_survey kp lp lq lr v7 v8 v9 v10 p1).2.2.1), ((f_X1_survey kp lp lq lr v7 v8 v9 v10 p1).2.2.2.1), ((f_X1_survey kp lp lq lr v7 v8 v9 v10 p1).2.2.2.2)) := (by simp only [f_X5_lines, if_neg c1, if_neg c2, if_neg c3, if_pos c4, if_pos c5])
            exact rw_i hQ hx hb hr hlk (by rw [hE]; exact hP) hS (by rw [hE]) dX5_lines_79
          by_cases c6 : p2 = 1
          · refine lv_tableIn (off := 44) (tgt := 80) hx hb dX5_lines_36 (by rw [c6]; decide) (by rw [c6]; decide) (by rw [c6]; rfl) (by decide) ?_
            refine lv_aload_n hx hb dX5_lines_80 rfl (lv_at hl 0 rfl) ?_
            refine va_get (D := (dC, dI)) (ci := 9) (v := .ref (a 8)) (C := RX5) (T := TX5) (N := 5) hx hb hts (fun _ h => gI_wsX50 h) hown hK.1 hP 0 rfl rfl 4 (by decide) (hts _ mG_2_9) (fun _ h9 => h9) rfl dX5_lines_81 ?_
            refine va_get (D := (dC, dI)) (ci := 5) (v := .int ((f_X1_survey kp lp lq lr v7 v8 v9 v10 p1).2.2.1)) (C := RX1) (T := TX1) (N := 10) hx hb hts (fun _ h => gI_wsX10 h) hown hK.1 hP 8 rfl rfl 7 (by decide) (hts _ mG_28_5) (fun _ h9 => h9) rfl dX5_lines_84 ?_
            have hE : (f_X5_lines kp lp lq lr v6 v7 v8 v9 v10 p1 p2) = (((f_X1_survey kp lp lq lr v7 v8 v9 v10 p1).2.2.1), ((f_X1_survey kp lp lq lr v7 v8 v9 v10 p1).1), ((f_X1_survey kp lp lq lr v7 v8 v9 v10 p1).2.1), ((f_X1_survey kp lp lq lr v7 v8 v9 v10 p1).2.2.1), ((f_X1_survey kp lp lq lr v7 v8 v9 v10 p1).2.2.2.1), ((f_X1_survey kp lp lq lr v7 v8 v9 v10 p1).2.2.2.2)) := (by simp only [f_X5_lines, if_neg c1, if_neg c2, if_neg c3, if_pos c4, if_neg c5, if_pos c6])
            exact rw_i hQ hx hb hr hlk (by rw [hE]; exact hP) hS (by rw [hE]) dX5_lines_87
          by_cases c7 : p2 = 2
          · refine lv_tableIn (off := 52) (tgt := 88) hx hb dX5_lines_36 (by rw [c7]; decide) (by rw [c7]; decide) (by rw [c7]; rfl) (by decide) ?_
            refine lv_aload_n hx hb dX5_lines_88 rfl (lv_at hl 0 rfl) ?_
            refine va_get (D := (dC, dI)) (ci := 9) (v := .ref (a 8)) (C := RX5) (T := TX5) (N := 5) hx hb hts (fun _ h => gI_wsX50 h) hown hK.1 hP 0 rfl rfl 4 (by decide) (hts _ mG_2_9) (fun _ h9 => h9) rfl dX5_lines_89 ?_
            refine cp_i (va_runV (As := []) (rest := []) ⟨hx, hb, hml, hown, hts⟩ (c_X1_cells l dC dI a cI cJ xs ys pl ((f_X1_survey kp lp lq lr v7 v8 v9 v10 p1).1) lp lq lr v0 v1 v2 v3 v4 v5 v6 ((f_X1_survey kp lp lq lr v7 v8 v9 v10 p1).2.1) ((f_X1_survey kp lp lq lr v7 v8 v9 v10 p1).2.2.1) ((f_X1_survey kp lp lq lr v7 v8 v9 v10 p1).2.2.2.1) ((f_X1_survey kp lp lq lr v7 v8 v9 v10 p1).2.2.2.2)  ) (cwV 0 hts (gG_V mG_29_12 mG_29_13 mG_29_14 mG_2_8 (gG_c mG_29_15 gG_G)) rfl rfl rfl hd_X1_cells ⟨Nat.le_of_ble_eq_true rfl, Nat.le_of_ble_eq_true rfl⟩) (pPcV (ci := 5) (q0 := 8) hK hP rfl rfl) rfl rfl hl.1 rfl (lv_room (Nat.le_of_ble_eq_true rfl)) dX5_lines_92 ⟨Nat.le_of_ble_eq_true rfl, Nat.le_of_ble_eq_true rfl⟩) hP hS (fun H hP hS => ?_)
            have hE : (f_X5_lines kp lp lq lr v6 v7 v8 v9 v10 p1 p2) = ((f_X1_cells ((f_X1_survey kp lp lq lr v7 v8 v9 v10 p1).2.1) ((f_X1_survey kp lp lq lr v7 v8 v9 v10 p1).2.2.1) ((f_X1_survey kp lp lq lr v7 v8 v9 v10 p1).2.2.2.2)), ((f_X1_survey kp lp lq lr v7 v8 v9 v10 p1).1), ((f_X1_survey kp lp lq lr v7 v8 v9 v10 p1).2.1), ((f_X1_survey kp lp lq lr v7 v8 v9 v10 p1).2.2.1), ((f_X1_survey kp lp lq lr v7 v8 v9 v10 p1).2.2.2.1), ((f_X1_survey kp lp lq lr v7 v8 v9 v10 p1).2.2.2.2)) := (by simp only [f_X5_lines, if_neg c1, if_neg c2, if_neg c3, if_pos c4, if_neg c5, if_neg c6, if_pos c7])
            exact rw_i hQ hx hb hr hlk (by rw [hE]; exact hP) hS (by rw [hE]) dX5_lines_95
          by_cases c8 : p2 = 3
          · refine lv_tableIn (off := 60) (tgt := 96) hx hb dX5_lines_36 (by rw [c8]; decide) (by rw [c8]; decide) (by rw [c8]; rfl) (by decide) ?_
            refine lv_aload_n hx hb dX5_lines_96 rfl (lv_at hl 0 rfl) ?_
            refine va_get (D := (dC, dI)) (ci := 9) (v := .ref (a 8)) (C := RX5) (T := TX5) (N := 5) hx hb hts (fun _ h => gI_wsX50 h) hown hK.1 hP 0 rfl rfl 4 (by decide) (hts _ mG_2_9) (fun _ h9 => h9) rfl dX5_lines_97 ?_
            refine cp_i (va_runV (As := []) (rest := []) ⟨hx, hb, hml, hown, hts⟩ (c_X1_pieces l dC dI a cI cJ xs ys pl ((f_X1_survey kp lp lq lr v7 v8 v9 v10 p1).1) lp lq lr v0 v1 v2 v3 v4 v5 v6 ((f_X1_survey kp lp lq lr v7 v8 v9 v10 p1).2.1) ((f_X1_survey kp lp lq lr v7 v8 v9 v10 p1).2.2.1) ((f_X1_survey kp lp lq lr v7 v8 v9 v10 p1).2.2.2.1) ((f_X1_survey kp lp lq lr v7 v8 v9 v10 p1).2.2.2.2)  ) (cwV 0 hts (gG_V mG_29_16 mG_29_17 mG_29_18 mG_2_8 (gG_c mG_29_19 gG_G)) rfl rfl rfl hd_X1_pieces ⟨Nat.le_of_ble_eq_true rfl, Nat.le_of_ble_eq_true rfl⟩) (pPcV (ci := 5) (q0 := 8) hK hP rfl rfl) rfl rfl hl.1 rfl (lv_room (Nat.le_of_ble_eq_true rfl)) dX5_lines_100 ⟨Nat.le_of_ble_eq_true rfl, Nat.le_of_ble_eq_true rfl⟩) hP hS (fun H hP hS => ?_)
            have hE : (f_X5_lines kp lp lq lr v6 v7 v8 v9 v10 p1 p2) = ((f_X1_pieces ((f_X1_survey kp lp lq lr v7 v8 v9 v10 p1).2.1) ((f_X1_survey kp lp lq lr v7 v8 v9 v10 p1).2.2.2.2)), ((f_X1_survey kp lp lq lr v7 v8 v9 v10 p1).1), ((f_X1_survey kp lp lq lr v7 v8 v9 v10 p1).2.1), ((f_X1_survey kp lp lq lr v7 v8 v9 v10 p1).2.2.1), ((f_X1_survey kp lp lq lr v7 v8 v9 v10 p1).2.2.2.1), ((f_X1_survey kp lp lq lr v7 v8 v9 v10 p1).2.2.2.2)) := (by simp only [f_X5_lines, if_neg c1, if_neg c2, if_neg c3, if_pos c4, if_neg c5, if_neg c6, if_neg c7, if_pos c8])
            exact rw_i hQ hx hb hr hlk (by rw [hE]; exact hP) hS (by rw [hE]) dX5_lines_103
          by_cases c9 : p2 = 4
          · refine lv_tableIn (off := 68) (tgt := 104) hx hb dX5_lines_36 (by rw [c9]; decide) (by rw [c9]; decide) (by rw [c9]; rfl) (by decide) ?_
            refine lv_aload_n hx hb dX5_lines_104 rfl (lv_at hl 0 rfl) ?_
            refine va_get (D := (dC, dI)) (ci := 9) (v := .ref (a 8)) (C := RX5) (T := TX5) (N := 5) hx hb hts (fun _ h => gI_wsX50 h) hown hK.1 hP 0 rfl rfl 4 (by decide) (hts _ mG_2_9) (fun _ h9 => h9) rfl dX5_lines_105 ?_
            refine cp_i (va_runV (As := []) (rest := []) ⟨hx, hb, hml, hown, hts⟩ (c_X1_closedCells l dC dI a cI cJ xs ys pl ((f_X1_survey kp lp lq lr v7 v8 v9 v10 p1).1) lp lq lr v0 v1 v2 v3 v4 v5 v6 ((f_X1_survey kp lp lq lr v7 v8 v9 v10 p1).2.1) ((f_X1_survey kp lp lq lr v7 v8 v9 v10 p1).2.2.1) ((f_X1_survey kp lp lq lr v7 v8 v9 v10 p1).2.2.2.1) ((f_X1_survey kp lp lq lr v7 v8 v9 v10 p1).2.2.2.2)  ) (cwV 0 hts (gG_V mG_29_20 mG_29_21 mG_29_22 mG_2_8 (gG_c mG_29_23 gG_G)) rfl rfl rfl hd_X1_closedCells ⟨Nat.le_of_ble_eq_true rfl, Nat.le_of_ble_eq_true rfl⟩) (pPcV (ci := 5) (q0 := 8) hK hP rfl rfl) rfl rfl hl.1 rfl (lv_room (Nat.le_of_ble_eq_true rfl)) dX5_lines_108 ⟨Nat.le_of_ble_eq_true rfl, Nat.le_of_ble_eq_true rfl⟩) hP hS (fun H hP hS => ?_)
            have hE : (f_X5_lines kp lp lq lr v6 v7 v8 v9 v10 p1 p2) = ((f_X1_closedCells ((f_X1_survey kp lp lq lr v7 v8 v9 v10 p1).2.1) ((f_X1_survey kp lp lq lr v7 v8 v9 v10 p1).2.2.1) ((f_X1_survey kp lp lq lr v7 v8 v9 v10 p1).2.2.2.2)), ((f_X1_survey kp lp lq lr v7 v8 v9 v10 p1).1), ((f_X1_survey kp lp lq lr v7 v8 v9 v10 p1).2.1), ((f_X1_survey kp lp lq lr v7 v8 v9 v10 p1).2.2.1), ((f_X1_survey kp lp lq lr v7 v8 v9 v10 p1).2.2.2.1), ((f_X1_survey kp lp lq lr v7 v8 v9 v10 p1).2.2.2.2)) := (by simp only [f_X5_lines, if_neg c1, if_neg c2, if_neg c3, if_pos c4, if_neg c5, if_neg c6, if_neg c7, if_neg c8, if_pos c9])
            exact rw_i hQ hx hb hr hlk (by rw [hE]; exact hP) hS (by rw [hE]) dX5_lines_111
          refine lv_tableOut (tgt := 112) hx hb dX5_lines_36 (sw_4 c5 c6 c7 c8 c9) (by decide) ?_
          refine lv_aload_n hx hb dX5_lines_112 rfl (lv_at hl 0 rfl) ?_
          refine va_get (D := (dC, dI)) (ci := 9) (v := .ref (a 8)) (C := RX5) (T := TX5) (N := 5) hx hb hts (fun _ h => gI_wsX50 h) hown hK.1 hP 0 rfl rfl 4 (by decide) (hts _ mG_2_9) (fun _ h9 => h9) rfl dX5_lines_113 ?_
          refine va_get (D := (dC, dI)) (ci := 5) (v := .int ((f_X1_survey kp lp lq lr v7 v8 v9 v10 p1).2.2.2.1)) (C := RX1) (T := TX1) (N := 10) hx hb hts (fun _ h => gI_wsX10 h) hown hK.1 hP 8 rfl rfl 8 (by decide) (hts _ mG_28_6) (fun _ h9 => h9) rfl dX5_lines_116 ?_
          have hE : (f_X5_lines kp lp lq lr v6 v7 v8 v9 v10 p1 p2) = (((f_X1_survey kp lp lq lr v7 v8 v9 v10 p1).2.2.2.1), ((f_X1_survey kp lp lq lr v7 v8 v9 v10 p1).1), ((f_X1_survey kp lp lq lr v7 v8 v9 v10 p1).2.1), ((f_X1_survey kp lp lq lr v7 v8 v9 v10 p1).2.2.1), ((f_X1_survey kp lp lq lr v7 v8 v9 v10 p1).2.2.2.1), ((f_X1_survey kp lp lq lr v7 v8 v9 v10 p1).2.2.2.2)) := (by simp only [f_X5_lines, if_neg c1, if_neg c2, if_neg c3, if_pos c4, if_neg c5, if_neg c6, if_neg c7, if_neg c8, if_neg c9])
          exact rw_i hQ hx hb hr hlk (by rw [hE]; exact hP) hS (by rw [hE]) dX5_lines_119
        · skip
          refine lv_bipush (v := (-2 : Int32)) hx hb dX5_lines_24 (by decide) ?_
          have hE : (f_X5_lines kp lp lq lr v6 v7 v8 v9 v10 p1 p2) = ((-2 : Int32), kp, v7, v8, v9, v10) := (by simp only [f_X5_lines, if_neg c1, if_neg c2, if_neg c3, if_neg c4])
          exact rw_i hQ hx hb hr hlk (by rw [hE]; exact hP) hS (by rw [hE]) dX5_lines_26
/-! X5_point -/
theorem hs_X5_point : yX5_point.cls ≠ "java/lang/invoke/MethodHandle" ∧ yX5_point.cls ≠ "java/lang/invoke/VarHandle" ∧ (parseMethodDescriptor yX5_point.desc).map (fun d => d.parameters.length) = some 3 := by decide +kernel
theorem hd_X5_point : yX5_point.cls = RX5 ∧ yX5_point.cls ≠ "java/lang/invoke/MethodHandle" ∧ yX5_point.cls ≠ "java/lang/invoke/VarHandle" ∧ (parseMethodDescriptor yX5_point.desc).map (fun d => d.parameters.length) = some 3 := ⟨rfl, hs_X5_point⟩
def f_X5_point (xs : Nat → Int32) (ys : Nat → Int32) (v0 : Int32) (p1 : Int64) (p2 : Int64) (p3 : Int64) : Int32 × (Nat → Int32) × (Nat → Int32) × Int32 := (if (f_X5_isCoordinate p1) = 0 then ((-2 : Int32), xs, ys, v0) else (if (f_X5_isCoordinate p2) = 0 then ((-2 : Int32), xs, ys, v0) else (if (f_X5_isDown p3) = 0 then ((-2 : Int32), xs, ys, v0) else (((f_X2_add xs ys v0 ((Int64.toInt32 p1) * ((12 : Int32) / (Int64.toInt32 p3))) ((Int64.toInt32 p2) * ((12 : Int32) / (Int64.toInt32 p3)))).1), ((f_X2_add xs ys v0 ((Int64.toInt32 p1) * ((12 : Int32) / (Int64.toInt32 p3))) ((Int64.toInt32 p2) * ((12 : Int32) / (Int64.toInt32 p3)))).2.1), ((f_X2_add xs ys v0 ((Int64.toInt32 p1) * ((12 : Int32) / (Int64.toInt32 p3))) ((Int64.toInt32 p2) * ((12 : Int32) / (Int64.toInt32 p3)))).2.2.1), ((f_X2_add xs ys v0 ((Int64.toInt32 p1) * ((12 : Int32) / (Int64.toInt32 p3))) ((Int64.toInt32 p2) * ((12 : Int32) / (Int64.toInt32 p3)))).2.2.2)))))
abbrev rm_X5_point : Room := { frames := 1, cells := 0, slots := 0, locals := 22 }
set_option maxHeartbeats 8000000 in
set_option maxRecDepth 100000 in
theorem c_X5_point (l : Launch) (dC : Nat → ClassId) (dI : Nat → Nat → Nat) (a : Nat → Nat) (cI cJ : ClassId) (xs : Nat → Int32) (ys : Nat → Int32) (pl : Nat → Int32) (kp : Nat → Int32) (lp : Nat → Int64) (lq : Nat → Int64) (lr : Nat → Int64) (v0 : Int32) (v1 : Int32) (v2 : Int32) (v3 : Int32) (v4 : Int32) (v5 : Int32) (v6 : Int32) (v7 : Int32) (v8 : Int32) (v9 : Int32) (v10 : Int32) (p1 : Int64) (p2 : Int64) (p3 : Int64) (hg : 0 ≤ v0) : Met l yX5_point (Cond.code yX5_point cX5_point 8 (some .int) :: lw_G) rm_X5_point (wPc (dC, dI) (tIJ cI cJ) (wC a cI cJ xs ys pl kp lp lq lr v0 v1 v2 v3 v4 v5 v6 v7 v8 v9 v10) [.ref (a 0), .long p1, .long p2, .long p3]) (wQi (dC, dI) (wA (wC a cI cJ xs ys pl kp lp lq lr v0 v1 v2 v3 v4 v5 v6 v7 v8 v9 v10)) (wC a cI cJ ((f_X5_point xs ys v0 p1 p2 p3).2.1) ((f_X5_point xs ys v0 p1 p2 p3).2.2.1) pl kp lp lq lr ((f_X5_point xs ys v0 p1 p2 p3).2.2.2) v1 v2 v3 v4 v5 v6 v7 v8 v9 v10) (f_X5_point xs ys v0 p1 p2 p3).1) 0 0 (wA (wC a cI cJ xs ys pl kp lp lq lr v0 v1 v2 v3 v4 v5 v6 v7 v8 v9 v10)) := by
  refine wm_of (by decide) (Nat.le_of_ble_eq_true rfl) ?_
  intro p e s m args below meth c Q ls hQ hx hb hr hlk hml hown hts hP hK hD hS hl
  have hown : s.vm.findClass RX5 = some m.cls := hown
  have hl : lv_has ls 8 [(0, .ref (a 0)), (1, .long p1), (3, .long p2), (5, .long p3)] := hl
  generalize hAe : wA (wC a cI cJ xs ys pl kp lp lq lr v0 v1 v2 v3 v4 v5 v6 v7 v8 v9 v10) = A at hQ hD hS
  refine lv_lload_n hx hb dX5_point_0 rfl (lv_at hl 1 rfl) ?_
  refine cp_i (va_runS (As := [.long p1]) (rest := []) ⟨hx, hb, hml, hown, hts⟩ (c_X5_isCoordinate l p1 ) (va_cwS 1 hts (gG_S mG_4_19 mG_4_20 mG_1_2 (gG_c mG_4_21 gG_G)) rfl rfl rfl hs_X5_isCoordinate ⟨Nat.le_of_ble_eq_true rfl, Nat.le_of_ble_eq_true rfl⟩) nPcS rfl rfl hl.1 rfl (lv_room (Nat.le_of_ble_eq_true rfl)) dX5_point_1 ⟨Nat.le_of_ble_eq_true rfl, Nat.le_of_ble_eq_true rfl⟩) hP hS (fun H hP hS => ?_)
  refine lv_if_eq (tgt := 22) hx hb dX5_point_4 (by decide) (fun c1 => ?_) (fun c1 => ?_)
  · skip
    refine lv_bipush (v := (-2 : Int32)) hx hb dX5_point_22 (by decide) ?_
    have hE : (f_X5_point xs ys v0 p1 p2 p3) = ((-2 : Int32), xs, ys, v0) := (by simp only [f_X5_point, if_pos c1])
    exact rw_i hQ hx hb hr hlk (by rw [hE]; exact hP) hS (by rw [hE]) dX5_point_24
  · skip
    refine lv_lload_n hx hb dX5_point_7 rfl (lv_at hl 2 rfl) ?_
    refine cp_i (va_runS (As := [.long p2]) (rest := []) ⟨hx, hb, hml, hown, hts⟩ (c_X5_isCoordinate l p2 ) (va_cwS 1 hts (gG_S mG_4_19 mG_4_20 mG_1_2 (gG_c mG_4_21 gG_G)) rfl rfl rfl hs_X5_isCoordinate ⟨Nat.le_of_ble_eq_true rfl, Nat.le_of_ble_eq_true rfl⟩) nPcS rfl rfl hl.1 rfl (lv_room (Nat.le_of_ble_eq_true rfl)) dX5_point_8 ⟨Nat.le_of_ble_eq_true rfl, Nat.le_of_ble_eq_true rfl⟩) hP hS (fun H hP hS => ?_)
    refine lv_if_eq (tgt := 22) hx hb dX5_point_11 (by decide) (fun c2 => ?_) (fun c2 => ?_)
    · skip
      refine lv_bipush (v := (-2 : Int32)) hx hb dX5_point_22 (by decide) ?_
      have hE : (f_X5_point xs ys v0 p1 p2 p3) = ((-2 : Int32), xs, ys, v0) := (by simp only [f_X5_point, if_neg c1, if_pos c2])
      exact rw_i hQ hx hb hr hlk (by rw [hE]; exact hP) hS (by rw [hE]) dX5_point_24
    · skip
      refine lv_lload hx hb dX5_point_14 (lv_at hl 3 rfl) ?_
      refine cp_i (va_runS (As := [.long p3]) (rest := []) ⟨hx, hb, hml, hown, hts⟩ (c_X5_isDown l p3 ) (va_cwS 1 hts (gG_S mG_5_0 mG_5_1 mG_1_2 (gG_c mG_5_2 gG_G)) rfl rfl rfl hs_X5_isDown ⟨Nat.le_of_ble_eq_true rfl, Nat.le_of_ble_eq_true rfl⟩) nPcS rfl rfl hl.1 rfl (lv_room (Nat.le_of_ble_eq_true rfl)) dX5_point_16 ⟨Nat.le_of_ble_eq_true rfl, Nat.le_of_ble_eq_true rfl⟩) hP hS (fun H hP hS => ?_)
      refine lv_if_ne (tgt := 25) hx hb dX5_point_19 (by decide) (fun c3 => ?_) (fun c3 => ?_)
      · skip
        have hz := isDown_ne c3
        refine lv_bipush (v := (12 : Int32)) hx hb dX5_point_25 (by decide) ?_
        refine lv_lload hx hb dX5_point_27 (lv_at hl 3 rfl) ?_
        refine lv_l2i hx hb dX5_point_29 rfl ?_
        refine lv_idiv hx hb dX5_point_30 (by first | with_reducible assumption | exact in0_24 | exact in0_60 | decide) ?_
        refine lv_topi (fun y4 ey4 => ?_)
        refine lv_istore (lv' := [(7, .int y4), (0, .ref (a 0)), (1, .long p1), (3, .long p2), (5, .long p3)]) hx hb dX5_point_31 hl (by decide) rfl (fun ls hl => ?_)
        refine lv_aload_n hx hb dX5_point_33 rfl (lv_at hl 1 rfl) ?_
        refine va_get (D := (dC, dI)) (ci := 9) (v := .ref (a 1)) (C := RX5) (T := TX5) (N := 5) hx hb hts (fun _ h => gI_wsX50 h) hown hK.1 hP 0 rfl rfl 0 (by decide) (hts _ mG_1_17) (fun _ h9 => h9) rfl dX5_point_34 ?_
        refine lv_lload_n hx hb dX5_point_37 rfl (lv_at hl 2 rfl) ?_
        refine lv_l2i hx hb dX5_point_38 rfl ?_
        refine lv_iload hx hb dX5_point_39 (lv_at hl 0 rfl) ?_
        refine lv_imul hx hb dX5_point_41 ?_
        refine lv_lload_n hx hb dX5_point_42 rfl (lv_at hl 3 rfl) ?_
        refine lv_l2i hx hb dX5_point_43 rfl ?_
        refine lv_iload hx hb dX5_point_44 (lv_at hl 0 rfl) ?_
        refine lv_imul hx hb dX5_point_46 ?_
        refine cw_i (va_runV (As := [.int ((Int64.toInt32 p1) * y4), .int ((Int64.toInt32 p2) * y4)]) (rest := []) ⟨hx, hb, hml, hown, hts⟩ (c_X2_add l dC dI a cI cJ xs ys pl kp lp lq lr v0 v1 v2 v3 v4 v5 v6 v7 v8 v9 v10 ((Int64.toInt32 p1) * y4) ((Int64.toInt32 p2) * y4) (by first | with_reducible assumption | exact in0_24 | exact in0_60 | decide)) (cwV 2 hts (gG_V mG_5_4 mG_5_5 mG_5_6 mG_1_16 (gG_c mG_5_7 gG_G)) rfl rfl rfl hd_X2_add ⟨Nat.le_of_ble_eq_true rfl, Nat.le_of_ble_eq_true rfl⟩) (wPcV (ci := 6) (q0 := 1) hK hP hD rfl rfl) rfl rfl hl.1 rfl (lv_room (Nat.le_of_ble_eq_true rfl)) dX5_point_47 ⟨Nat.le_of_ble_eq_true rfl, Nat.le_of_ble_eq_true rfl⟩) (wA.sub hD) hS (fun H locs hP hk1 hS => ?_)
        have hD := hD.addr (w1 := (wC a cI cJ ((f_X2_add xs ys v0 ((Int64.toInt32 p1) * y4) ((Int64.toInt32 p2) * y4)).2.1) ((f_X2_add xs ys v0 ((Int64.toInt32 p1) * y4) ((Int64.toInt32 p2) * y4)).2.2.1) pl kp lp lq lr ((f_X2_add xs ys v0 ((Int64.toInt32 p1) * y4) ((Int64.toInt32 p2) * y4)).2.2.2) v1 v2 v3 v4 v5 v6 v7 v8 v9 v10)) rfl
        have hE : (f_X5_point xs ys v0 p1 p2 p3) = (((f_X2_add xs ys v0 ((Int64.toInt32 p1) * y4) ((Int64.toInt32 p2) * y4)).1), ((f_X2_add xs ys v0 ((Int64.toInt32 p1) * y4) ((Int64.toInt32 p2) * y4)).2.1), ((f_X2_add xs ys v0 ((Int64.toInt32 p1) * y4) ((Int64.toInt32 p2) * y4)).2.2.1), ((f_X2_add xs ys v0 ((Int64.toInt32 p1) * y4) ((Int64.toInt32 p2) * y4)).2.2.2)) := (by subst ey4; simp only [f_X5_point, if_neg c1, if_neg c2, if_neg c3])
        exact rw_i hQ hx hb hr hlk (by rw [hE]; exact hP) hS (by rw [hE]) dX5_point_50
      · skip
        refine lv_bipush (v := (-2 : Int32)) hx hb dX5_point_22 (by decide) ?_
        have hE : (f_X5_point xs ys v0 p1 p2 p3) = ((-2 : Int32), xs, ys, v0) := (by simp only [f_X5_point, if_neg c1, if_neg c2, if_pos c3])
        exact rw_i hQ hx hb hr hlk (by rw [hE]; exact hP) hS (by rw [hE]) dX5_point_24
