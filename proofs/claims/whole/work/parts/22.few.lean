/-! X0_earlier -/
theorem hs_X0_earlier : yX0_earlier.cls ≠ "java/lang/invoke/MethodHandle" ∧ yX0_earlier.cls ≠ "java/lang/invoke/VarHandle" ∧ (parseMethodDescriptor yX0_earlier.desc).map (fun d => d.parameters.length) = some 2 := by decide +kernel
theorem hd_X0_earlier : yX0_earlier.cls = RX0 ∧ yX0_earlier.cls ≠ "java/lang/invoke/MethodHandle" ∧ yX0_earlier.cls ≠ "java/lang/invoke/VarHandle" ∧ (parseMethodDescriptor yX0_earlier.desc).map (fun d => d.parameters.length) = some 2 := ⟨rfl, hs_X0_earlier⟩
def f_X0_earlier (xs : Nat → Int32) (ys : Nat → Int32) (p1 : Int32) (p2 : Int32) : Int32 := (if 0 < (f_X2_compare xs ys p1 p2) then p2 else p1)
abbrev rm_X0_earlier : Room := { frames := 2, cells := 0, slots := 0, locals := 44 }
set_option maxHeartbeats 8000000 in
set_option maxRecDepth 100000 in
theorem c_X0_earlier (l : Launch) (dC : Nat → ClassId) (dI : Nat → Nat → Nat) (a : Nat → Nat) (cI cJ : ClassId) (xs : Nat → Int32) (ys : Nat → Int32) (pl : Nat → Int32) (kp : Nat → Int32) (lp : Nat → Int64) (lq : Nat → Int64) (lr : Nat → Int64) (v0 : Int32) (v1 : Int32) (v2 : Int32) (v3 : Int32) (v4 : Int32) (v5 : Int32) (v6 : Int32) (v7 : Int32) (v8 : Int32) (v9 : Int32) (v10 : Int32) (p1 : Int32) (p2 : Int32) (hi1 : vp_in p1 60) (hi2 : vp_in p2 60) : Met l yX0_earlier (Cond.code yX0_earlier cX0_earlier 3 (some .int) :: lw_G) rm_X0_earlier (pPc (dC, dI) (tIJ cI cJ) (wC a cI cJ xs ys pl kp lp lq lr v0 v1 v2 v3 v4 v5 v6 v7 v8 v9 v10) [.ref (a 5), .int p1, .int p2]) (pQi (f_X0_earlier xs ys p1 p2)) 0 0 pNo := by
  refine pm_of (by decide) (Nat.le_of_ble_eq_true rfl) ?_
  intro p e s m args below meth c Q ls hQ hx hb hr hlk hml hown hts hP hK hS hl
  have hown : s.vm.findClass RX0 = some m.cls := hown
  have hl : lv_has ls 3 [(0, .ref (a 5)), (1, .int p1), (2, .int p2)] := hl
  refine lv_aload_n hx hb dX0_earlier_0 rfl (lv_at hl 0 rfl) ?_
  refine va_get (D := (dC, dI)) (ci := 4) (v := .ref (a 1)) (C := RX0) (T := TX0) (N := 1) hx hb hts (fun _ h => gI_wsX00 h) hown hK.1 hP 5 rfl rfl 0 (by decide) (hts _ mG_3_6) (fun _ h9 => h9) rfl dX0_earlier_1 ?_
  refine lv_iload_n hx hb dX0_earlier_4 rfl (lv_at hl 1 rfl) ?_
  refine lv_iload_n hx hb dX0_earlier_5 rfl (lv_at hl 2 rfl) ?_
  refine cp_i (va_runV (As := [.int p1, .int p2]) (rest := []) ⟨hx, hb, hml, hown, hts⟩ (c_X2_compare l dC dI a cI cJ xs ys pl kp lp lq lr v0 v1 v2 v3 v4 v5 v6 v7 v8 v9 v10 p1 p2 (by first | with_reducible assumption | exact in0_24 | exact in0_60 | decide) (by first | with_reducible assumption | exact in0_24 | exact in0_60 | decide)) (cwV 2 hts (gG_V mG_18_17 mG_9_21 mG_9_22 mG_1_16 (gG_c mG_9_23 gG_G)) rfl rfl rfl hd_X2_compare ⟨Nat.le_of_ble_eq_true rfl, Nat.le_of_ble_eq_true rfl⟩) (pPcV (ci := 6) (q0 := 1) hK hP rfl rfl) rfl rfl hl.1 rfl (lv_room (Nat.le_of_ble_eq_true rfl)) dX0_earlier_6 ⟨Nat.le_of_ble_eq_true rfl, Nat.le_of_ble_eq_true rfl⟩) hP hS (fun H hP hS => ?_)
  refine lv_if_gt (tgt := 16) hx hb dX0_earlier_9 (by decide) (fun c1 => ?_) (fun c1 => ?_)
  · skip
    refine lv_iload_n hx hb dX0_earlier_16 rfl (lv_at hl 2 rfl) ?_
    exact rp_i hQ hx hb hr hlk hS (Eq.symm (by simp only [f_X0_earlier, if_pos c1])) dX0_earlier_17
  · skip
    refine lv_iload_n hx hb dX0_earlier_12 rfl (lv_at hl 1 rfl) ?_
    refine lv_goto (tgt := 17) hx hb dX0_earlier_13 (by decide) ?_
    exact rp_i hQ hx hb hr hlk hS (Eq.symm (by simp only [f_X0_earlier, if_neg c1])) dX0_earlier_17
/-! X0_later -/
theorem hs_X0_later : yX0_later.cls ≠ "java/lang/invoke/MethodHandle" ∧ yX0_later.cls ≠ "java/lang/invoke/VarHandle" ∧ (parseMethodDescriptor yX0_later.desc).map (fun d => d.parameters.length) = some 2 := by decide +kernel
theorem hd_X0_later : yX0_later.cls = RX0 ∧ yX0_later.cls ≠ "java/lang/invoke/MethodHandle" ∧ yX0_later.cls ≠ "java/lang/invoke/VarHandle" ∧ (parseMethodDescriptor yX0_later.desc).map (fun d => d.parameters.length) = some 2 := ⟨rfl, hs_X0_later⟩
def f_X0_later (xs : Nat → Int32) (ys : Nat → Int32) (p1 : Int32) (p2 : Int32) : Int32 := (if 0 < (f_X2_compare xs ys p1 p2) then p1 else p2)
abbrev rm_X0_later : Room := { frames := 2, cells := 0, slots := 0, locals := 44 }
set_option maxHeartbeats 8000000 in
set_option maxRecDepth 100000 in
theorem c_X0_later (l : Launch) (dC : Nat → ClassId) (dI : Nat → Nat → Nat) (a : Nat → Nat) (cI cJ : ClassId) (xs : Nat → Int32) (ys : Nat → Int32) (pl : Nat → Int32) (kp : Nat → Int32) (lp : Nat → Int64) (lq : Nat → Int64) (lr : Nat → Int64) (v0 : Int32) (v1 : Int32) (v2 : Int32) (v3 : Int32) (v4 : Int32) (v5 : Int32) (v6 : Int32) (v7 : Int32) (v8 : Int32) (v9 : Int32) (v10 : Int32) (p1 : Int32) (p2 : Int32) (hi1 : vp_in p1 60) (hi2 : vp_in p2 60) : Met l yX0_later (Cond.code yX0_later cX0_later 3 (some .int) :: lw_G) rm_X0_later (pPc (dC, dI) (tIJ cI cJ) (wC a cI cJ xs ys pl kp lp lq lr v0 v1 v2 v3 v4 v5 v6 v7 v8 v9 v10) [.ref (a 5), .int p1, .int p2]) (pQi (f_X0_later xs ys p1 p2)) 0 0 pNo := by
  refine pm_of (by decide) (Nat.le_of_ble_eq_true rfl) ?_
  intro p e s m args below meth c Q ls hQ hx hb hr hlk hml hown hts hP hK hS hl
  have hown : s.vm.findClass RX0 = some m.cls := hown
  have hl : lv_has ls 3 [(0, .ref (a 5)), (1, .int p1), (2, .int p2)] := hl
  refine lv_aload_n hx hb dX0_later_0 rfl (lv_at hl 0 rfl) ?_
  refine va_get (D := (dC, dI)) (ci := 4) (v := .ref (a 1)) (C := RX0) (T := TX0) (N := 1) hx hb hts (fun _ h => gI_wsX00 h) hown hK.1 hP 5 rfl rfl 0 (by decide) (hts _ mG_3_6) (fun _ h9 => h9) rfl dX0_later_1 ?_
  refine lv_iload_n hx hb dX0_later_4 rfl (lv_at hl 1 rfl) ?_
  refine lv_iload_n hx hb dX0_later_5 rfl (lv_at hl 2 rfl) ?_
  refine cp_i (va_runV (As := [.int p1, .int p2]) (rest := []) ⟨hx, hb, hml, hown, hts⟩ (c_X2_compare l dC dI a cI cJ xs ys pl kp lp lq lr v0 v1 v2 v3 v4 v5 v6 v7 v8 v9 v10 p1 p2 (by first | with_reducible assumption | exact in0_24 | exact in0_60 | decide) (by first | with_reducible assumption | exact in0_24 | exact in0_60 | decide)) (cwV 2 hts (gG_V mG_18_17 mG_9_21 mG_9_22 mG_1_16 (gG_c mG_9_23 gG_G)) rfl rfl rfl hd_X2_compare ⟨Nat.le_of_ble_eq_true rfl, Nat.le_of_ble_eq_true rfl⟩) (pPcV (ci := 6) (q0 := 1) hK hP rfl rfl) rfl rfl hl.1 rfl (lv_room (Nat.le_of_ble_eq_true rfl)) dX0_later_6 ⟨Nat.le_of_ble_eq_true rfl, Nat.le_of_ble_eq_true rfl⟩) hP hS (fun H hP hS => ?_)
  refine lv_if_gt (tgt := 16) hx hb dX0_later_9 (by decide) (fun c1 => ?_) (fun c1 => ?_)
  · skip
    refine lv_iload_n hx hb dX0_later_16 rfl (lv_at hl 1 rfl) ?_
    exact rp_i hQ hx hb hr hlk hS (Eq.symm (by simp only [f_X0_later, if_pos c1])) dX0_later_17
  · skip
    refine lv_iload_n hx hb dX0_later_12 rfl (lv_at hl 2 rfl) ?_
    refine lv_goto (tgt := 17) hx hb dX0_later_13 (by decide) ?_
    exact rp_i hQ hx hb hr hlk hS (Eq.symm (by simp only [f_X0_later, if_neg c1])) dX0_later_17
theorem in_earlier {xs ys : Nat → Int32} {p1 p2 : Int32} (h1 : vp_in p1 60) (h2 : vp_in p2 60) : vp_in (f_X0_earlier xs ys p1 p2) 60 := by
  unfold f_X0_earlier
  split <;> assumption
theorem in_later {xs ys : Nat → Int32} {p1 p2 : Int32} (h1 : vp_in p1 60) (h2 : vp_in p2 60) : vp_in (f_X0_later xs ys p1 p2) 60 := by
  unfold f_X0_later
  split <;> assumption
/-! X0_anyEqual -/
theorem hs_X0_anyEqual : yX0_anyEqual.cls ≠ "java/lang/invoke/MethodHandle" ∧ yX0_anyEqual.cls ≠ "java/lang/invoke/VarHandle" ∧ (parseMethodDescriptor yX0_anyEqual.desc).map (fun d => d.parameters.length) = some 4 := by decide +kernel
theorem hd_X0_anyEqual : yX0_anyEqual.cls = RX0 ∧ yX0_anyEqual.cls ≠ "java/lang/invoke/MethodHandle" ∧ yX0_anyEqual.cls ≠ "java/lang/invoke/VarHandle" ∧ (parseMethodDescriptor yX0_anyEqual.desc).map (fun d => d.parameters.length) = some 4 := ⟨rfl, hs_X0_anyEqual⟩
def f_X0_anyEqual (xs : Nat → Int32) (ys : Nat → Int32) (p1 : Int32) (p2 : Int32) (p3 : Int32) (p4 : Int32) : Int32 := (if (f_X2_equal xs ys p1 p2) = 0 then (if (f_X2_equal xs ys p1 p3) = 0 then (if (f_X2_equal xs ys p1 p4) = 0 then (if (f_X2_equal xs ys p2 p3) = 0 then (if (f_X2_equal xs ys p2 p4) = 0 then (if (f_X2_equal xs ys p3 p4) = 0 then (0 : Int32) else (1 : Int32)) else (1 : Int32)) else (1 : Int32)) else (1 : Int32)) else (1 : Int32)) else (1 : Int32))
abbrev rm_X0_anyEqual : Room := { frames := 3, cells := 0, slots := 0, locals := 66 }
set_option maxHeartbeats 8000000 in
set_option maxRecDepth 100000 in
theorem c_X0_anyEqual (l : Launch) (dC : Nat → ClassId) (dI : Nat → Nat → Nat) (a : Nat → Nat) (cI cJ : ClassId) (xs : Nat → Int32) (ys : Nat → Int32) (pl : Nat → Int32) (kp : Nat → Int32) (lp : Nat → Int64) (lq : Nat → Int64) (lr : Nat → Int64) (v0 : Int32) (v1 : Int32) (v2 : Int32) (v3 : Int32) (v4 : Int32) (v5 : Int32) (v6 : Int32) (v7 : Int32) (v8 : Int32) (v9 : Int32) (v10 : Int32) (p1 : Int32) (p2 : Int32) (p3 : Int32) (p4 : Int32) (hi1 : vp_in p1 60) (hi2 : vp_in p2 60) (hi3 : vp_in p3 60) (hi4 : vp_in p4 60) : Met l yX0_anyEqual (Cond.code yX0_anyEqual cX0_anyEqual 5 (some .boolean) :: lw_G) rm_X0_anyEqual (pPc (dC, dI) (tIJ cI cJ) (wC a cI cJ xs ys pl kp lp lq lr v0 v1 v2 v3 v4 v5 v6 v7 v8 v9 v10) [.ref (a 5), .int p1, .int p2, .int p3, .int p4]) (pQi (f_X0_anyEqual xs ys p1 p2 p3 p4)) 0 0 pNo := by
  refine pm_of (by decide) (Nat.le_of_ble_eq_true rfl) ?_
  intro p e s m args below meth c Q ls hQ hx hb hr hlk hml hown hts hP hK hS hl
  have hown : s.vm.findClass RX0 = some m.cls := hown
  have hl : lv_has ls 5 [(0, .ref (a 5)), (1, .int p1), (2, .int p2), (3, .int p3), (4, .int p4)] := hl
  refine lv_aload_n hx hb dX0_anyEqual_0 rfl (lv_at hl 0 rfl) ?_
  refine va_get (D := (dC, dI)) (ci := 4) (v := .ref (a 1)) (C := RX0) (T := TX0) (N := 1) hx hb hts (fun _ h => gI_wsX00 h) hown hK.1 hP 5 rfl rfl 0 (by decide) (hts _ mG_3_6) (fun _ h9 => h9) rfl dX0_anyEqual_1 ?_
  refine lv_iload_n hx hb dX0_anyEqual_4 rfl (lv_at hl 1 rfl) ?_
  refine lv_iload_n hx hb dX0_anyEqual_5 rfl (lv_at hl 2 rfl) ?_
  refine cp_i (va_runV (As := [.int p1, .int p2]) (rest := []) ⟨hx, hb, hml, hown, hts⟩ (c_X2_equal l dC dI a cI cJ xs ys pl kp lp lq lr v0 v1 v2 v3 v4 v5 v6 v7 v8 v9 v10 p1 p2 (by first | with_reducible assumption | exact in0_24 | exact in0_60 | decide) (by first | with_reducible assumption | exact in0_24 | exact in0_60 | decide)) (cwV 2 hts (gG_V mG_16_1 mG_9_17 mG_9_18 mG_1_16 (gG_c mG_9_19 gG_G)) rfl rfl rfl hd_X2_equal ⟨Nat.le_of_ble_eq_true rfl, Nat.le_of_ble_eq_true rfl⟩) (pPcV (ci := 6) (q0 := 1) hK hP rfl rfl) rfl rfl hl.1 rfl (lv_room (Nat.le_of_ble_eq_true rfl)) dX0_anyEqual_6 ⟨Nat.le_of_ble_eq_true rfl, Nat.le_of_ble_eq_true rfl⟩) hP hS (fun H hP hS => ?_)
  refine lv_if_ne (tgt := 75) hx hb dX0_anyEqual_9 (by decide) (fun c1 => ?_) (fun c1 => ?_)
  · skip
    refine lv_iconst (v := (1 : Int32)) hx hb dX0_anyEqual_75 (by decide) ?_
    refine lv_goto (tgt := 80) hx hb dX0_anyEqual_76 (by decide) ?_
    exact rp_z hQ hx hb hr hlk hS (Eq.symm (by simp only [f_X0_anyEqual, if_neg c1])) (by decide) dX0_anyEqual_80
  · skip
    refine lv_aload_n hx hb dX0_anyEqual_12 rfl (lv_at hl 0 rfl) ?_
    refine va_get (D := (dC, dI)) (ci := 4) (v := .ref (a 1)) (C := RX0) (T := TX0) (N := 1) hx hb hts (fun _ h => gI_wsX00 h) hown hK.1 hP 5 rfl rfl 0 (by decide) (hts _ mG_3_6) (fun _ h9 => h9) rfl dX0_anyEqual_13 ?_
    refine lv_iload_n hx hb dX0_anyEqual_16 rfl (lv_at hl 1 rfl) ?_
    refine lv_iload_n hx hb dX0_anyEqual_17 rfl (lv_at hl 3 rfl) ?_
    refine cp_i (va_runV (As := [.int p1, .int p3]) (rest := []) ⟨hx, hb, hml, hown, hts⟩ (c_X2_equal l dC dI a cI cJ xs ys pl kp lp lq lr v0 v1 v2 v3 v4 v5 v6 v7 v8 v9 v10 p1 p3 (by first | with_reducible assumption | exact in0_24 | exact in0_60 | decide) (by first | with_reducible assumption | exact in0_24 | exact in0_60 | decide)) (cwV 2 hts (gG_V mG_16_1 mG_9_17 mG_9_18 mG_1_16 (gG_c mG_9_19 gG_G)) rfl rfl rfl hd_X2_equal ⟨Nat.le_of_ble_eq_true rfl, Nat.le_of_ble_eq_true rfl⟩) (pPcV (ci := 6) (q0 := 1) hK hP rfl rfl) rfl rfl hl.1 rfl (lv_room (Nat.le_of_ble_eq_true rfl)) dX0_anyEqual_18 ⟨Nat.le_of_ble_eq_true rfl, Nat.le_of_ble_eq_true rfl⟩) hP hS (fun H hP hS => ?_)
    refine lv_if_ne (tgt := 75) hx hb dX0_anyEqual_21 (by decide) (fun c2 => ?_) (fun c2 => ?_)
    · skip
      refine lv_iconst (v := (1 : Int32)) hx hb dX0_anyEqual_75 (by decide) ?_
      refine lv_goto (tgt := 80) hx hb dX0_anyEqual_76 (by decide) ?_
      exact rp_z hQ hx hb hr hlk hS (Eq.symm (by simp only [f_X0_anyEqual, if_pos c1, if_neg c2])) (by decide) dX0_anyEqual_80
    · skip
      refine lv_aload_n hx hb dX0_anyEqual_24 rfl (lv_at hl 0 rfl) ?_
      refine va_get (D := (dC, dI)) (ci := 4) (v := .ref (a 1)) (C := RX0) (T := TX0) (N := 1) hx hb hts (fun _ h => gI_wsX00 h) hown hK.1 hP 5 rfl rfl 0 (by decide) (hts _ mG_3_6) (fun _ h9 => h9) rfl dX0_anyEqual_25 ?_
      refine lv_iload_n hx hb dX0_anyEqual_28 rfl (lv_at hl 1 rfl) ?_
      refine lv_iload hx hb dX0_anyEqual_29 (lv_at hl 4 rfl) ?_
      refine cp_i (va_runV (As := [.int p1, .int p4]) (rest := []) ⟨hx, hb, hml, hown, hts⟩ (c_X2_equal l dC dI a cI cJ xs ys pl kp lp lq lr v0 v1 v2 v3 v4 v5 v6 v7 v8 v9 v10 p1 p4 (by first | with_reducible assumption | exact in0_24 | exact in0_60 | decide) (by first | with_reducible assumption | exact in0_24 | exact in0_60 | decide)) (cwV 2 hts (gG_V mG_16_1 mG_9_17 mG_9_18 mG_1_16 (gG_c mG_9_19 gG_G)) rfl rfl rfl hd_X2_equal ⟨Nat.le_of_ble_eq_true rfl, Nat.le_of_ble_eq_true rfl⟩) (pPcV (ci := 6) (q0 := 1) hK hP rfl rfl) rfl rfl hl.1 rfl (lv_room (Nat.le_of_ble_eq_true rfl)) dX0_anyEqual_31 ⟨Nat.le_of_ble_eq_true rfl, Nat.le_of_ble_eq_true rfl⟩) hP hS (fun H hP hS => ?_)
      refine lv_if_ne (tgt := 75) hx hb dX0_anyEqual_34 (by decide) (fun c3 => ?_) (fun c3 => ?_)
      · skip
        refine lv_iconst (v := (1 : Int32)) hx hb dX0_anyEqual_75 (by decide) ?_
        refine lv_goto (tgt := 80) hx hb dX0_anyEqual_76 (by decide) ?_
        exact rp_z hQ hx hb hr hlk hS (Eq.symm (by simp only [f_X0_anyEqual, if_pos c1, if_pos c2, if_neg c3])) (by decide) dX0_anyEqual_80
      · skip
        refine lv_aload_n hx hb dX0_anyEqual_37 rfl (lv_at hl 0 rfl) ?_
        refine va_get (D := (dC, dI)) (ci := 4) (v := .ref (a 1)) (C := RX0) (T := TX0) (N := 1) hx hb hts (fun _ h => gI_wsX00 h) hown hK.1 hP 5 rfl rfl 0 (by decide) (hts _ mG_3_6) (fun _ h9 => h9) rfl dX0_anyEqual_38 ?_
        refine lv_iload_n hx hb dX0_anyEqual_41 rfl (lv_at hl 2 rfl) ?_
        refine lv_iload_n hx hb dX0_anyEqual_42 rfl (lv_at hl 3 rfl) ?_
        refine cp_i (va_runV (As := [.int p2, .int p3]) (rest := []) ⟨hx, hb, hml, hown, hts⟩ (c_X2_equal l dC dI a cI cJ xs ys pl kp lp lq lr v0 v1 v2 v3 v4 v5 v6 v7 v8 v9 v10 p2 p3 (by first | with_reducible assumption | exact in0_24 | exact in0_60 | decide) (by first | with_reducible assumption | exact in0_24 | exact in0_60 | decide)) (cwV 2 hts (gG_V mG_16_1 mG_9_17 mG_9_18 mG_1_16 (gG_c mG_9_19 gG_G)) rfl rfl rfl hd_X2_equal ⟨Nat.le_of_ble_eq_true rfl, Nat.le_of_ble_eq_true rfl⟩) (pPcV (ci := 6) (q0 := 1) hK hP rfl rfl) rfl rfl hl.1 rfl (lv_room (Nat.le_of_ble_eq_true rfl)) dX0_anyEqual_43 ⟨Nat.le_of_ble_eq_true rfl, Nat.le_of_ble_eq_true rfl⟩) hP hS (fun H hP hS => ?_)
        refine lv_if_ne (tgt := 75) hx hb dX0_anyEqual_46 (by decide) (fun c4 => ?_) (fun c4 => ?_)
        · skip
          refine lv_iconst (v := (1 : Int32)) hx hb dX0_anyEqual_75 (by decide) ?_
          refine lv_goto (tgt := 80) hx hb dX0_anyEqual_76 (by decide) ?_
          exact rp_z hQ hx hb hr hlk hS (Eq.symm (by simp only [f_X0_anyEqual, if_pos c1, if_pos c2, if_pos c3, if_neg c4])) (by decide) dX0_anyEqual_80
        · skip
          refine lv_aload_n hx hb dX0_anyEqual_49 rfl (lv_at hl 0 rfl) ?_
          refine va_get (D := (dC, dI)) (ci := 4) (v := .ref (a 1)) (C := RX0) (T := TX0) (N := 1) hx hb hts (fun _ h => gI_wsX00 h) hown hK.1 hP 5 rfl rfl 0 (by decide) (hts _ mG_3_6) (fun _ h9 => h9) rfl dX0_anyEqual_50 ?_
          refine lv_iload_n hx hb dX0_anyEqual_53 rfl (lv_at hl 2 rfl) ?_
          refine lv_iload hx hb dX0_anyEqual_54 (lv_at hl 4 rfl) ?_
          refine cp_i (va_runV (As := [.int p2, .int p4]) (rest := []) ⟨hx, hb, hml, hown, hts⟩ (c_X2_equal l dC dI a cI cJ xs ys pl kp lp lq lr v0 v1 v2 v3 v4 v5 v6 v7 v8 v9 v10 p2 p4 (by first | with_reducible assumption | exact in0_24 | exact in0_60 | decide) (by first | with_reducible assumption | exact in0_24 | exact in0_60 | decide)) (cwV 2 hts (gG_V mG_16_1 mG_9_17 mG_9_18 mG_1_16 (gG_c mG_9_19 gG_G)) rfl rfl rfl hd_X2_equal ⟨Nat.le_of_ble_eq_true rfl, Nat.le_of_ble_eq_true rfl⟩) (pPcV (ci := 6) (q0 := 1) hK hP rfl rfl) rfl rfl hl.1 rfl (lv_room (Nat.le_of_ble_eq_true rfl)) dX0_anyEqual_56 ⟨Nat.le_of_ble_eq_true rfl, Nat.le_of_ble_eq_true rfl⟩) hP hS (fun H hP hS => ?_)
          refine lv_if_ne (tgt := 75) hx hb dX0_anyEqual_59 (by decide) (fun c5 => ?_) (fun c5 => ?_)
          · skip
            refine lv_iconst (v := (1 : Int32)) hx hb dX0_anyEqual_75 (by decide) ?_
            refine lv_goto (tgt := 80) hx hb dX0_anyEqual_76 (by decide) ?_
            exact rp_z hQ hx hb hr hlk hS (Eq.symm (by simp only [f_X0_anyEqual, if_pos c1, if_pos c2, if_pos c3, if_pos c4, if_neg c5])) (by decide) dX0_anyEqual_80
          · skip
            refine lv_aload_n hx hb dX0_anyEqual_62 rfl (lv_at hl 0 rfl) ?_
            refine va_get (D := (dC, dI)) (ci := 4) (v := .ref (a 1)) (C := RX0) (T := TX0) (N := 1) hx hb hts (fun _ h => gI_wsX00 h) hown hK.1 hP 5 rfl rfl 0 (by decide) (hts _ mG_3_6) (fun _ h9 => h9) rfl dX0_anyEqual_63 ?_
            refine lv_iload_n hx hb dX0_anyEqual_66 rfl (lv_at hl 3 rfl) ?_
            refine lv_iload hx hb dX0_anyEqual_67 (lv_at hl 4 rfl) ?_
            refine cp_i (va_runV (As := [.int p3, .int p4]) (rest := []) ⟨hx, hb, hml, hown, hts⟩ (c_X2_equal l dC dI a cI cJ xs ys pl kp lp lq lr v0 v1 v2 v3 v4 v5 v6 v7 v8 v9 v10 p3 p4 (by first | with_reducible assumption | exact in0_24 | exact in0_60 | decide) (by first | with_reducible assumption | exact in0_24 | exact in0_60 | decide)) (cwV 2 hts (gG_V mG_16_1 mG_9_17 mG_9_18 mG_1_16 (gG_c mG_9_19 gG_G)) rfl rfl rfl hd_X2_equal ⟨Nat.le_of_ble_eq_true rfl, Nat.le_of_ble_eq_true rfl⟩) (pPcV (ci := 6) (q0 := 1) hK hP rfl rfl) rfl rfl hl.1 rfl (lv_room (Nat.le_of_ble_eq_true rfl)) dX0_anyEqual_69 ⟨Nat.le_of_ble_eq_true rfl, Nat.le_of_ble_eq_true rfl⟩) hP hS (fun H hP hS => ?_)
            refine lv_if_eq (tgt := 79) hx hb dX0_anyEqual_72 (by decide) (fun c6 => ?_) (fun c6 => ?_)
            · skip
              refine lv_iconst (v := (0 : Int32)) hx hb dX0_anyEqual_79 (by decide) ?_
              exact rp_z hQ hx hb hr hlk hS (Eq.symm (by simp only [f_X0_anyEqual, if_pos c1, if_pos c2, if_pos c3, if_pos c4, if_pos c5, if_pos c6])) (by decide) dX0_anyEqual_80
            · skip
              refine lv_iconst (v := (1 : Int32)) hx hb dX0_anyEqual_75 (by decide) ?_
              refine lv_goto (tgt := 80) hx hb dX0_anyEqual_76 (by decide) ?_
              exact rp_z hQ hx hb hr hlk hS (Eq.symm (by simp only [f_X0_anyEqual, if_pos c1, if_pos c2, if_pos c3, if_pos c4, if_pos c5, if_neg c6])) (by decide) dX0_anyEqual_80
/-! X0_betweenness -/
theorem hs_X0_betweenness : yX0_betweenness.cls ≠ "java/lang/invoke/MethodHandle" ∧ yX0_betweenness.cls ≠ "java/lang/invoke/VarHandle" ∧ (parseMethodDescriptor yX0_betweenness.desc).map (fun d => d.parameters.length) = some 3 := by decide +kernel
theorem hd_X0_betweenness : yX0_betweenness.cls = RX0 ∧ yX0_betweenness.cls ≠ "java/lang/invoke/MethodHandle" ∧ yX0_betweenness.cls ≠ "java/lang/invoke/VarHandle" ∧ (parseMethodDescriptor yX0_betweenness.desc).map (fun d => d.parameters.length) = some 3 := ⟨rfl, hs_X0_betweenness⟩
def f_X0_betweenness (xs : Nat → Int32) (ys : Nat → Int32) (p1 : Int32) (p2 : Int32) (p3 : Int32) : Int32 := (if (f_X2_equal xs ys p2 p1) = 0 then (if (f_X2_equal xs ys p2 p3) = 0 then (if (f_X2_onSegment xs ys p1 p3 p2) = 0 then (0 : Int32) else (1 : Int32)) else (2 : Int32)) else (2 : Int32))
abbrev rm_X0_betweenness : Room := { frames := 4, cells := 0, slots := 0, locals := 94 }
set_option maxHeartbeats 8000000 in
set_option maxRecDepth 100000 in
theorem c_X0_betweenness (l : Launch) (dC : Nat → ClassId) (dI : Nat → Nat → Nat) (a : Nat → Nat) (cI cJ : ClassId) (xs : Nat → Int32) (ys : Nat → Int32) (pl : Nat → Int32) (kp : Nat → Int32) (lp : Nat → Int64) (lq : Nat → Int64) (lr : Nat → Int64) (v0 : Int32) (v1 : Int32) (v2 : Int32) (v3 : Int32) (v4 : Int32) (v5 : Int32) (v6 : Int32) (v7 : Int32) (v8 : Int32) (v9 : Int32) (v10 : Int32) (p1 : Int32) (p2 : Int32) (p3 : Int32) (hi1 : vp_in p1 60) (hi2 : vp_in p2 60) (hi3 : vp_in p3 60) : Met l yX0_betweenness (Cond.code yX0_betweenness cX0_betweenness 4 (some .int) :: lw_G) rm_X0_betweenness (pPc (dC, dI) (tIJ cI cJ) (wC a cI cJ xs ys pl kp lp lq lr v0 v1 v2 v3 v4 v5 v6 v7 v8 v9 v10) [.ref (a 5), .int p1, .int p2, .int p3]) (pQi (f_X0_betweenness xs ys p1 p2 p3)) 0 0 pNo := by
  refine pm_of (by decide) (Nat.le_of_ble_eq_true rfl) ?_
  intro p e s m args below meth c Q ls hQ hx hb hr hlk hml hown hts hP hK hS hl
  have hown : s.vm.findClass RX0 = some m.cls := hown
  have hl : lv_has ls 4 [(0, .ref (a 5)), (1, .int p1), (2, .int p2), (3, .int p3)] := hl
  refine lv_aload_n hx hb dX0_betweenness_0 rfl (lv_at hl 0 rfl) ?_
  refine va_get (D := (dC, dI)) (ci := 4) (v := .ref (a 1)) (C := RX0) (T := TX0) (N := 1) hx hb hts (fun _ h => gI_wsX00 h) hown hK.1 hP 5 rfl rfl 0 (by decide) (hts _ mG_3_6) (fun _ h9 => h9) rfl dX0_betweenness_1 ?_
  refine lv_iload_n hx hb dX0_betweenness_4 rfl (lv_at hl 2 rfl) ?_
  refine lv_iload_n hx hb dX0_betweenness_5 rfl (lv_at hl 1 rfl) ?_
  refine cp_i (va_runV (As := [.int p2, .int p1]) (rest := []) ⟨hx, hb, hml, hown, hts⟩ (c_X2_equal l dC dI a cI cJ xs ys pl kp lp lq lr v0 v1 v2 v3 v4 v5 v6 v7 v8 v9 v10 p2 p1 (by first | with_reducible assumption | exact in0_24 | exact in0_60 | decide) (by first | with_reducible assumption | exact in0_24 | exact in0_60 | decide)) (cwV 2 hts (gG_V mG_16_1 mG_9_17 mG_9_18 mG_1_16 (gG_c mG_9_19 gG_G)) rfl rfl rfl hd_X2_equal ⟨Nat.le_of_ble_eq_true rfl, Nat.le_of_ble_eq_true rfl⟩) (pPcV (ci := 6) (q0 := 1) hK hP rfl rfl) rfl rfl hl.1 rfl (lv_room (Nat.le_of_ble_eq_true rfl)) dX0_betweenness_6 ⟨Nat.le_of_ble_eq_true rfl, Nat.le_of_ble_eq_true rfl⟩) hP hS (fun H hP hS => ?_)
  refine lv_if_ne (tgt := 24) hx hb dX0_betweenness_9 (by decide) (fun c1 => ?_) (fun c1 => ?_)
  · skip
    refine lv_iconst (v := (2 : Int32)) hx hb dX0_betweenness_24 (by decide) ?_
    exact rp_i hQ hx hb hr hlk hS (Eq.symm (by simp only [f_X0_betweenness, if_neg c1])) dX0_betweenness_25
  · skip
    refine lv_aload_n hx hb dX0_betweenness_12 rfl (lv_at hl 0 rfl) ?_
    refine va_get (D := (dC, dI)) (ci := 4) (v := .ref (a 1)) (C := RX0) (T := TX0) (N := 1) hx hb hts (fun _ h => gI_wsX00 h) hown hK.1 hP 5 rfl rfl 0 (by decide) (hts _ mG_3_6) (fun _ h9 => h9) rfl dX0_betweenness_13 ?_
    refine lv_iload_n hx hb dX0_betweenness_16 rfl (lv_at hl 2 rfl) ?_
    refine lv_iload_n hx hb dX0_betweenness_17 rfl (lv_at hl 3 rfl) ?_
    refine cp_i (va_runV (As := [.int p2, .int p3]) (rest := []) ⟨hx, hb, hml, hown, hts⟩ (c_X2_equal l dC dI a cI cJ xs ys pl kp lp lq lr v0 v1 v2 v3 v4 v5 v6 v7 v8 v9 v10 p2 p3 (by first | with_reducible assumption | exact in0_24 | exact in0_60 | decide) (by first | with_reducible assumption | exact in0_24 | exact in0_60 | decide)) (cwV 2 hts (gG_V mG_16_1 mG_9_17 mG_9_18 mG_1_16 (gG_c mG_9_19 gG_G)) rfl rfl rfl hd_X2_equal ⟨Nat.le_of_ble_eq_true rfl, Nat.le_of_ble_eq_true rfl⟩) (pPcV (ci := 6) (q0 := 1) hK hP rfl rfl) rfl rfl hl.1 rfl (lv_room (Nat.le_of_ble_eq_true rfl)) dX0_betweenness_18 ⟨Nat.le_of_ble_eq_true rfl, Nat.le_of_ble_eq_true rfl⟩) hP hS (fun H hP hS => ?_)
    refine lv_if_eq (tgt := 26) hx hb dX0_betweenness_21 (by decide) (fun c2 => ?_) (fun c2 => ?_)
    · skip
      refine lv_aload_n hx hb dX0_betweenness_26 rfl (lv_at hl 0 rfl) ?_
      refine va_get (D := (dC, dI)) (ci := 4) (v := .ref (a 1)) (C := RX0) (T := TX0) (N := 1) hx hb hts (fun _ h => gI_wsX00 h) hown hK.1 hP 5 rfl rfl 0 (by decide) (hts _ mG_3_6) (fun _ h9 => h9) rfl dX0_betweenness_27 ?_
      refine lv_iload_n hx hb dX0_betweenness_30 rfl (lv_at hl 1 rfl) ?_
      refine lv_iload_n hx hb dX0_betweenness_31 rfl (lv_at hl 3 rfl) ?_
      refine lv_iload_n hx hb dX0_betweenness_32 rfl (lv_at hl 2 rfl) ?_
      refine cp_i (va_runV (As := [.int p1, .int p3, .int p2]) (rest := []) ⟨hx, hb, hml, hown, hts⟩ (c_X2_onSegment l dC dI a cI cJ xs ys pl kp lp lq lr v0 v1 v2 v3 v4 v5 v6 v7 v8 v9 v10 p1 p3 p2 (by first | with_reducible assumption | exact in0_24 | exact in0_60 | decide) (by first | with_reducible assumption | exact in0_24 | exact in0_60 | decide) (by first | with_reducible assumption | exact in0_24 | exact in0_60 | decide)) (cwV 3 hts (gG_V mG_16_2 mG_16_3 mG_16_4 mG_1_16 (gG_c mG_16_5 gG_G)) rfl rfl rfl hd_X2_onSegment ⟨Nat.le_of_ble_eq_true rfl, Nat.le_of_ble_eq_true rfl⟩) (pPcV (ci := 6) (q0 := 1) hK hP rfl rfl) rfl rfl hl.1 rfl (lv_room (Nat.le_of_ble_eq_true rfl)) dX0_betweenness_33 ⟨Nat.le_of_ble_eq_true rfl, Nat.le_of_ble_eq_true rfl⟩) hP hS (fun H hP hS => ?_)
      refine lv_if_eq (tgt := 43) hx hb dX0_betweenness_36 (by decide) (fun c3 => ?_) (fun c3 => ?_)
      · skip
        refine lv_iconst (v := (0 : Int32)) hx hb dX0_betweenness_43 (by decide) ?_
        exact rp_i hQ hx hb hr hlk hS (Eq.symm (by simp only [f_X0_betweenness, if_pos c1, if_pos c2, if_pos c3])) dX0_betweenness_44
      · skip
        refine lv_iconst (v := (1 : Int32)) hx hb dX0_betweenness_39 (by decide) ?_
        refine lv_goto (tgt := 44) hx hb dX0_betweenness_40 (by decide) ?_
        exact rp_i hQ hx hb hr hlk hS (Eq.symm (by simp only [f_X0_betweenness, if_pos c1, if_pos c2, if_neg c3])) dX0_betweenness_44
    · skip
      refine lv_iconst (v := (2 : Int32)) hx hb dX0_betweenness_24 (by decide) ?_
      exact rp_i hQ hx hb hr hlk hS (Eq.symm (by simp only [f_X0_betweenness, if_pos c1, if_neg c2])) dX0_betweenness_25
/-! X0_withinAngle -/
theorem hs_X0_withinAngle : yX0_withinAngle.cls ≠ "java/lang/invoke/MethodHandle" ∧ yX0_withinAngle.cls ≠ "java/lang/invoke/VarHandle" ∧ (parseMethodDescriptor yX0_withinAngle.desc).map (fun d => d.parameters.length) = some 4 := by decide +kernel
theorem hd_X0_withinAngle : yX0_withinAngle.cls = RX0 ∧ yX0_withinAngle.cls ≠ "java/lang/invoke/MethodHandle" ∧ yX0_withinAngle.cls ≠ "java/lang/invoke/VarHandle" ∧ (parseMethodDescriptor yX0_withinAngle.desc).map (fun d => d.parameters.length) = some 4 := ⟨rfl, hs_X0_withinAngle⟩
def f_X0_withinAngle (xs : Nat → Int32) (ys : Nat → Int32) (p1 : Int32) (p2 : Int32) (p3 : Int32) (p4 : Int32) : Int32 := (if (f_X2_equal xs ys p1 p4) = 0 then (if (f_X2_sameDirection xs ys p1 p2 p4) = 0 then (if (f_X2_sameDirection xs ys p1 p3 p4) = 0 then (if (f_X2_turn xs ys p1 p2 p4) ≤ 0 then (if 0 ≤ (f_X2_turn xs ys p1 p3 p4) then (if 0 ≤ (f_X2_turn xs ys p1 p2 p3) then (0 : Int32) else (0 : Int32)) else (if 0 ≤ (f_X2_turn xs ys p1 p2 p3) then (0 : Int32) else (1 : Int32))) else (if 0 ≤ (f_X2_turn xs ys p1 p3 p4) then (if 0 ≤ (f_X2_turn xs ys p1 p2 p3) then (0 : Int32) else (1 : Int32)) else (if 0 ≤ (f_X2_turn xs ys p1 p2 p3) then (1 : Int32) else (1 : Int32)))) else (2 : Int32)) else (2 : Int32)) else (2 : Int32))
abbrev rm_X0_withinAngle : Room := { frames := 4, cells := 0, slots := 0, locals := 96 }
set_option maxHeartbeats 8000000 in
set_option maxRecDepth 100000 in
theorem c_X0_withinAngle (l : Launch) (dC : Nat → ClassId) (dI : Nat → Nat → Nat) (a : Nat → Nat) (cI cJ : ClassId) (xs : Nat → Int32) (ys : Nat → Int32) (pl : Nat → Int32) (kp : Nat → Int32) (lp : Nat → Int64) (lq : Nat → Int64) (lr : Nat → Int64) (v0 : Int32) (v1 : Int32) (v2 : Int32) (v3 : Int32) (v4 : Int32) (v5 : Int32) (v6 : Int32) (v7 : Int32) (v8 : Int32) (v9 : Int32) (v10 : Int32) (p1 : Int32) (p2 : Int32) (p3 : Int32) (p4 : Int32) (hi1 : vp_in p1 60) (hi2 : vp_in p2 60) (hi3 : vp_in p3 60) (hi4 : vp_in p4 60) : Met l yX0_withinAngle (Cond.code yX0_withinAngle cX0_withinAngle 9 (some .int) :: lw_G) rm_X0_withinAngle (pPc (dC, dI) (tIJ cI cJ) (wC a cI cJ xs ys pl kp lp lq lr v0 v1 v2 v3 v4 v5 v6 v7 v8 v9 v10) [.ref (a 5), .int p1, .int p2, .int p3, .int p4]) (pQi (f_X0_withinAngle xs ys p1 p2 p3 p4)) 0 0 pNo := by
  refine pm_of (by decide) (Nat.le_of_ble_eq_true rfl) ?_
  intro p e s m args below meth c Q ls hQ hx hb hr hlk hml hown hts hP hK hS hl
  have hown : s.vm.findClass RX0 = some m.cls := hown
  have hl : lv_has ls 9 [(0, .ref (a 5)), (1, .int p1), (2, .int p2), (3, .int p3), (4, .int p4)] := hl
  refine lv_aload_n hx hb dX0_withinAngle_0 rfl (lv_at hl 0 rfl) ?_
  refine va_get (D := (dC, dI)) (ci := 4) (v := .ref (a 1)) (C := RX0) (T := TX0) (N := 1) hx hb hts (fun _ h => gI_wsX00 h) hown hK.1 hP 5 rfl rfl 0 (by decide) (hts _ mG_3_6) (fun _ h9 => h9) rfl dX0_withinAngle_1 ?_
  refine lv_iload_n hx hb dX0_withinAngle_4 rfl (lv_at hl 1 rfl) ?_
  refine lv_iload hx hb dX0_withinAngle_5 (lv_at hl 4 rfl) ?_
  refine cp_i (va_runV (As := [.int p1, .int p4]) (rest := []) ⟨hx, hb, hml, hown, hts⟩ (c_X2_equal l dC dI a cI cJ xs ys pl kp lp lq lr v0 v1 v2 v3 v4 v5 v6 v7 v8 v9 v10 p1 p4 (by first | with_reducible assumption | exact in0_24 | exact in0_60 | decide) (by first | with_reducible assumption | exact in0_24 | exact in0_60 | decide)) (cwV 2 hts (gG_V mG_16_1 mG_9_17 mG_9_18 mG_1_16 (gG_c mG_9_19 gG_G)) rfl rfl rfl hd_X2_equal ⟨Nat.le_of_ble_eq_true rfl, Nat.le_of_ble_eq_true rfl⟩) (pPcV (ci := 6) (q0 := 1) hK hP rfl rfl) rfl rfl hl.1 rfl (lv_room (Nat.le_of_ble_eq_true rfl)) dX0_withinAngle_7 ⟨Nat.le_of_ble_eq_true rfl, Nat.le_of_ble_eq_true rfl⟩) hP hS (fun H hP hS => ?_)
  refine lv_if_ne (tgt := 41) hx hb dX0_withinAngle_10 (by decide) (fun c1 => ?_) (fun c1 => ?_)
  · skip
    refine lv_iconst (v := (2 : Int32)) hx hb dX0_withinAngle_41 (by decide) ?_
    exact rp_i hQ hx hb hr hlk hS (Eq.symm (by simp only [f_X0_withinAngle, if_neg c1])) dX0_withinAngle_42
  · skip
    refine lv_aload_n hx hb dX0_withinAngle_13 rfl (lv_at hl 0 rfl) ?_
    refine va_get (D := (dC, dI)) (ci := 4) (v := .ref (a 1)) (C := RX0) (T := TX0) (N := 1) hx hb hts (fun _ h => gI_wsX00 h) hown hK.1 hP 5 rfl rfl 0 (by decide) (hts _ mG_3_6) (fun _ h9 => h9) rfl dX0_withinAngle_14 ?_
    refine lv_iload_n hx hb dX0_withinAngle_17 rfl (lv_at hl 1 rfl) ?_
    refine lv_iload_n hx hb dX0_withinAngle_18 rfl (lv_at hl 2 rfl) ?_
    refine lv_iload hx hb dX0_withinAngle_19 (lv_at hl 4 rfl) ?_
    refine cp_i (va_runV (As := [.int p1, .int p2, .int p4]) (rest := []) ⟨hx, hb, hml, hown, hts⟩ (c_X2_sameDirection l dC dI a cI cJ xs ys pl kp lp lq lr v0 v1 v2 v3 v4 v5 v6 v7 v8 v9 v10 p1 p2 p4 (by first | with_reducible assumption | exact in0_24 | exact in0_60 | decide) (by first | with_reducible assumption | exact in0_24 | exact in0_60 | decide) (by first | with_reducible assumption | exact in0_24 | exact in0_60 | decide)) (cwV 3 hts (gG_V mG_17_12 mG_17_13 mG_17_14 mG_1_16 (gG_c mG_17_15 gG_G)) rfl rfl rfl hd_X2_sameDirection ⟨Nat.le_of_ble_eq_true rfl, Nat.le_of_ble_eq_true rfl⟩) (pPcV (ci := 6) (q0 := 1) hK hP rfl rfl) rfl rfl hl.1 rfl (lv_room (Nat.le_of_ble_eq_true rfl)) dX0_withinAngle_21 ⟨Nat.le_of_ble_eq_true rfl, Nat.le_of_ble_eq_true rfl⟩) hP hS (fun H hP hS => ?_)
    refine lv_if_ne (tgt := 41) hx hb dX0_withinAngle_24 (by decide) (fun c2 => ?_) (fun c2 => ?_)
    · skip
      refine lv_iconst (v := (2 : Int32)) hx hb dX0_withinAngle_41 (by decide) ?_
      exact rp_i hQ hx hb hr hlk hS (Eq.symm (by simp only [f_X0_withinAngle, if_pos c1, if_neg c2])) dX0_withinAngle_42
    · skip
      refine lv_aload_n hx hb dX0_withinAngle_27 rfl (lv_at hl 0 rfl) ?_
      refine va_get (D := (dC, dI)) (ci := 4) (v := .ref (a 1)) (C := RX0) (T := TX0) (N := 1) hx hb hts (fun _ h => gI_wsX00 h) hown hK.1 hP 5 rfl rfl 0 (by decide) (hts _ mG_3_6) (fun _ h9 => h9) rfl dX0_withinAngle_28 ?_
      refine lv_iload_n hx hb dX0_withinAngle_31 rfl (lv_at hl 1 rfl) ?_
      refine lv_iload_n hx hb dX0_withinAngle_32 rfl (lv_at hl 3 rfl) ?_
      refine lv_iload hx hb dX0_withinAngle_33 (lv_at hl 4 rfl) ?_
      refine cp_i (va_runV (As := [.int p1, .int p3, .int p4]) (rest := []) ⟨hx, hb, hml, hown, hts⟩ (c_X2_sameDirection l dC dI a cI cJ xs ys pl kp lp lq lr v0 v1 v2 v3 v4 v5 v6 v7 v8 v9 v10 p1 p3 p4 (by first | with_reducible assumption | exact in0_24 | exact in0_60 | decide) (by first | with_reducible assumption | exact in0_24 | exact in0_60 | decide) (by first | with_reducible assumption | exact in0_24 | exact in0_60 | decide)) (cwV 3 hts (gG_V mG_17_12 mG_17_13 mG_17_14 mG_1_16 (gG_c mG_17_15 gG_G)) rfl rfl rfl hd_X2_sameDirection ⟨Nat.le_of_ble_eq_true rfl, Nat.le_of_ble_eq_true rfl⟩) (pPcV (ci := 6) (q0 := 1) hK hP rfl rfl) rfl rfl hl.1 rfl (lv_room (Nat.le_of_ble_eq_true rfl)) dX0_withinAngle_35 ⟨Nat.le_of_ble_eq_true rfl, Nat.le_of_ble_eq_true rfl⟩) hP hS (fun H hP hS => ?_)
      refine lv_if_eq (tgt := 43) hx hb dX0_withinAngle_38 (by decide) (fun c3 => ?_) (fun c3 => ?_)
      · skip
        refine lv_aload_n hx hb dX0_withinAngle_43 rfl (lv_at hl 0 rfl) ?_
        refine va_get (D := (dC, dI)) (ci := 4) (v := .ref (a 1)) (C := RX0) (T := TX0) (N := 1) hx hb hts (fun _ h => gI_wsX00 h) hown hK.1 hP 5 rfl rfl 0 (by decide) (hts _ mG_3_6) (fun _ h9 => h9) rfl dX0_withinAngle_44 ?_
        refine lv_iload_n hx hb dX0_withinAngle_47 rfl (lv_at hl 1 rfl) ?_
        refine lv_iload_n hx hb dX0_withinAngle_48 rfl (lv_at hl 2 rfl) ?_
        refine lv_iload hx hb dX0_withinAngle_49 (lv_at hl 4 rfl) ?_
        refine cp_i (va_runV (As := [.int p1, .int p2, .int p4]) (rest := []) ⟨hx, hb, hml, hown, hts⟩ (c_X2_turn l dC dI a cI cJ xs ys pl kp lp lq lr v0 v1 v2 v3 v4 v5 v6 v7 v8 v9 v10 p1 p2 p4 (by first | with_reducible assumption | exact in0_24 | exact in0_60 | decide) (by first | with_reducible assumption | exact in0_24 | exact in0_60 | decide) (by first | with_reducible assumption | exact in0_24 | exact in0_60 | decide)) (cwV 3 hts (gG_V mG_17_16 mG_11_7 mG_11_8 mG_1_16 (gG_c mG_11_9 gG_G)) rfl rfl rfl hd_X2_turn ⟨Nat.le_of_ble_eq_true rfl, Nat.le_of_ble_eq_true rfl⟩) (pPcV (ci := 6) (q0 := 1) hK hP rfl rfl) rfl rfl hl.1 rfl (lv_room (Nat.le_of_ble_eq_true rfl)) dX0_withinAngle_51 ⟨Nat.le_of_ble_eq_true rfl, Nat.le_of_ble_eq_true rfl⟩) hP hS (fun H hP hS => ?_)
        refine lv_if_le (tgt := 61) hx hb dX0_withinAngle_54 (by decide) (fun c4 => ?_) (fun c4 => ?_)
        · skip
          refine lv_iconst (v := (0 : Int32)) hx hb dX0_withinAngle_61 (by decide) ?_
          refine lv_istore (lv' := [(5, .int (0 : Int32)), (0, .ref (a 5)), (1, .int p1), (2, .int p2), (3, .int p3), (4, .int p4)]) hx hb dX0_withinAngle_62 hl (by decide) rfl (fun ls hl => ?_)
          refine lv_aload_n hx hb dX0_withinAngle_64 rfl (lv_at hl 1 rfl) ?_
          refine va_get (D := (dC, dI)) (ci := 4) (v := .ref (a 1)) (C := RX0) (T := TX0) (N := 1) hx hb hts (fun _ h => gI_wsX00 h) hown hK.1 hP 5 rfl rfl 0 (by decide) (hts _ mG_3_6) (fun _ h9 => h9) rfl dX0_withinAngle_65 ?_
          refine lv_iload_n hx hb dX0_withinAngle_68 rfl (lv_at hl 2 rfl) ?_
          refine lv_iload_n hx hb dX0_withinAngle_69 rfl (lv_at hl 4 rfl) ?_
          refine lv_iload hx hb dX0_withinAngle_70 (lv_at hl 5 rfl) ?_
          refine cp_i (va_runV (As := [.int p1, .int p3, .int p4]) (rest := []) ⟨hx, hb, hml, hown, hts⟩ (c_X2_turn l dC dI a cI cJ xs ys pl kp lp lq lr v0 v1 v2 v3 v4 v5 v6 v7 v8 v9 v10 p1 p3 p4 (by first | with_reducible assumption | exact in0_24 | exact in0_60 | decide) (by first | with_reducible assumption | exact in0_24 | exact in0_60 | decide) (by first | with_reducible assumption | exact in0_24 | exact in0_60 | decide)) (cwV 3 hts (gG_V mG_17_16 mG_11_7 mG_11_8 mG_1_16 (gG_c mG_11_9 gG_G)) rfl rfl rfl hd_X2_turn ⟨Nat.le_of_ble_eq_true rfl, Nat.le_of_ble_eq_true rfl⟩) (pPcV (ci := 6) (q0 := 1) hK hP rfl rfl) rfl rfl hl.1 rfl (lv_room (Nat.le_of_ble_eq_true rfl)) dX0_withinAngle_72 ⟨Nat.le_of_ble_eq_true rfl, Nat.le_of_ble_eq_true rfl⟩) hP hS (fun H hP hS => ?_)
          refine lv_if_ge (tgt := 82) hx hb dX0_withinAngle_75 (by decide) (fun c5 => ?_) (fun c5 => ?_)
          · skip
            refine lv_iconst (v := (0 : Int32)) hx hb dX0_withinAngle_82 (by decide) ?_
            refine lv_istore (lv' := [(6, .int (0 : Int32)), (5, .int (0 : Int32)), (0, .ref (a 5)), (1, .int p1), (2, .int p2), (3, .int p3), (4, .int p4)]) hx hb dX0_withinAngle_83 hl (by decide) rfl (fun ls hl => ?_)
            refine lv_aload_n hx hb dX0_withinAngle_85 rfl (lv_at hl 2 rfl) ?_
            refine va_get (D := (dC, dI)) (ci := 4) (v := .ref (a 1)) (C := RX0) (T := TX0) (N := 1) hx hb hts (fun _ h => gI_wsX00 h) hown hK.1 hP 5 rfl rfl 0 (by decide) (hts _ mG_3_6) (fun _ h9 => h9) rfl dX0_withinAngle_86 ?_
            refine lv_iload_n hx hb dX0_withinAngle_89 rfl (lv_at hl 3 rfl) ?_
            refine lv_iload_n hx hb dX0_withinAngle_90 rfl (lv_at hl 4 rfl) ?_
            refine lv_iload_n hx hb dX0_withinAngle_91 rfl (lv_at hl 5 rfl) ?_
            refine cp_i (va_runV (As := [.int p1, .int p2, .int p3]) (rest := []) ⟨hx, hb, hml, hown, hts⟩ (c_X2_turn l dC dI a cI cJ xs ys pl kp lp lq lr v0 v1 v2 v3 v4 v5 v6 v7 v8 v9 v10 p1 p2 p3 (by first | with_reducible assumption | exact in0_24 | exact in0_60 | decide) (by first | with_reducible assumption | exact in0_24 | exact in0_60 | decide) (by first | with_reducible assumption | exact in0_24 | exact in0_60 | decide)) (cwV 3 hts (gG_V mG_17_16 mG_11_7 mG_11_8 mG_1_16 (gG_c mG_11_9 gG_G)) rfl rfl rfl hd_X2_turn ⟨Nat.le_of_ble_eq_true rfl, Nat.le_of_ble_eq_true rfl⟩) (pPcV (ci := 6) (q0 := 1) hK hP rfl rfl) rfl rfl hl.1 rfl (lv_room (Nat.le_of_ble_eq_true rfl)) dX0_withinAngle_92 ⟨Nat.le_of_ble_eq_true rfl, Nat.le_of_ble_eq_true rfl⟩) hP hS (fun H hP hS => ?_)
            refine lv_if_ge (tgt := 102) hx hb dX0_withinAngle_95 (by decide) (fun c6 => ?_) (fun c6 => ?_)
            · skip
              refine lv_iconst (v := (0 : Int32)) hx hb dX0_withinAngle_102 (by decide) ?_
              refine lv_istore (lv' := [(7, .int (0 : Int32)), (6, .int (0 : Int32)), (5, .int (0 : Int32)), (0, .ref (a 5)), (1, .int p1), (2, .int p2), (3, .int p3), (4, .int p4)]) hx hb dX0_withinAngle_103 hl (by decide) rfl (fun ls hl => ?_)
              refine lv_iload hx hb dX0_withinAngle_105 (lv_at hl 0 rfl) ?_
              refine lv_if_eq (tgt := 128) hx hb dX0_withinAngle_107 (by decide) (fun _ => ?_) (fun c9 => absurd c9 (by decide))
              refine lv_iload hx hb dX0_withinAngle_128 (lv_at hl 2 rfl) ?_
              refine lv_if_eq (tgt := 142) hx hb dX0_withinAngle_130 (by decide) (fun _ => ?_) (fun c9 => absurd c9 (by decide))
              refine lv_iconst (v := (0 : Int32)) hx hb dX0_withinAngle_142 (by decide) ?_
              refine lv_istore (lv' := [(8, .int (0 : Int32)), (7, .int (0 : Int32)), (6, .int (0 : Int32)), (5, .int (0 : Int32)), (0, .ref (a 5)), (1, .int p1), (2, .int p2), (3, .int p3), (4, .int p4)]) hx hb dX0_withinAngle_143 hl (by decide) rfl (fun ls hl => ?_)
              refine lv_iload hx hb dX0_withinAngle_145 (lv_at hl 0 rfl) ?_
              refine lv_if_eq (tgt := 154) hx hb dX0_withinAngle_147 (by decide) (fun _ => ?_) (fun c9 => absurd c9 (by decide))
              refine lv_iconst (v := (0 : Int32)) hx hb dX0_withinAngle_154 (by decide) ?_
              exact rp_i hQ hx hb hr hlk hS (Eq.symm (by simp only [f_X0_withinAngle, if_pos c1, if_pos c2, if_pos c3, if_pos c4, if_pos c5, if_pos c6])) dX0_withinAngle_155
            · skip
              refine lv_iconst (v := (1 : Int32)) hx hb dX0_withinAngle_98 (by decide) ?_
              refine lv_goto (tgt := 103) hx hb dX0_withinAngle_99 (by decide) ?_
              refine lv_istore (lv' := [(7, .int (1 : Int32)), (6, .int (0 : Int32)), (5, .int (0 : Int32)), (0, .ref (a 5)), (1, .int p1), (2, .int p2), (3, .int p3), (4, .int p4)]) hx hb dX0_withinAngle_103 hl (by decide) rfl (fun ls hl => ?_)
              refine lv_iload hx hb dX0_withinAngle_105 (lv_at hl 0 rfl) ?_
              refine lv_if_eq (tgt := 128) hx hb dX0_withinAngle_107 (by decide) (fun c9 => absurd c9 (by decide)) (fun _ => ?_)
              refine lv_iload hx hb dX0_withinAngle_110 (lv_at hl 2 rfl) ?_
              refine lv_if_ne (tgt := 120) hx hb dX0_withinAngle_112 (by decide) (fun c9 => absurd c9 (by decide)) (fun _ => ?_)
              refine lv_iload hx hb dX0_withinAngle_115 (lv_at hl 1 rfl) ?_
              refine lv_if_eq (tgt := 124) hx hb dX0_withinAngle_117 (by decide) (fun _ => ?_) (fun c9 => absurd c9 (by decide))
              refine lv_iconst (v := (0 : Int32)) hx hb dX0_withinAngle_124 (by decide) ?_
              refine lv_goto (tgt := 143) hx hb dX0_withinAngle_125 (by decide) ?_
              refine lv_istore (lv' := [(8, .int (0 : Int32)), (7, .int (1 : Int32)), (6, .int (0 : Int32)), (5, .int (0 : Int32)), (0, .ref (a 5)), (1, .int p1), (2, .int p2), (3, .int p3), (4, .int p4)]) hx hb dX0_withinAngle_143 hl (by decide) rfl (fun ls hl => ?_)
              refine lv_iload hx hb dX0_withinAngle_145 (lv_at hl 0 rfl) ?_
              refine lv_if_eq (tgt := 154) hx hb dX0_withinAngle_147 (by decide) (fun _ => ?_) (fun c9 => absurd c9 (by decide))
              refine lv_iconst (v := (0 : Int32)) hx hb dX0_withinAngle_154 (by decide) ?_
              exact rp_i hQ hx hb hr hlk hS (Eq.symm (by simp only [f_X0_withinAngle, if_pos c1, if_pos c2, if_pos c3, if_pos c4, if_pos c5, if_neg c6])) dX0_withinAngle_155
          · skip
            refine lv_iconst (v := (1 : Int32)) hx hb dX0_withinAngle_78 (by decide) ?_
            refine lv_goto (tgt := 83) hx hb dX0_withinAngle_79 (by decide) ?_
            refine lv_istore (lv' := [(6, .int (1 : Int32)), (5, .int (0 : Int32)), (0, .ref (a 5)), (1, .int p1), (2, .int p2), (3, .int p3), (4, .int p4)]) hx hb dX0_withinAngle_83 hl (by decide) rfl (fun ls hl => ?_)
            refine lv_aload_n hx hb dX0_withinAngle_85 rfl (lv_at hl 2 rfl) ?_
            refine va_get (D := (dC, dI)) (ci := 4) (v := .ref (a 1)) (C := RX0) (T := TX0) (N := 1) hx hb hts (fun _ h => gI_wsX00 h) hown hK.1 hP 5 rfl rfl 0 (by decide) (hts _ mG_3_6) (fun _ h9 => h9) rfl dX0_withinAngle_86 ?_
            refine lv_iload_n hx hb dX0_withinAngle_89 rfl (lv_at hl 3 rfl) ?_
            refine lv_iload_n hx hb dX0_withinAngle_90 rfl (lv_at hl 4 rfl) ?_
            refine lv_iload_n hx hb dX0_withinAngle_91 rfl (lv_at hl 5 rfl) ?_
            refine cp_i (va_runV (As := [.int p1, .int p2, .int p3]) (rest := []) ⟨hx, hb, hml, hown, hts⟩ (c_X2_turn l dC dI a cI cJ xs ys pl kp lp lq lr v0 v1 v2 v3 v4 v5 v6 v7 v8 v9 v10 p1 p2 p3 (by first | with_reducible assumption | exact in0_24 | exact in0_60 | decide) (by first | with_reducible assumption | exact in0_24 | exact in0_60 | decide) (by first | with_reducible assumption | exact in0_24 | exact in0_60 | decide)) (cwV 3 hts (gG_V mG_17_16 mG_11_7 mG_11_8 mG_1_16 (gG_c mG_11_9 gG_G)) rfl rfl rfl hd_X2_turn ⟨Nat.le_of_ble_eq_true rfl, Nat.le_of_ble_eq_true rfl⟩) (pPcV (ci := 6) (q0 := 1) hK hP rfl rfl) rfl rfl hl.1 rfl (lv_room (Nat.le_of_ble_eq_true rfl)) dX0_withinAngle_92 ⟨Nat.le_of_ble_eq_true rfl, Nat.le_of_ble_eq_true rfl⟩) hP hS (fun H hP hS => ?_)
            refine lv_if_ge (tgt := 102) hx hb dX0_withinAngle_95 (by decide) (fun c7 => ?_) (fun c7 => ?_)
            · skip
              refine lv_iconst (v := (0 : Int32)) hx hb dX0_withinAngle_102 (by decide) ?_
              refine lv_istore (lv' := [(7, .int (0 : Int32)), (6, .int (1 : Int32)), (5, .int (0 : Int32)), (0, .ref (a 5)), (1, .int p1), (2, .int p2), (3, .int p3), (4, .int p4)]) hx hb dX0_withinAngle_103 hl (by decide) rfl (fun ls hl => ?_)
              refine lv_iload hx hb dX0_withinAngle_105 (lv_at hl 0 rfl) ?_
              refine lv_if_eq (tgt := 128) hx hb dX0_withinAngle_107 (by decide) (fun _ => ?_) (fun c9 => absurd c9 (by decide))
              refine lv_iload hx hb dX0_withinAngle_128 (lv_at hl 2 rfl) ?_
              refine lv_if_eq (tgt := 142) hx hb dX0_withinAngle_130 (by decide) (fun _ => ?_) (fun c9 => absurd c9 (by decide))
              refine lv_iconst (v := (0 : Int32)) hx hb dX0_withinAngle_142 (by decide) ?_
              refine lv_istore (lv' := [(8, .int (0 : Int32)), (7, .int (0 : Int32)), (6, .int (1 : Int32)), (5, .int (0 : Int32)), (0, .ref (a 5)), (1, .int p1), (2, .int p2), (3, .int p3), (4, .int p4)]) hx hb dX0_withinAngle_143 hl (by decide) rfl (fun ls hl => ?_)
              refine lv_iload hx hb dX0_withinAngle_145 (lv_at hl 0 rfl) ?_
              refine lv_if_eq (tgt := 154) hx hb dX0_withinAngle_147 (by decide) (fun _ => ?_) (fun c9 => absurd c9 (by decide))
              refine lv_iconst (v := (0 : Int32)) hx hb dX0_withinAngle_154 (by decide) ?_
              exact rp_i hQ hx hb hr hlk hS (Eq.symm (by simp only [f_X0_withinAngle, if_pos c1, if_pos c2, if_pos c3, if_pos c4, if_neg c5, if_pos c7])) dX0_withinAngle_155
            · skip
              refine lv_iconst (v := (1 : Int32)) hx hb dX0_withinAngle_98 (by decide) ?_
              refine lv_goto (tgt := 103) hx hb dX0_withinAngle_99 (by decide) ?_
              refine lv_istore (lv' := [(7, .int (1 : Int32)), (6, .int (1 : Int32)), (5, .int (0 : Int32)), (0, .ref (a 5)), (1, .int p1), (2, .int p2), (3, .int p3), (4, .int p4)]) hx hb dX0_withinAngle_103 hl (by decide) rfl (fun ls hl => ?_)
              refine lv_iload hx hb dX0_withinAngle_105 (lv_at hl 0 rfl) ?_
              refine lv_if_eq (tgt := 128) hx hb dX0_withinAngle_107 (by decide) (fun c9 => absurd c9 (by decide)) (fun _ => ?_)
              refine lv_iload hx hb dX0_withinAngle_110 (lv_at hl 2 rfl) ?_
              refine lv_if_ne (tgt := 120) hx hb dX0_withinAngle_112 (by decide) (fun c9 => absurd c9 (by decide)) (fun _ => ?_)
              refine lv_iload hx hb dX0_withinAngle_115 (lv_at hl 1 rfl) ?_
              refine lv_if_eq (tgt := 124) hx hb dX0_withinAngle_117 (by decide) (fun c9 => absurd c9 (by decide)) (fun _ => ?_)
              refine lv_iconst (v := (1 : Int32)) hx hb dX0_withinAngle_120 (by decide) ?_
              refine lv_goto (tgt := 143) hx hb dX0_withinAngle_121 (by decide) ?_
              refine lv_istore (lv' := [(8, .int (1 : Int32)), (7, .int (1 : Int32)), (6, .int (1 : Int32)), (5, .int (0 : Int32)), (0, .ref (a 5)), (1, .int p1), (2, .int p2), (3, .int p3), (4, .int p4)]) hx hb dX0_withinAngle_143 hl (by decide) rfl (fun ls hl => ?_)
              refine lv_iload hx hb dX0_withinAngle_145 (lv_at hl 0 rfl) ?_
              refine lv_if_eq (tgt := 154) hx hb dX0_withinAngle_147 (by decide) (fun c9 => absurd c9 (by decide)) (fun _ => ?_)
              refine lv_iconst (v := (1 : Int32)) hx hb dX0_withinAngle_150 (by decide) ?_
              refine lv_goto (tgt := 155) hx hb dX0_withinAngle_151 (by decide) ?_
              exact rp_i hQ hx hb hr hlk hS (Eq.symm (by simp only [f_X0_withinAngle, if_pos c1, if_pos c2, if_pos c3, if_pos c4, if_neg c5, if_neg c7])) dX0_withinAngle_155
        · skip
          refine lv_iconst (v := (1 : Int32)) hx hb dX0_withinAngle_57 (by decide) ?_
          refine lv_goto (tgt := 62) hx hb dX0_withinAngle_58 (by decide) ?_
          refine lv_istore (lv' := [(5, .int (1 : Int32)), (0, .ref (a 5)), (1, .int p1), (2, .int p2), (3, .int p3), (4, .int p4)]) hx hb dX0_withinAngle_62 hl (by decide) rfl (fun ls hl => ?_)
          refine lv_aload_n hx hb dX0_withinAngle_64 rfl (lv_at hl 1 rfl) ?_
          refine va_get (D := (dC, dI)) (ci := 4) (v := .ref (a 1)) (C := RX0) (T := TX0) (N := 1) hx hb hts (fun _ h => gI_wsX00 h) hown hK.1 hP 5 rfl rfl 0 (by decide) (hts _ mG_3_6) (fun _ h9 => h9) rfl dX0_withinAngle_65 ?_
          refine lv_iload_n hx hb dX0_withinAngle_68 rfl (lv_at hl 2 rfl) ?_
          refine lv_iload_n hx hb dX0_withinAngle_69 rfl (lv_at hl 4 rfl) ?_
          refine lv_iload hx hb dX0_withinAngle_70 (lv_at hl 5 rfl) ?_
          refine cp_i (va_runV (As := [.int p1, .int p3, .int p4]) (rest := []) ⟨hx, hb, hml, hown, hts⟩ (c_X2_turn l dC dI a cI cJ xs ys pl kp lp lq lr v0 v1 v2 v3 v4 v5 v6 v7 v8 v9 v10 p1 p3 p4 (by first | with_reducible assumption | exact in0_24 | exact in0_60 | decide) (by first | with_reducible assumption | exact in0_24 | exact in0_60 | decide) (by first | with_reducible assumption | exact in0_24 | exact in0_60 | decide)) (cwV 3 hts (gG_V mG_17_16 mG_11_7 mG_11_8 mG_1_16 (gG_c mG_11_9 gG_G)) rfl rfl rfl hd_X2_turn ⟨Nat.le_of_ble_eq_true rfl, Nat.le_of_ble_eq_true rfl⟩) (pPcV (ci := 6) (q0 := 1) hK hP rfl rfl) rfl rfl hl.1 rfl (lv_room (Nat.le_of_ble_eq_true rfl)) dX0_withinAngle_72 ⟨Nat.le_of_ble_eq_true rfl, Nat.le_of_ble_eq_true rfl⟩) hP hS (fun H hP hS => ?_)
          refine lv_if_ge (tgt := 82) hx hb dX0_withinAngle_75 (by decide) (fun c8 => ?_) (fun c8 => ?_)
          · skip
            refine lv_iconst (v := (0 : Int32)) hx hb dX0_withinAngle_82 (by decide) ?_
            refine lv_istore (lv' := [(6, .int (0 : Int32)), (5, .int (1 : Int32)), (0, .ref (a 5)), (1, .int p1), (2, .int p2), (3, .int p3), (4, .int p4)]) hx hb dX0_withinAngle_83 hl (by decide) rfl (fun ls hl => ?_)
            refine lv_aload_n hx hb dX0_withinAngle_85 rfl (lv_at hl 2 rfl) ?_
            refine va_get (D := (dC, dI)) (ci := 4) (v := .ref (a 1)) (C := RX0) (T := TX0) (N := 1) hx hb hts (fun _ h => gI_wsX00 h) hown hK.1 hP 5 rfl rfl 0 (by decide) (hts _ mG_3_6) (fun _ h9 => h9) rfl dX0_withinAngle_86 ?_
            refine lv_iload_n hx hb dX0_withinAngle_89 rfl (lv_at hl 3 rfl) ?_
            refine lv_iload_n hx hb dX0_withinAngle_90 rfl (lv_at hl 4 rfl) ?_
            refine lv_iload_n hx hb dX0_withinAngle_91 rfl (lv_at hl 5 rfl) ?_
            refine cp_i (va_runV (As := [.int p1, .int p2, .int p3]) (rest := []) ⟨hx, hb, hml, hown, hts⟩ (c_X2_turn l dC dI a cI cJ xs ys pl kp lp lq lr v0 v1 v2 v3 v4 v5 v6 v7 v8 v9 v10 p1 p2 p3 (by first | with_reducible assumption | exact in0_24 | exact in0_60 | decide) (by first | with_reducible assumption | exact in0_24 | exact in0_60 | decide) (by first | with_reducible assumption | exact in0_24 | exact in0_60 | decide)) (cwV 3 hts (gG_V mG_17_16 mG_11_7 mG_11_8 mG_1_16 (gG_c mG_11_9 gG_G)) rfl rfl rfl hd_X2_turn ⟨Nat.le_of_ble_eq_true rfl, Nat.le_of_ble_eq_true rfl⟩) (pPcV (ci := 6) (q0 := 1) hK hP rfl rfl) rfl rfl hl.1 rfl (lv_room (Nat.le_of_ble_eq_true rfl)) dX0_withinAngle_92 ⟨Nat.le_of_ble_eq_true rfl, Nat.le_of_ble_eq_true rfl⟩) hP hS (fun H hP hS => ?_)
            refine lv_if_ge (tgt := 102) hx hb dX0_withinAngle_95 (by decide) (fun c9 => ?_) (fun c9 => ?_)
            · skip
              refine lv_iconst (v := (0 : Int32)) hx hb dX0_withinAngle_102 (by decide) ?_
              refine lv_istore (lv' := [(7, .int (0 : Int32)), (6, .int (0 : Int32)), (5, .int (1 : Int32)), (0, .ref (a 5)), (1, .int p1), (2, .int p2), (3, .int p3), (4, .int p4)]) hx hb dX0_withinAngle_103 hl (by decide) rfl (fun ls hl => ?_)
              refine lv_iload hx hb dX0_withinAngle_105 (lv_at hl 0 rfl) ?_
              refine lv_if_eq (tgt := 128) hx hb dX0_withinAngle_107 (by decide) (fun _ => ?_) (fun c9 => absurd c9 (by decide))
              refine lv_iload hx hb dX0_withinAngle_128 (lv_at hl 2 rfl) ?_
              refine lv_if_eq (tgt := 142) hx hb dX0_withinAngle_130 (by decide) (fun c9 => absurd c9 (by decide)) (fun _ => ?_)
              refine lv_iload hx hb dX0_withinAngle_133 (lv_at hl 1 rfl) ?_
              refine lv_if_eq (tgt := 142) hx hb dX0_withinAngle_135 (by decide) (fun _ => ?_) (fun c9 => absurd c9 (by decide))
              refine lv_iconst (v := (0 : Int32)) hx hb dX0_withinAngle_142 (by decide) ?_
              refine lv_istore (lv' := [(8, .int (0 : Int32)), (7, .int (0 : Int32)), (6, .int (0 : Int32)), (5, .int (1 : Int32)), (0, .ref (a 5)), (1, .int p1), (2, .int p2), (3, .int p3), (4, .int p4)]) hx hb dX0_withinAngle_143 hl (by decide) rfl (fun ls hl => ?_)
              refine lv_iload hx hb dX0_withinAngle_145 (lv_at hl 0 rfl) ?_
              refine lv_if_eq (tgt := 154) hx hb dX0_withinAngle_147 (by decide) (fun _ => ?_) (fun c9 => absurd c9 (by decide))
              refine lv_iconst (v := (0 : Int32)) hx hb dX0_withinAngle_154 (by decide) ?_
              exact rp_i hQ hx hb hr hlk hS (Eq.symm (by simp only [f_X0_withinAngle, if_pos c1, if_pos c2, if_pos c3, if_neg c4, if_pos c8, if_pos c9])) dX0_withinAngle_155
            · skip
              refine lv_iconst (v := (1 : Int32)) hx hb dX0_withinAngle_98 (by decide) ?_
              refine lv_goto (tgt := 103) hx hb dX0_withinAngle_99 (by decide) ?_
              refine lv_istore (lv' := [(7, .int (1 : Int32)), (6, .int (0 : Int32)), (5, .int (1 : Int32)), (0, .ref (a 5)), (1, .int p1), (2, .int p2), (3, .int p3), (4, .int p4)]) hx hb dX0_withinAngle_103 hl (by decide) rfl (fun ls hl => ?_)
              refine lv_iload hx hb dX0_withinAngle_105 (lv_at hl 0 rfl) ?_
              refine lv_if_eq (tgt := 128) hx hb dX0_withinAngle_107 (by decide) (fun c9 => absurd c9 (by decide)) (fun _ => ?_)
              refine lv_iload hx hb dX0_withinAngle_110 (lv_at hl 2 rfl) ?_
              refine lv_if_ne (tgt := 120) hx hb dX0_withinAngle_112 (by decide) (fun _ => ?_) (fun c9 => absurd c9 (by decide))
              refine lv_iconst (v := (1 : Int32)) hx hb dX0_withinAngle_120 (by decide) ?_
              refine lv_goto (tgt := 143) hx hb dX0_withinAngle_121 (by decide) ?_
              refine lv_istore (lv' := [(8, .int (1 : Int32)), (7, .int (1 : Int32)), (6, .int (0 : Int32)), (5, .int (1 : Int32)), (0, .ref (a 5)), (1, .int p1), (2, .int p2), (3, .int p3), (4, .int p4)]) hx hb dX0_withinAngle_143 hl (by decide) rfl (fun ls hl => ?_)
              refine lv_iload hx hb dX0_withinAngle_145 (lv_at hl 0 rfl) ?_
              refine lv_if_eq (tgt := 154) hx hb dX0_withinAngle_147 (by decide) (fun c9 => absurd c9 (by decide)) (fun _ => ?_)
              refine lv_iconst (v := (1 : Int32)) hx hb dX0_withinAngle_150 (by decide) ?_
              refine lv_goto (tgt := 155) hx hb dX0_withinAngle_151 (by decide) ?_
              exact rp_i hQ hx hb hr hlk hS (Eq.symm (by simp only [f_X0_withinAngle, if_pos c1, if_pos c2, if_pos c3, if_neg c4, if_pos c8, if_neg c9])) dX0_withinAngle_155
          · skip
            refine lv_iconst (v := (1 : Int32)) hx hb dX0_withinAngle_78 (by decide) ?_
            refine lv_goto (tgt := 83) hx hb dX0_withinAngle_79 (by decide) ?_
            refine lv_istore (lv' := [(6, .int (1 : Int32)), (5, .int (1 : Int32)), (0, .ref (a 5)), (1, .int p1), (2, .int p2), (3, .int p3), (4, .int p4)]) hx hb dX0_withinAngle_83 hl (by decide) rfl (fun ls hl => ?_)
            refine lv_aload_n hx hb dX0_withinAngle_85 rfl (lv_at hl 2 rfl) ?_
            refine va_get (D := (dC, dI)) (ci := 4) (v := .ref (a 1)) (C := RX0) (T := TX0) (N := 1) hx hb hts (fun _ h => gI_wsX00 h) hown hK.1 hP 5 rfl rfl 0 (by decide) (hts _ mG_3_6) (fun _ h9 => h9) rfl dX0_withinAngle_86 ?_
            refine lv_iload_n hx hb dX0_withinAngle_89 rfl (lv_at hl 3 rfl) ?_
            refine lv_iload_n hx hb dX0_withinAngle_90 rfl (lv_at hl 4 rfl) ?_
            refine lv_iload_n hx hb dX0_withinAngle_91 rfl (lv_at hl 5 rfl) ?_
            refine cp_i (va_runV (As := [.int p1, .int p2, .int p3]) (rest := []) ⟨hx, hb, hml, hown, hts⟩ (c_X2_turn l dC dI a cI cJ xs ys pl kp lp lq lr v0 v1 v2 v3 v4 v5 v6 v7 v8 v9 v10 p1 p2 p3 (by first | with_reducible assumption | exact in0_24 | exact in0_60 | decide) (by first | with_reducible assumption | exact in0_24 | exact in0_60 | decide) (by first | with_reducible assumption | exact in0_24 | exact in0_60 | decide)) (cwV 3 hts (gG_V mG_17_16 mG_11_7 mG_11_8 mG_1_16 (gG_c mG_11_9 gG_G)) rfl rfl rfl hd_X2_turn ⟨Nat.le_of_ble_eq_true rfl, Nat.le_of_ble_eq_true rfl⟩) (pPcV (ci := 6) (q0 := 1) hK hP rfl rfl) rfl rfl hl.1 rfl (lv_room (Nat.le_of_ble_eq_true rfl)) dX0_withinAngle_92 ⟨Nat.le_of_ble_eq_true rfl, Nat.le_of_ble_eq_true rfl⟩) hP hS (fun H hP hS => ?_)
            refine lv_if_ge (tgt := 102) hx hb dX0_withinAngle_95 (by decide) (fun c10 => ?_) (fun c10 => ?_)
            · skip
              refine lv_iconst (v := (0 : Int32)) hx hb dX0_withinAngle_102 (by decide) ?_
              refine lv_istore (lv' := [(7, .int (0 : Int32)), (6, .int (1 : Int32)), (5, .int (1 : Int32)), (0, .ref (a 5)), (1, .int p1), (2, .int p2), (3, .int p3), (4, .int p4)]) hx hb dX0_withinAngle_103 hl (by decide) rfl (fun ls hl => ?_)
              refine lv_iload hx hb dX0_withinAngle_105 (lv_at hl 0 rfl) ?_
              refine lv_if_eq (tgt := 128) hx hb dX0_withinAngle_107 (by decide) (fun _ => ?_) (fun c9 => absurd c9 (by decide))
              refine lv_iload hx hb dX0_withinAngle_128 (lv_at hl 2 rfl) ?_
              refine lv_if_eq (tgt := 142) hx hb dX0_withinAngle_130 (by decide) (fun c9 => absurd c9 (by decide)) (fun _ => ?_)
              refine lv_iload hx hb dX0_withinAngle_133 (lv_at hl 1 rfl) ?_
              refine lv_if_eq (tgt := 142) hx hb dX0_withinAngle_135 (by decide) (fun c9 => absurd c9 (by decide)) (fun _ => ?_)
              refine lv_iconst (v := (1 : Int32)) hx hb dX0_withinAngle_138 (by decide) ?_
              refine lv_goto (tgt := 143) hx hb dX0_withinAngle_139 (by decide) ?_
              refine lv_istore (lv' := [(8, .int (1 : Int32)), (7, .int (0 : Int32)), (6, .int (1 : Int32)), (5, .int (1 : Int32)), (0, .ref (a 5)), (1, .int p1), (2, .int p2), (3, .int p3), (4, .int p4)]) hx hb dX0_withinAngle_143 hl (by decide) rfl (fun ls hl => ?_)
              refine lv_iload hx hb dX0_withinAngle_145 (lv_at hl 0 rfl) ?_
              refine lv_if_eq (tgt := 154) hx hb dX0_withinAngle_147 (by decide) (fun c9 => absurd c9 (by decide)) (fun _ => ?_)
              refine lv_iconst (v := (1 : Int32)) hx hb dX0_withinAngle_150 (by decide) ?_
              refine lv_goto (tgt := 155) hx hb dX0_withinAngle_151 (by decide) ?_
              exact rp_i hQ hx hb hr hlk hS (Eq.symm (by simp only [f_X0_withinAngle, if_pos c1, if_pos c2, if_pos c3, if_neg c4, if_neg c8, if_pos c10])) dX0_withinAngle_155
            · skip
              refine lv_iconst (v := (1 : Int32)) hx hb dX0_withinAngle_98 (by decide) ?_
              refine lv_goto (tgt := 103) hx hb dX0_withinAngle_99 (by decide) ?_
              refine lv_istore (lv' := [(7, .int (1 : Int32)), (6, .int (1 : Int32)), (5, .int (1 : Int32)), (0, .ref (a 5)), (1, .int p1), (2, .int p2), (3, .int p3), (4, .int p4)]) hx hb dX0_withinAngle_103 hl (by decide) rfl (fun ls hl => ?_)
              refine lv_iload hx hb dX0_withinAngle_105 (lv_at hl 0 rfl) ?_
              refine lv_if_eq (tgt := 128) hx hb dX0_withinAngle_107 (by decide) (fun c9 => absurd c9 (by decide)) (fun _ => ?_)
              refine lv_iload hx hb dX0_withinAngle_110 (lv_at hl 2 rfl) ?_
              refine lv_if_ne (tgt := 120) hx hb dX0_withinAngle_112 (by decide) (fun _ => ?_) (fun c9 => absurd c9 (by decide))
              refine lv_iconst (v := (1 : Int32)) hx hb dX0_withinAngle_120 (by decide) ?_
              refine lv_goto (tgt := 143) hx hb dX0_withinAngle_121 (by decide) ?_
              refine lv_istore (lv' := [(8, .int (1 : Int32)), (7, .int (1 : Int32)), (6, .int (1 : Int32)), (5, .int (1 : Int32)), (0, .ref (a 5)), (1, .int p1), (2, .int p2), (3, .int p3), (4, .int p4)]) hx hb dX0_withinAngle_143 hl (by decide) rfl (fun ls hl => ?_)
              refine lv_iload hx hb dX0_withinAngle_145 (lv_at hl 0 rfl) ?_
              refine lv_if_eq (tgt := 154) hx hb dX0_withinAngle_147 (by decide) (fun c9 => absurd c9 (by decide)) (fun _ => ?_)
              refine lv_iconst (v := (1 : Int32)) hx hb dX0_withinAngle_150 (by decide) ?_
              refine lv_goto (tgt := 155) hx hb dX0_withinAngle_151 (by decide) ?_
              exact rp_i hQ hx hb hr hlk hS (Eq.symm (by simp only [f_X0_withinAngle, if_pos c1, if_pos c2, if_pos c3, if_neg c4, if_neg c8, if_neg c10])) dX0_withinAngle_155
      · skip
        refine lv_iconst (v := (2 : Int32)) hx hb dX0_withinAngle_41 (by decide) ?_
        exact rp_i hQ hx hb hr hlk hS (Eq.symm (by simp only [f_X0_withinAngle, if_pos c1, if_pos c2, if_neg c3])) dX0_withinAngle_42
/-! X0_overlap -/
theorem hs_X0_overlap : yX0_overlap.cls ≠ "java/lang/invoke/MethodHandle" ∧ yX0_overlap.cls ≠ "java/lang/invoke/VarHandle" ∧ (parseMethodDescriptor yX0_overlap.desc).map (fun d => d.parameters.length) = some 4 := by decide +kernel
theorem hd_X0_overlap : yX0_overlap.cls = RX0 ∧ yX0_overlap.cls ≠ "java/lang/invoke/MethodHandle" ∧ yX0_overlap.cls ≠ "java/lang/invoke/VarHandle" ∧ (parseMethodDescriptor yX0_overlap.desc).map (fun d => d.parameters.length) = some 4 := ⟨rfl, hs_X0_overlap⟩
def f_X0_overlap (xs : Nat → Int32) (ys : Nat → Int32) (p1 : Int32) (p2 : Int32) (p3 : Int32) (p4 : Int32) : Int32 := (if (f_X2_compare xs ys (f_X0_later xs ys (f_X0_earlier xs ys p1 p2) (f_X0_earlier xs ys p3 p4)) (f_X0_earlier xs ys (f_X0_later xs ys p1 p2) (f_X0_later xs ys p3 p4))) = 0 then (2 : Int32) else (if 0 ≤ (f_X2_compare xs ys (f_X0_later xs ys (f_X0_earlier xs ys p1 p2) (f_X0_earlier xs ys p3 p4)) (f_X0_earlier xs ys (f_X0_later xs ys p1 p2) (f_X0_later xs ys p3 p4))) then (0 : Int32) else (3 : Int32)))
abbrev rm_X0_overlap : Room := { frames := 3, cells := 0, slots := 0, locals := 66 }
set_option maxHeartbeats 8000000 in
set_option maxRecDepth 100000 in
theorem c_X0_overlap (l : Launch) (dC : Nat → ClassId) (dI : Nat → Nat → Nat) (a : Nat → Nat) (cI cJ : ClassId) (xs : Nat → Int32) (ys : Nat → Int32) (pl : Nat → Int32) (kp : Nat → Int32) (lp : Nat → Int64) (lq : Nat → Int64) (lr : Nat → Int64) (v0 : Int32) (v1 : Int32) (v2 : Int32) (v3 : Int32) (v4 : Int32) (v5 : Int32) (v6 : Int32) (v7 : Int32) (v8 : Int32) (v9 : Int32) (v10 : Int32) (p1 : Int32) (p2 : Int32) (p3 : Int32) (p4 : Int32) (hi1 : vp_in p1 60) (hi2 : vp_in p2 60) (hi3 : vp_in p3 60) (hi4 : vp_in p4 60) : Met l yX0_overlap (Cond.code yX0_overlap cX0_overlap 8 (some .int) :: lw_G) rm_X0_overlap (pPc (dC, dI) (tIJ cI cJ) (wC a cI cJ xs ys pl kp lp lq lr v0 v1 v2 v3 v4 v5 v6 v7 v8 v9 v10) [.ref (a 5), .int p1, .int p2, .int p3, .int p4]) (pQi (f_X0_overlap xs ys p1 p2 p3 p4)) 0 0 pNo := by
  refine pm_of (by decide) (Nat.le_of_ble_eq_true rfl) ?_
  intro p e s m args below meth c Q ls hQ hx hb hr hlk hml hown hts hP hK hS hl
  have hown : s.vm.findClass RX0 = some m.cls := hown
  have hl : lv_has ls 8 [(0, .ref (a 5)), (1, .int p1), (2, .int p2), (3, .int p3), (4, .int p4)] := hl
  have he1 : vp_in (f_X0_earlier xs ys p1 p2) 60 := in_earlier hi1 hi2
  have he2 : vp_in (f_X0_earlier xs ys p3 p4) 60 := in_earlier hi3 hi4
  have hl1 : vp_in (f_X0_later xs ys p1 p2) 60 := in_later hi1 hi2
  have hl2 : vp_in (f_X0_later xs ys p3 p4) 60 := in_later hi3 hi4
  refine lv_aload_n hx hb dX0_overlap_0 rfl (lv_at hl 0 rfl) ?_
  refine lv_aload_n hx hb dX0_overlap_1 rfl (lv_at hl 0 rfl) ?_
  refine lv_iload_n hx hb dX0_overlap_2 rfl (lv_at hl 1 rfl) ?_
  refine lv_iload_n hx hb dX0_overlap_3 rfl (lv_at hl 2 rfl) ?_
  refine cp_i (va_runV (As := [.int p1, .int p2]) (rest := [.ref (a 5)]) ⟨hx, hb, hml, hown, hts⟩ (c_X0_earlier l dC dI a cI cJ xs ys pl kp lp lq lr v0 v1 v2 v3 v4 v5 v6 v7 v8 v9 v10 p1 p2 (by first | with_reducible assumption | exact in0_24 | exact in0_60 | decide) (by first | with_reducible assumption | exact in0_24 | exact in0_60 | decide)) (cwV 2 hts (gG_V mG_18_13 mG_18_14 mG_18_15 mG_2_0 (gG_c mG_18_16 gG_G)) rfl rfl rfl hd_X0_earlier ⟨Nat.le_of_ble_eq_true rfl, Nat.le_of_ble_eq_true rfl⟩) (pPcV (ci := 4) (q0 := 5) hK hP rfl rfl) rfl rfl hl.1 rfl (lv_room (Nat.le_of_ble_eq_true rfl)) dX0_overlap_4 ⟨Nat.le_of_ble_eq_true rfl, Nat.le_of_ble_eq_true rfl⟩) hP hS (fun H hP hS => ?_)
  refine lv_aload_n hx hb dX0_overlap_7 rfl (lv_at hl 0 rfl) ?_
  refine lv_iload_n hx hb dX0_overlap_8 rfl (lv_at hl 3 rfl) ?_
  refine lv_iload hx hb dX0_overlap_9 (lv_at hl 4 rfl) ?_
  refine cp_i (va_runV (As := [.int p3, .int p4]) (rest := [.int (f_X0_earlier xs ys p1 p2), .ref (a 5)]) ⟨hx, hb, hml, hown, hts⟩ (c_X0_earlier l dC dI a cI cJ xs ys pl kp lp lq lr v0 v1 v2 v3 v4 v5 v6 v7 v8 v9 v10 p3 p4 (by first | with_reducible assumption | exact in0_24 | exact in0_60 | decide) (by first | with_reducible assumption | exact in0_24 | exact in0_60 | decide)) (cwV 2 hts (gG_V mG_18_13 mG_18_14 mG_18_15 mG_2_0 (gG_c mG_18_16 gG_G)) rfl rfl rfl hd_X0_earlier ⟨Nat.le_of_ble_eq_true rfl, Nat.le_of_ble_eq_true rfl⟩) (pPcV (ci := 4) (q0 := 5) hK hP rfl rfl) rfl rfl hl.1 rfl (lv_room (Nat.le_of_ble_eq_true rfl)) dX0_overlap_11 ⟨Nat.le_of_ble_eq_true rfl, Nat.le_of_ble_eq_true rfl⟩) hP hS (fun H hP hS => ?_)
  refine cp_i (va_runV (As := [.int (f_X0_earlier xs ys p1 p2), .int (f_X0_earlier xs ys p3 p4)]) (rest := []) ⟨hx, hb, hml, hown, hts⟩ (c_X0_later l dC dI a cI cJ xs ys pl kp lp lq lr v0 v1 v2 v3 v4 v5 v6 v7 v8 v9 v10 (f_X0_earlier xs ys p1 p2) (f_X0_earlier xs ys p3 p4) (by first | with_reducible assumption | exact in0_24 | exact in0_60 | decide) (by first | with_reducible assumption | exact in0_24 | exact in0_60 | decide)) (cwV 2 hts (gG_V mG_18_18 mG_18_19 mG_18_20 mG_2_0 (gG_c mG_18_21 gG_G)) rfl rfl rfl hd_X0_later ⟨Nat.le_of_ble_eq_true rfl, Nat.le_of_ble_eq_true rfl⟩) (pPcV (ci := 4) (q0 := 5) hK hP rfl rfl) rfl rfl hl.1 rfl (lv_room (Nat.le_of_ble_eq_true rfl)) dX0_overlap_14 ⟨Nat.le_of_ble_eq_true rfl, Nat.le_of_ble_eq_true rfl⟩) hP hS (fun H hP hS => ?_)
  refine lv_topi (fun y1 ey1 => ?_)
  refine lv_istore (lv' := [(5, .int y1), (0, .ref (a 5)), (1, .int p1), (2, .int p2), (3, .int p3), (4, .int p4)]) hx hb dX0_overlap_17 hl (by decide) rfl (fun ls hl => ?_)
  refine lv_aload_n hx hb dX0_overlap_19 rfl (lv_at hl 1 rfl) ?_
  refine lv_aload_n hx hb dX0_overlap_20 rfl (lv_at hl 1 rfl) ?_
  refine lv_iload_n hx hb dX0_overlap_21 rfl (lv_at hl 2 rfl) ?_
  refine lv_iload_n hx hb dX0_overlap_22 rfl (lv_at hl 3 rfl) ?_
  refine cp_i (va_runV (As := [.int p1, .int p2]) (rest := [.ref (a 5)]) ⟨hx, hb, hml, hown, hts⟩ (c_X0_later l dC dI a cI cJ xs ys pl kp lp lq lr v0 v1 v2 v3 v4 v5 v6 v7 v8 v9 v10 p1 p2 (by first | with_reducible assumption | exact in0_24 | exact in0_60 | decide) (by first | with_reducible assumption | exact in0_24 | exact in0_60 | decide)) (cwV 2 hts (gG_V mG_18_18 mG_18_19 mG_18_20 mG_2_0 (gG_c mG_18_21 gG_G)) rfl rfl rfl hd_X0_later ⟨Nat.le_of_ble_eq_true rfl, Nat.le_of_ble_eq_true rfl⟩) (pPcV (ci := 4) (q0 := 5) hK hP rfl rfl) rfl rfl hl.1 rfl (lv_room (Nat.le_of_ble_eq_true rfl)) dX0_overlap_23 ⟨Nat.le_of_ble_eq_true rfl, Nat.le_of_ble_eq_true rfl⟩) hP hS (fun H hP hS => ?_)
  refine lv_aload_n hx hb dX0_overlap_26 rfl (lv_at hl 1 rfl) ?_
  refine lv_iload_n hx hb dX0_overlap_27 rfl (lv_at hl 4 rfl) ?_
  refine lv_iload hx hb dX0_overlap_28 (lv_at hl 5 rfl) ?_
  refine cp_i (va_runV (As := [.int p3, .int p4]) (rest := [.int (f_X0_later xs ys p1 p2), .ref (a 5)]) ⟨hx, hb, hml, hown, hts⟩ (c_X0_later l dC dI a cI cJ xs ys pl kp lp lq lr v0 v1 v2 v3 v4 v5 v6 v7 v8 v9 v10 p3 p4 (by first | with_reducible assumption | exact in0_24 | exact in0_60 | decide) (by first | with_reducible assumption | exact in0_24 | exact in0_60 | decide)) (cwV 2 hts (gG_V mG_18_18 mG_18_19 mG_18_20 mG_2_0 (gG_c mG_18_21 gG_G)) rfl rfl rfl hd_X0_later ⟨Nat.le_of_ble_eq_true rfl, Nat.le_of_ble_eq_true rfl⟩) (pPcV (ci := 4) (q0 := 5) hK hP rfl rfl) rfl rfl hl.1 rfl (lv_room (Nat.le_of_ble_eq_true rfl)) dX0_overlap_30 ⟨Nat.le_of_ble_eq_true rfl, Nat.le_of_ble_eq_true rfl⟩) hP hS (fun H hP hS => ?_)
  refine cp_i (va_runV (As := [.int (f_X0_later xs ys p1 p2), .int (f_X0_later xs ys p3 p4)]) (rest := []) ⟨hx, hb, hml, hown, hts⟩ (c_X0_earlier l dC dI a cI cJ xs ys pl kp lp lq lr v0 v1 v2 v3 v4 v5 v6 v7 v8 v9 v10 (f_X0_later xs ys p1 p2) (f_X0_later xs ys p3 p4) (by first | with_reducible assumption | exact in0_24 | exact in0_60 | decide) (by first | with_reducible assumption | exact in0_24 | exact in0_60 | decide)) (cwV 2 hts (gG_V mG_18_13 mG_18_14 mG_18_15 mG_2_0 (gG_c mG_18_16 gG_G)) rfl rfl rfl hd_X0_earlier ⟨Nat.le_of_ble_eq_true rfl, Nat.le_of_ble_eq_true rfl⟩) (pPcV (ci := 4) (q0 := 5) hK hP rfl rfl) rfl rfl hl.1 rfl (lv_room (Nat.le_of_ble_eq_true rfl)) dX0_overlap_33 ⟨Nat.le_of_ble_eq_true rfl, Nat.le_of_ble_eq_true rfl⟩) hP hS (fun H hP hS => ?_)
  refine lv_topi (fun y2 ey2 => ?_)
  refine lv_istore (lv' := [(6, .int y2), (5, .int y1), (0, .ref (a 5)), (1, .int p1), (2, .int p2), (3, .int p3), (4, .int p4)]) hx hb dX0_overlap_36 hl (by decide) rfl (fun ls hl => ?_)
  have hb1 : vp_in y1 60 := by rw [ey1]; exact in_later he1 he2
  have hb2 : vp_in y2 60 := by rw [ey2]; exact in_earlier hl1 hl2
  refine lv_aload_n hx hb dX0_overlap_38 rfl (lv_at hl 2 rfl) ?_
  refine va_get (D := (dC, dI)) (ci := 4) (v := .ref (a 1)) (C := RX0) (T := TX0) (N := 1) hx hb hts (fun _ h => gI_wsX00 h) hown hK.1 hP 5 rfl rfl 0 (by decide) (hts _ mG_3_6) (fun _ h9 => h9) rfl dX0_overlap_39 ?_
  refine lv_iload hx hb dX0_overlap_42 (lv_at hl 1 rfl) ?_
  refine lv_iload hx hb dX0_overlap_44 (lv_at hl 0 rfl) ?_
  refine cp_i (va_runV (As := [.int y1, .int y2]) (rest := []) ⟨hx, hb, hml, hown, hts⟩ (c_X2_compare l dC dI a cI cJ xs ys pl kp lp lq lr v0 v1 v2 v3 v4 v5 v6 v7 v8 v9 v10 y1 y2 (by first | with_reducible assumption | exact in0_24 | exact in0_60 | decide) (by first | with_reducible assumption | exact in0_24 | exact in0_60 | decide)) (cwV 2 hts (gG_V mG_18_17 mG_9_21 mG_9_22 mG_1_16 (gG_c mG_9_23 gG_G)) rfl rfl rfl hd_X2_compare ⟨Nat.le_of_ble_eq_true rfl, Nat.le_of_ble_eq_true rfl⟩) (pPcV (ci := 6) (q0 := 1) hK hP rfl rfl) rfl rfl hl.1 rfl (lv_room (Nat.le_of_ble_eq_true rfl)) dX0_overlap_46 ⟨Nat.le_of_ble_eq_true rfl, Nat.le_of_ble_eq_true rfl⟩) hP hS (fun H hP hS => ?_)
  refine lv_topi (fun y3 ey3 => ?_)
  refine lv_istore (lv' := [(7, .int y3), (6, .int y2), (5, .int y1), (0, .ref (a 5)), (1, .int p1), (2, .int p2), (3, .int p3), (4, .int p4)]) hx hb dX0_overlap_49 hl (by decide) rfl (fun ls hl => ?_)
  refine lv_iload hx hb dX0_overlap_51 (lv_at hl 0 rfl) ?_
  refine lv_if_ne (tgt := 58) hx hb dX0_overlap_53 (by decide) (fun c4 => ?_) (fun c4 => ?_)
  · skip
    refine lv_iload hx hb dX0_overlap_58 (lv_at hl 0 rfl) ?_
    refine lv_if_ge (tgt := 67) hx hb dX0_overlap_60 (by decide) (fun c5 => ?_) (fun c5 => ?_)
    · skip
      refine lv_iconst (v := (0 : Int32)) hx hb dX0_overlap_67 (by decide) ?_
      exact rp_i hQ hx hb hr hlk hS (Eq.symm (by subst ey1; subst ey2; subst ey3; simp only [f_X0_overlap, if_neg c4, if_pos c5])) dX0_overlap_68
    · skip
      refine lv_iconst (v := (3 : Int32)) hx hb dX0_overlap_63 (by decide) ?_
      refine lv_goto (tgt := 68) hx hb dX0_overlap_64 (by decide) ?_
      exact rp_i hQ hx hb hr hlk hS (Eq.symm (by subst ey1; subst ey2; subst ey3; simp only [f_X0_overlap, if_neg c4, if_neg c5])) dX0_overlap_68
  · skip
    refine lv_iconst (v := (2 : Int32)) hx hb dX0_overlap_56 (by decide) ?_
    exact rp_i hQ hx hb hr hlk hS (Eq.symm (by subst ey1; subst ey2; subst ey3; simp only [f_X0_overlap, if_pos c4])) dX0_overlap_57
/-! X0_separation -/
theorem hs_X0_separation : yX0_separation.cls ≠ "java/lang/invoke/MethodHandle" ∧ yX0_separation.cls ≠ "java/lang/invoke/VarHandle" ∧ (parseMethodDescriptor yX0_separation.desc).map (fun d => d.parameters.length) = some 4 := by decide +kernel
theorem hd_X0_separation : yX0_separation.cls = RX0 ∧ yX0_separation.cls ≠ "java/lang/invoke/MethodHandle" ∧ yX0_separation.cls ≠ "java/lang/invoke/VarHandle" ∧ (parseMethodDescriptor yX0_separation.desc).map (fun d => d.parameters.length) = some 4 := ⟨rfl, hs_X0_separation⟩
def f_X0_separation (xs : Nat → Int32) (ys : Nat → Int32) (p1 : Int32) (p2 : Int32) (p3 : Int32) (p4 : Int32) : Int32 := (if (f_X0_anyEqual xs ys p1 p2 p3 p4) = 0 then (if (f_X2_turn xs ys p1 p2 p3) = 0 then (if (f_X2_turn xs ys p1 p2 p4) = 0 then (if (f_X2_onSegment xs ys p1 p2 p3) = (f_X2_onSegment xs ys p1 p2 p4) then (0 : Int32) else (1 : Int32)) else (-4 : Int32)) else (if (f_X2_ring xs ys p1 p2 p3 p4) = 0 then (if (f_X2_turn xs ys p1 p2 p3) = (f_X2_turn xs ys p1 p2 p4) then (0 : Int32) else (1 : Int32)) else (-4 : Int32))) else (-4 : Int32))
abbrev rm_X0_separation : Room := { frames := 4, cells := 0, slots := 0, locals := 109 }
set_option maxHeartbeats 8000000 in
set_option maxRecDepth 100000 in
theorem c_X0_separation (l : Launch) (dC : Nat → ClassId) (dI : Nat → Nat → Nat) (a : Nat → Nat) (cI cJ : ClassId) (xs : Nat → Int32) (ys : Nat → Int32) (pl : Nat → Int32) (kp : Nat → Int32) (lp : Nat → Int64) (lq : Nat → Int64) (lr : Nat → Int64) (v0 : Int32) (v1 : Int32) (v2 : Int32) (v3 : Int32) (v4 : Int32) (v5 : Int32) (v6 : Int32) (v7 : Int32) (v8 : Int32) (v9 : Int32) (v10 : Int32) (p1 : Int32) (p2 : Int32) (p3 : Int32) (p4 : Int32) (hi1 : vp_in p1 60) (hi2 : vp_in p2 60) (hi3 : vp_in p3 60) (hi4 : vp_in p4 60) : Met l yX0_separation (Cond.code yX0_separation cX0_separation 7 (some .int) :: lw_G) rm_X0_separation (pPc (dC, dI) (tIJ cI cJ) (wC a cI cJ xs ys pl kp lp lq lr v0 v1 v2 v3 v4 v5 v6 v7 v8 v9 v10) [.ref (a 5), .int p1, .int p2, .int p3, .int p4]) (pQi (f_X0_separation xs ys p1 p2 p3 p4)) 0 0 pNo := by
  refine pm_of (by decide) (Nat.le_of_ble_eq_true rfl) ?_
  intro p e s m args below meth c Q ls hQ hx hb hr hlk hml hown hts hP hK hS hl
  have hown : s.vm.findClass RX0 = some m.cls := hown
  have hl : lv_has ls 7 [(0, .ref (a 5)), (1, .int p1), (2, .int p2), (3, .int p3), (4, .int p4)] := hl
  refine lv_aload_n hx hb dX0_separation_0 rfl (lv_at hl 0 rfl) ?_
  refine lv_iload_n hx hb dX0_separation_1 rfl (lv_at hl 1 rfl) ?_
  refine lv_iload_n hx hb dX0_separation_2 rfl (lv_at hl 2 rfl) ?_
  refine lv_iload_n hx hb dX0_separation_3 rfl (lv_at hl 3 rfl) ?_
  refine lv_iload hx hb dX0_separation_4 (lv_at hl 4 rfl) ?_
  refine cp_i (va_runV (As := [.int p1, .int p2, .int p3, .int p4]) (rest := []) ⟨hx, hb, hml, hown, hts⟩ (c_X0_anyEqual l dC dI a cI cJ xs ys pl kp lp lq lr v0 v1 v2 v3 v4 v5 v6 v7 v8 v9 v10 p1 p2 p3 p4 (by first | with_reducible assumption | exact in0_24 | exact in0_60 | decide) (by first | with_reducible assumption | exact in0_24 | exact in0_60 | decide) (by first | with_reducible assumption | exact in0_24 | exact in0_60 | decide) (by first | with_reducible assumption | exact in0_24 | exact in0_60 | decide)) (cwV 4 hts (gG_V mG_19_14 mG_19_15 mG_19_16 mG_2_0 (gG_c mG_19_17 gG_G)) rfl rfl rfl hd_X0_anyEqual ⟨Nat.le_of_ble_eq_true rfl, Nat.le_of_ble_eq_true rfl⟩) (pPcV (ci := 4) (q0 := 5) hK hP rfl rfl) rfl rfl hl.1 rfl (lv_room (Nat.le_of_ble_eq_true rfl)) dX0_separation_6 ⟨Nat.le_of_ble_eq_true rfl, Nat.le_of_ble_eq_true rfl⟩) hP hS (fun H hP hS => ?_)
  refine lv_if_eq (tgt := 15) hx hb dX0_separation_9 (by decide) (fun c1 => ?_) (fun c1 => ?_)
  · skip
    refine lv_aload_n hx hb dX0_separation_15 rfl (lv_at hl 0 rfl) ?_
    refine va_get (D := (dC, dI)) (ci := 4) (v := .ref (a 1)) (C := RX0) (T := TX0) (N := 1) hx hb hts (fun _ h => gI_wsX00 h) hown hK.1 hP 5 rfl rfl 0 (by decide) (hts _ mG_3_6) (fun _ h9 => h9) rfl dX0_separation_16 ?_
    refine lv_iload_n hx hb dX0_separation_19 rfl (lv_at hl 1 rfl) ?_
    refine lv_iload_n hx hb dX0_separation_20 rfl (lv_at hl 2 rfl) ?_
    refine lv_iload_n hx hb dX0_separation_21 rfl (lv_at hl 3 rfl) ?_
    refine cp_i (va_runV (As := [.int p1, .int p2, .int p3]) (rest := []) ⟨hx, hb, hml, hown, hts⟩ (c_X2_turn l dC dI a cI cJ xs ys pl kp lp lq lr v0 v1 v2 v3 v4 v5 v6 v7 v8 v9 v10 p1 p2 p3 (by first | with_reducible assumption | exact in0_24 | exact in0_60 | decide) (by first | with_reducible assumption | exact in0_24 | exact in0_60 | decide) (by first | with_reducible assumption | exact in0_24 | exact in0_60 | decide)) (cwV 3 hts (gG_V mG_17_16 mG_11_7 mG_11_8 mG_1_16 (gG_c mG_11_9 gG_G)) rfl rfl rfl hd_X2_turn ⟨Nat.le_of_ble_eq_true rfl, Nat.le_of_ble_eq_true rfl⟩) (pPcV (ci := 6) (q0 := 1) hK hP rfl rfl) rfl rfl hl.1 rfl (lv_room (Nat.le_of_ble_eq_true rfl)) dX0_separation_22 ⟨Nat.le_of_ble_eq_true rfl, Nat.le_of_ble_eq_true rfl⟩) hP hS (fun H hP hS => ?_)
    refine lv_topi (fun y2 ey2 => ?_)
    refine lv_istore (lv' := [(5, .int y2), (0, .ref (a 5)), (1, .int p1), (2, .int p2), (3, .int p3), (4, .int p4)]) hx hb dX0_separation_25 hl (by decide) rfl (fun ls hl => ?_)
    refine lv_aload_n hx hb dX0_separation_27 rfl (lv_at hl 1 rfl) ?_
    refine va_get (D := (dC, dI)) (ci := 4) (v := .ref (a 1)) (C := RX0) (T := TX0) (N := 1) hx hb hts (fun _ h => gI_wsX00 h) hown hK.1 hP 5 rfl rfl 0 (by decide) (hts _ mG_3_6) (fun _ h9 => h9) rfl dX0_separation_28 ?_
    refine lv_iload_n hx hb dX0_separation_31 rfl (lv_at hl 2 rfl) ?_
    refine lv_iload_n hx hb dX0_separation_32 rfl (lv_at hl 3 rfl) ?_
    refine lv_iload hx hb dX0_separation_33 (lv_at hl 5 rfl) ?_
    refine cp_i (va_runV (As := [.int p1, .int p2, .int p4]) (rest := []) ⟨hx, hb, hml, hown, hts⟩ (c_X2_turn l dC dI a cI cJ xs ys pl kp lp lq lr v0 v1 v2 v3 v4 v5 v6 v7 v8 v9 v10 p1 p2 p4 (by first | with_reducible assumption | exact in0_24 | exact in0_60 | decide) (by first | with_reducible assumption | exact in0_24 | exact in0_60 | decide) (by first | with_reducible assumption | exact in0_24 | exact in0_60 | decide)) (cwV 3 hts (gG_V mG_17_16 mG_11_7 mG_11_8 mG_1_16 (gG_c mG_11_9 gG_G)) rfl rfl rfl hd_X2_turn ⟨Nat.le_of_ble_eq_true rfl, Nat.le_of_ble_eq_true rfl⟩) (pPcV (ci := 6) (q0 := 1) hK hP rfl rfl) rfl rfl hl.1 rfl (lv_room (Nat.le_of_ble_eq_true rfl)) dX0_separation_35 ⟨Nat.le_of_ble_eq_true rfl, Nat.le_of_ble_eq_true rfl⟩) hP hS (fun H hP hS => ?_)
    refine lv_topi (fun y3 ey3 => ?_)
    refine lv_istore (lv' := [(6, .int y3), (5, .int y2), (0, .ref (a 5)), (1, .int p1), (2, .int p2), (3, .int p3), (4, .int p4)]) hx hb dX0_separation_38 hl (by decide) rfl (fun ls hl => ?_)
    refine lv_iload hx hb dX0_separation_40 (lv_at hl 1 rfl) ?_
    refine lv_if_ne (tgt := 80) hx hb dX0_separation_42 (by decide) (fun c4 => ?_) (fun c4 => ?_)
    · skip
      refine lv_iload hx hb dX0_separation_80 (lv_at hl 1 rfl) ?_
      refine lv_if_eq (tgt := 100) hx hb dX0_separation_82 (by decide) (fun c5 => by subst ey2; subst ey3; exact absurd c5 c4) (fun _ => ?_)
      refine lv_aload_n hx hb dX0_separation_85 rfl (lv_at hl 2 rfl) ?_
      refine va_get (D := (dC, dI)) (ci := 4) (v := .ref (a 1)) (C := RX0) (T := TX0) (N := 1) hx hb hts (fun _ h => gI_wsX00 h) hown hK.1 hP 5 rfl rfl 0 (by decide) (hts _ mG_3_6) (fun _ h9 => h9) rfl dX0_separation_86 ?_
      refine lv_iload_n hx hb dX0_separation_89 rfl (lv_at hl 3 rfl) ?_
      refine lv_iload_n hx hb dX0_separation_90 rfl (lv_at hl 4 rfl) ?_
      refine lv_iload_n hx hb dX0_separation_91 rfl (lv_at hl 5 rfl) ?_
      refine lv_iload hx hb dX0_separation_92 (lv_at hl 6 rfl) ?_
      refine cp_i (va_runV (As := [.int p1, .int p2, .int p3, .int p4]) (rest := []) ⟨hx, hb, hml, hown, hts⟩ (c_X2_ring l dC dI a cI cJ xs ys pl kp lp lq lr v0 v1 v2 v3 v4 v5 v6 v7 v8 v9 v10 p1 p2 p3 p4 (by first | with_reducible assumption | exact in0_24 | exact in0_60 | decide) (by first | with_reducible assumption | exact in0_24 | exact in0_60 | decide) (by first | with_reducible assumption | exact in0_24 | exact in0_60 | decide) (by first | with_reducible assumption | exact in0_24 | exact in0_60 | decide)) (cwV 4 hts (gG_V mG_19_18 mG_14_4 mG_14_5 mG_1_16 (gG_c mG_14_6 gG_G)) rfl rfl rfl hd_X2_ring ⟨Nat.le_of_ble_eq_true rfl, Nat.le_of_ble_eq_true rfl⟩) (pPcV (ci := 6) (q0 := 1) hK hP rfl rfl) rfl rfl hl.1 rfl (lv_room (Nat.le_of_ble_eq_true rfl)) dX0_separation_94 ⟨Nat.le_of_ble_eq_true rfl, Nat.le_of_ble_eq_true rfl⟩) hP hS (fun H hP hS => ?_)
      refine lv_if_eq (tgt := 103) hx hb dX0_separation_97 (by decide) (fun c6 => ?_) (fun c6 => ?_)
      · skip
        refine lv_iload hx hb dX0_separation_103 (lv_at hl 1 rfl) ?_
        refine lv_iload hx hb dX0_separation_105 (lv_at hl 0 rfl) ?_
        refine lv_icmp_eq (tgt := 114) hx hb dX0_separation_107 (by decide) (fun c7 => ?_) (fun c7 => ?_)
        · skip
          refine lv_iconst (v := (0 : Int32)) hx hb dX0_separation_114 (by decide) ?_
          exact rp_i hQ hx hb hr hlk hS (Eq.symm (by subst ey2; subst ey3; simp only [f_X0_separation, if_pos c1, if_neg c4, if_pos c6, if_pos c7])) dX0_separation_115
        · skip
          refine lv_iconst (v := (1 : Int32)) hx hb dX0_separation_110 (by decide) ?_
          refine lv_goto (tgt := 115) hx hb dX0_separation_111 (by decide) ?_
          exact rp_i hQ hx hb hr hlk hS (Eq.symm (by subst ey2; subst ey3; simp only [f_X0_separation, if_pos c1, if_neg c4, if_pos c6, if_neg c7])) dX0_separation_115
      · skip
        refine lv_bipush (v := (-4 : Int32)) hx hb dX0_separation_100 (by decide) ?_
        exact rp_i hQ hx hb hr hlk hS (Eq.symm (by subst ey2; subst ey3; simp only [f_X0_separation, if_pos c1, if_neg c4, if_neg c6])) dX0_separation_102
    · skip
      refine lv_iload hx hb dX0_separation_45 (lv_at hl 0 rfl) ?_
      refine lv_if_ne (tgt := 80) hx hb dX0_separation_47 (by decide) (fun c8 => ?_) (fun c8 => ?_)
      · skip
        refine lv_iload hx hb dX0_separation_80 (lv_at hl 1 rfl) ?_
        refine lv_if_eq (tgt := 100) hx hb dX0_separation_82 (by decide) (fun _ => ?_) (fun c9 => by subst ey2; subst ey3; exact absurd c4 c9)
        refine lv_bipush (v := (-4 : Int32)) hx hb dX0_separation_100 (by decide) ?_
        exact rp_i hQ hx hb hr hlk hS (Eq.symm (by subst ey2; subst ey3; simp only [f_X0_separation, if_pos c1, if_pos c4, if_neg c8])) dX0_separation_102
      · skip
        refine lv_aload_n hx hb dX0_separation_50 rfl (lv_at hl 2 rfl) ?_
        refine va_get (D := (dC, dI)) (ci := 4) (v := .ref (a 1)) (C := RX0) (T := TX0) (N := 1) hx hb hts (fun _ h => gI_wsX00 h) hown hK.1 hP 5 rfl rfl 0 (by decide) (hts _ mG_3_6) (fun _ h9 => h9) rfl dX0_separation_51 ?_
        refine lv_iload_n hx hb dX0_separation_54 rfl (lv_at hl 3 rfl) ?_
        refine lv_iload_n hx hb dX0_separation_55 rfl (lv_at hl 4 rfl) ?_
        refine lv_iload_n hx hb dX0_separation_56 rfl (lv_at hl 5 rfl) ?_
        refine cp_i (va_runV (As := [.int p1, .int p2, .int p3]) (rest := []) ⟨hx, hb, hml, hown, hts⟩ (c_X2_onSegment l dC dI a cI cJ xs ys pl kp lp lq lr v0 v1 v2 v3 v4 v5 v6 v7 v8 v9 v10 p1 p2 p3 (by first | with_reducible assumption | exact in0_24 | exact in0_60 | decide) (by first | with_reducible assumption | exact in0_24 | exact in0_60 | decide) (by first | with_reducible assumption | exact in0_24 | exact in0_60 | decide)) (cwV 3 hts (gG_V mG_16_2 mG_16_3 mG_16_4 mG_1_16 (gG_c mG_16_5 gG_G)) rfl rfl rfl hd_X2_onSegment ⟨Nat.le_of_ble_eq_true rfl, Nat.le_of_ble_eq_true rfl⟩) (pPcV (ci := 6) (q0 := 1) hK hP rfl rfl) rfl rfl hl.1 rfl (lv_room (Nat.le_of_ble_eq_true rfl)) dX0_separation_57 ⟨Nat.le_of_ble_eq_true rfl, Nat.le_of_ble_eq_true rfl⟩) hP hS (fun H hP hS => ?_)
        refine lv_aload_n hx hb dX0_separation_60 rfl (lv_at hl 2 rfl) ?_
        refine va_get (D := (dC, dI)) (ci := 4) (v := .ref (a 1)) (C := RX0) (T := TX0) (N := 1) hx hb hts (fun _ h => gI_wsX00 h) hown hK.1 hP 5 rfl rfl 0 (by decide) (hts _ mG_3_6) (fun _ h9 => h9) rfl dX0_separation_61 ?_
        refine lv_iload_n hx hb dX0_separation_64 rfl (lv_at hl 3 rfl) ?_
        refine lv_iload_n hx hb dX0_separation_65 rfl (lv_at hl 4 rfl) ?_
        refine lv_iload hx hb dX0_separation_66 (lv_at hl 6 rfl) ?_
        refine cp_i (va_runV (As := [.int p1, .int p2, .int p4]) (rest := [.int (f_X2_onSegment xs ys p1 p2 p3)]) ⟨hx, hb, hml, hown, hts⟩ (c_X2_onSegment l dC dI a cI cJ xs ys pl kp lp lq lr v0 v1 v2 v3 v4 v5 v6 v7 v8 v9 v10 p1 p2 p4 (by first | with_reducible assumption | exact in0_24 | exact in0_60 | decide) (by first | with_reducible assumption | exact in0_24 | exact in0_60 | decide) (by first | with_reducible assumption | exact in0_24 | exact in0_60 | decide)) (cwV 3 hts (gG_V mG_16_2 mG_16_3 mG_16_4 mG_1_16 (gG_c mG_16_5 gG_G)) rfl rfl rfl hd_X2_onSegment ⟨Nat.le_of_ble_eq_true rfl, Nat.le_of_ble_eq_true rfl⟩) (pPcV (ci := 6) (q0 := 1) hK hP rfl rfl) rfl rfl hl.1 rfl (lv_room (Nat.le_of_ble_eq_true rfl)) dX0_separation_68 ⟨Nat.le_of_ble_eq_true rfl, Nat.le_of_ble_eq_true rfl⟩) hP hS (fun H hP hS => ?_)
        refine lv_icmp_eq (tgt := 78) hx hb dX0_separation_71 (by decide) (fun c10 => ?_) (fun c10 => ?_)
        · skip
          refine lv_iconst (v := (0 : Int32)) hx hb dX0_separation_78 (by decide) ?_
          exact rp_i hQ hx hb hr hlk hS (Eq.symm (by subst ey2; subst ey3; simp only [f_X0_separation, if_pos c1, if_pos c4, if_pos c8, if_pos c10])) dX0_separation_79
        · skip
          refine lv_iconst (v := (1 : Int32)) hx hb dX0_separation_74 (by decide) ?_
          refine lv_goto (tgt := 79) hx hb dX0_separation_75 (by decide) ?_
          exact rp_i hQ hx hb hr hlk hS (Eq.symm (by subst ey2; subst ey3; simp only [f_X0_separation, if_pos c1, if_pos c4, if_pos c8, if_neg c10])) dX0_separation_79
  · skip
    refine lv_bipush (v := (-4 : Int32)) hx hb dX0_separation_12 (by decide) ?_
    exact rp_i hQ hx hb hr hlk hS (Eq.symm (by simp only [f_X0_separation, if_neg c1])) dX0_separation_14
/-! X0_crossing -/
theorem hs_X0_crossing : yX0_crossing.cls ≠ "java/lang/invoke/MethodHandle" ∧ yX0_crossing.cls ≠ "java/lang/invoke/VarHandle" ∧ (parseMethodDescriptor yX0_crossing.desc).map (fun d => d.parameters.length) = some 4 := by decide +kernel
theorem hd_X0_crossing : yX0_crossing.cls = RX0 ∧ yX0_crossing.cls ≠ "java/lang/invoke/MethodHandle" ∧ yX0_crossing.cls ≠ "java/lang/invoke/VarHandle" ∧ (parseMethodDescriptor yX0_crossing.desc).map (fun d => d.parameters.length) = some 4 := ⟨rfl, hs_X0_crossing⟩
def f_X0_crossing (xs : Nat → Int32) (ys : Nat → Int32) (p1 : Int32) (p2 : Int32) (p3 : Int32) (p4 : Int32) : Int32 := (if (f_X2_turn xs ys p1 p2 p3) = 0 then (if (f_X2_turn xs ys p1 p2 p4) = 0 then (if (f_X2_turn xs ys p3 p4 p1) = 0 then (if (f_X2_turn xs ys p3 p4 p2) = 0 then (f_X0_overlap xs ys p1 p2 p3 p4) else (if (f_X2_onSegment xs ys p1 p2 p3) = 0 then (if (f_X2_onSegment xs ys p1 p2 p4) = 0 then (if (f_X2_onSegment xs ys p3 p4 p1) = 0 then (if (f_X2_onSegment xs ys p3 p4 p2) = 0 then (if 0 ≤ ((f_X2_turn xs ys p1 p2 p3) * (f_X2_turn xs ys p1 p2 p4)) then (0 : Int32) else (if 0 ≤ ((f_X2_turn xs ys p3 p4 p1) * (f_X2_turn xs ys p3 p4 p2)) then (0 : Int32) else (1 : Int32))) else (2 : Int32)) else (2 : Int32)) else (2 : Int32)) else (2 : Int32))) else (if (f_X2_onSegment xs ys p1 p2 p3) = 0 then (if (f_X2_onSegment xs ys p1 p2 p4) = 0 then (if (f_X2_onSegment xs ys p3 p4 p1) = 0 then (if (f_X2_onSegment xs ys p3 p4 p2) = 0 then (if 0 ≤ ((f_X2_turn xs ys p1 p2 p3) * (f_X2_turn xs ys p1 p2 p4)) then (0 : Int32) else (if 0 ≤ ((f_X2_turn xs ys p3 p4 p1) * (f_X2_turn xs ys p3 p4 p2)) then (0 : Int32) else (1 : Int32))) else (2 : Int32)) else (2 : Int32)) else (2 : Int32)) else (2 : Int32))) else (if (f_X2_onSegment xs ys p1 p2 p3) = 0 then (if (f_X2_onSegment xs ys p1 p2 p4) = 0 then (if (f_X2_onSegment xs ys p3 p4 p1) = 0 then (if (f_X2_onSegment xs ys p3 p4 p2) = 0 then (if 0 ≤ ((f_X2_turn xs ys p1 p2 p3) * (f_X2_turn xs ys p1 p2 p4)) then (0 : Int32) else (if 0 ≤ ((f_X2_turn xs ys p3 p4 p1) * (f_X2_turn xs ys p3 p4 p2)) then (0 : Int32) else (1 : Int32))) else (2 : Int32)) else (2 : Int32)) else (2 : Int32)) else (2 : Int32))) else (if (f_X2_onSegment xs ys p1 p2 p3) = 0 then (if (f_X2_onSegment xs ys p1 p2 p4) = 0 then (if (f_X2_onSegment xs ys p3 p4 p1) = 0 then (if (f_X2_onSegment xs ys p3 p4 p2) = 0 then (if 0 ≤ ((f_X2_turn xs ys p1 p2 p3) * (f_X2_turn xs ys p1 p2 p4)) then (0 : Int32) else (if 0 ≤ ((f_X2_turn xs ys p3 p4 p1) * (f_X2_turn xs ys p3 p4 p2)) then (0 : Int32) else (1 : Int32))) else (2 : Int32)) else (2 : Int32)) else (2 : Int32)) else (2 : Int32)))
abbrev rm_X0_crossing : Room := { frames := 4, cells := 0, slots := 0, locals := 94 }
set_option maxHeartbeats 8000000 in
set_option maxRecDepth 100000 in
theorem c_X0_crossing (l : Launch) (dC : Nat → ClassId) (dI : Nat → Nat → Nat) (a : Nat → Nat) (cI cJ : ClassId) (xs : Nat → Int32) (ys : Nat → Int32) (pl : Nat → Int32) (kp : Nat → Int32) (lp : Nat → Int64) (lq : Nat → Int64) (lr : Nat → Int64) (v0 : Int32) (v1 : Int32) (v2 : Int32) (v3 : Int32) (v4 : Int32) (v5 : Int32) (v6 : Int32) (v7 : Int32) (v8 : Int32) (v9 : Int32) (v10 : Int32) (p1 : Int32) (p2 : Int32) (p3 : Int32) (p4 : Int32) (hi1 : vp_in p1 60) (hi2 : vp_in p2 60) (hi3 : vp_in p3 60) (hi4 : vp_in p4 60) : Met l yX0_crossing (Cond.code yX0_crossing cX0_crossing 9 (some .int) :: lw_G) rm_X0_crossing (pPc (dC, dI) (tIJ cI cJ) (wC a cI cJ xs ys pl kp lp lq lr v0 v1 v2 v3 v4 v5 v6 v7 v8 v9 v10) [.ref (a 5), .int p1, .int p2, .int p3, .int p4]) (pQi (f_X0_crossing xs ys p1 p2 p3 p4)) 0 0 pNo := by
  refine pm_of (by decide) (Nat.le_of_ble_eq_true rfl) ?_
  intro p e s m args below meth c Q ls hQ hx hb hr hlk hml hown hts hP hK hS hl
  have hown : s.vm.findClass RX0 = some m.cls := hown
  have hl : lv_has ls 9 [(0, .ref (a 5)), (1, .int p1), (2, .int p2), (3, .int p3), (4, .int p4)] := hl
  refine lv_aload_n hx hb dX0_crossing_0 rfl (lv_at hl 0 rfl) ?_
  refine va_get (D := (dC, dI)) (ci := 4) (v := .ref (a 1)) (C := RX0) (T := TX0) (N := 1) hx hb hts (fun _ h => gI_wsX00 h) hown hK.1 hP 5 rfl rfl 0 (by decide) (hts _ mG_3_6) (fun _ h9 => h9) rfl dX0_crossing_1 ?_
  refine lv_iload_n hx hb dX0_crossing_4 rfl (lv_at hl 1 rfl) ?_
  refine lv_iload_n hx hb dX0_crossing_5 rfl (lv_at hl 2 rfl) ?_
  refine lv_iload_n hx hb dX0_crossing_6 rfl (lv_at hl 3 rfl) ?_
  refine cp_i (va_runV (As := [.int p1, .int p2, .int p3]) (rest := []) ⟨hx, hb, hml, hown, hts⟩ (c_X2_turn l dC dI a cI cJ xs ys pl kp lp lq lr v0 v1 v2 v3 v4 v5 v6 v7 v8 v9 v10 p1 p2 p3 (by first | with_reducible assumption | exact in0_24 | exact in0_60 | decide) (by first | with_reducible assumption | exact in0_24 | exact in0_60 | decide) (by first | with_reducible assumption | exact in0_24 | exact in0_60 | decide)) (cwV 3 hts (gG_V mG_17_16 mG_11_7 mG_11_8 mG_1_16 (gG_c mG_11_9 gG_G)) rfl rfl rfl hd_X2_turn ⟨Nat.le_of_ble_eq_true rfl, Nat.le_of_ble_eq_true rfl⟩) (pPcV (ci := 6) (q0 := 1) hK hP rfl rfl) rfl rfl hl.1 rfl (lv_room (Nat.le_of_ble_eq_true rfl)) dX0_crossing_7 ⟨Nat.le_of_ble_eq_true rfl, Nat.le_of_ble_eq_true rfl⟩) hP hS (fun H hP hS => ?_)
  refine lv_topi (fun y1 ey1 => ?_)
  refine lv_istore (lv' := [(5, .int y1), (0, .ref (a 5)), (1, .int p1), (2, .int p2), (3, .int p3), (4, .int p4)]) hx hb dX0_crossing_10 hl (by decide) rfl (fun ls hl => ?_)
  refine lv_aload_n hx hb dX0_crossing_12 rfl (lv_at hl 1 rfl) ?_
  refine va_get (D := (dC, dI)) (ci := 4) (v := .ref (a 1)) (C := RX0) (T := TX0) (N := 1) hx hb hts (fun _ h => gI_wsX00 h) hown hK.1 hP 5 rfl rfl 0 (by decide) (hts _ mG_3_6) (fun _ h9 => h9) rfl dX0_crossing_13 ?_
  refine lv_iload_n hx hb dX0_crossing_16 rfl (lv_at hl 2 rfl) ?_
  refine lv_iload_n hx hb dX0_crossing_17 rfl (lv_at hl 3 rfl) ?_
  refine lv_iload hx hb dX0_crossing_18 (lv_at hl 5 rfl) ?_
  refine cp_i (va_runV (As := [.int p1, .int p2, .int p4]) (rest := []) ⟨hx, hb, hml, hown, hts⟩ (c_X2_turn l dC dI a cI cJ xs ys pl kp lp lq lr v0 v1 v2 v3 v4 v5 v6 v7 v8 v9 v10 p1 p2 p4 (by first | with_reducible assumption | exact in0_24 | exact in0_60 | decide) (by first | with_reducible assumption | exact in0_24 | exact in0_60 | decide) (by first | with_reducible assumption | exact in0_24 | exact in0_60 | decide)) (cwV 3 hts (gG_V mG_17_16 mG_11_7 mG_11_8 mG_1_16 (gG_c mG_11_9 gG_G)) rfl rfl rfl hd_X2_turn ⟨Nat.le_of_ble_eq_true rfl, Nat.le_of_ble_eq_true rfl⟩) (pPcV (ci := 6) (q0 := 1) hK hP rfl rfl) rfl rfl hl.1 rfl (lv_room (Nat.le_of_ble_eq_true rfl)) dX0_crossing_20 ⟨Nat.le_of_ble_eq_true rfl, Nat.le_of_ble_eq_true rfl⟩) hP hS (fun H hP hS => ?_)
  refine lv_topi (fun y2 ey2 => ?_)
  refine lv_istore (lv' := [(6, .int y2), (5, .int y1), (0, .ref (a 5)), (1, .int p1), (2, .int p2), (3, .int p3), (4, .int p4)]) hx hb dX0_crossing_23 hl (by decide) rfl (fun ls hl => ?_)
  refine lv_aload_n hx hb dX0_crossing_25 rfl (lv_at hl 2 rfl) ?_
  refine va_get (D := (dC, dI)) (ci := 4) (v := .ref (a 1)) (C := RX0) (T := TX0) (N := 1) hx hb hts (fun _ h => gI_wsX00 h) hown hK.1 hP 5 rfl rfl 0 (by decide) (hts _ mG_3_6) (fun _ h9 => h9) rfl dX0_crossing_26 ?_
  refine lv_iload_n hx hb dX0_crossing_29 rfl (lv_at hl 5 rfl) ?_
  refine lv_iload hx hb dX0_crossing_30 (lv_at hl 6 rfl) ?_
  refine lv_iload_n hx hb dX0_crossing_32 rfl (lv_at hl 3 rfl) ?_
  refine cp_i (va_runV (As := [.int p3, .int p4, .int p1]) (rest := []) ⟨hx, hb, hml, hown, hts⟩ (c_X2_turn l dC dI a cI cJ xs ys pl kp lp lq lr v0 v1 v2 v3 v4 v5 v6 v7 v8 v9 v10 p3 p4 p1 (by first | with_reducible assumption | exact in0_24 | exact in0_60 | decide) (by first | with_reducible assumption | exact in0_24 | exact in0_60 | decide) (by first | with_reducible assumption | exact in0_24 | exact in0_60 | decide)) (cwV 3 hts (gG_V mG_17_16 mG_11_7 mG_11_8 mG_1_16 (gG_c mG_11_9 gG_G)) rfl rfl rfl hd_X2_turn ⟨Nat.le_of_ble_eq_true rfl, Nat.le_of_ble_eq_true rfl⟩) (pPcV (ci := 6) (q0 := 1) hK hP rfl rfl) rfl rfl hl.1 rfl (lv_room (Nat.le_of_ble_eq_true rfl)) dX0_crossing_33 ⟨Nat.le_of_ble_eq_true rfl, Nat.le_of_ble_eq_true rfl⟩) hP hS (fun H hP hS => ?_)
  refine lv_topi (fun y3 ey3 => ?_)
  refine lv_istore (lv' := [(7, .int y3), (6, .int y2), (5, .int y1), (0, .ref (a 5)), (1, .int p1), (2, .int p2), (3, .int p3), (4, .int p4)]) hx hb dX0_crossing_36 hl (by decide) rfl (fun ls hl => ?_)
  refine lv_aload_n hx hb dX0_crossing_38 rfl (lv_at hl 3 rfl) ?_
  refine va_get (D := (dC, dI)) (ci := 4) (v := .ref (a 1)) (C := RX0) (T := TX0) (N := 1) hx hb hts (fun _ h => gI_wsX00 h) hown hK.1 hP 5 rfl rfl 0 (by decide) (hts _ mG_3_6) (fun _ h9 => h9) rfl dX0_crossing_39 ?_
  refine lv_iload_n hx hb dX0_crossing_42 rfl (lv_at hl 6 rfl) ?_
  refine lv_iload hx hb dX0_crossing_43 (lv_at hl 7 rfl) ?_
  refine lv_iload_n hx hb dX0_crossing_45 rfl (lv_at hl 5 rfl) ?_
  refine cp_i (va_runV (As := [.int p3, .int p4, .int p2]) (rest := []) ⟨hx, hb, hml, hown, hts⟩ (c_X2_turn l dC dI a cI cJ xs ys pl kp lp lq lr v0 v1 v2 v3 v4 v5 v6 v7 v8 v9 v10 p3 p4 p2 (by first | with_reducible assumption | exact in0_24 | exact in0_60 | decide) (by first | with_reducible assumption | exact in0_24 | exact in0_60 | decide) (by first | with_reducible assumption | exact in0_24 | exact in0_60 | decide)) (cwV 3 hts (gG_V mG_17_16 mG_11_7 mG_11_8 mG_1_16 (gG_c mG_11_9 gG_G)) rfl rfl rfl hd_X2_turn ⟨Nat.le_of_ble_eq_true rfl, Nat.le_of_ble_eq_true rfl⟩) (pPcV (ci := 6) (q0 := 1) hK hP rfl rfl) rfl rfl hl.1 rfl (lv_room (Nat.le_of_ble_eq_true rfl)) dX0_crossing_46 ⟨Nat.le_of_ble_eq_true rfl, Nat.le_of_ble_eq_true rfl⟩) hP hS (fun H hP hS => ?_)
  refine lv_topi (fun y4 ey4 => ?_)
  refine lv_istore (lv' := [(8, .int y4), (7, .int y3), (6, .int y2), (5, .int y1), (0, .ref (a 5)), (1, .int p1), (2, .int p2), (3, .int p3), (4, .int p4)]) hx hb dX0_crossing_49 hl (by decide) rfl (fun ls hl => ?_)
  refine lv_iload hx hb dX0_crossing_51 (lv_at hl 3 rfl) ?_
  refine lv_if_ne (tgt := 81) hx hb dX0_crossing_53 (by decide) (fun c5 => ?_) (fun c5 => ?_)
  · skip
    refine lv_aload_n hx hb dX0_crossing_81 rfl (lv_at hl 4 rfl) ?_
    refine va_get (D := (dC, dI)) (ci := 4) (v := .ref (a 1)) (C := RX0) (T := TX0) (N := 1) hx hb hts (fun _ h => gI_wsX00 h) hown hK.1 hP 5 rfl rfl 0 (by decide) (hts _ mG_3_6) (fun _ h9 => h9) rfl dX0_crossing_82 ?_
    refine lv_iload_n hx hb dX0_crossing_85 rfl (lv_at hl 5 rfl) ?_
    refine lv_iload_n hx hb dX0_crossing_86 rfl (lv_at hl 6 rfl) ?_
    refine lv_iload_n hx hb dX0_crossing_87 rfl (lv_at hl 7 rfl) ?_
    refine cp_i (va_runV (As := [.int p1, .int p2, .int p3]) (rest := []) ⟨hx, hb, hml, hown, hts⟩ (c_X2_onSegment l dC dI a cI cJ xs ys pl kp lp lq lr v0 v1 v2 v3 v4 v5 v6 v7 v8 v9 v10 p1 p2 p3 (by first | with_reducible assumption | exact in0_24 | exact in0_60 | decide) (by first | with_reducible assumption | exact in0_24 | exact in0_60 | decide) (by first | with_reducible assumption | exact in0_24 | exact in0_60 | decide)) (cwV 3 hts (gG_V mG_16_2 mG_16_3 mG_16_4 mG_1_16 (gG_c mG_16_5 gG_G)) rfl rfl rfl hd_X2_onSegment ⟨Nat.le_of_ble_eq_true rfl, Nat.le_of_ble_eq_true rfl⟩) (pPcV (ci := 6) (q0 := 1) hK hP rfl rfl) rfl rfl hl.1 rfl (lv_room (Nat.le_of_ble_eq_true rfl)) dX0_crossing_88 ⟨Nat.le_of_ble_eq_true rfl, Nat.le_of_ble_eq_true rfl⟩) hP hS (fun H hP hS => ?_)
    refine lv_if_ne (tgt := 136) hx hb dX0_crossing_91 (by decide) (fun c6 => ?_) (fun c6 => ?_)
    · skip
      refine lv_iconst (v := (2 : Int32)) hx hb dX0_crossing_136 (by decide) ?_
      exact rp_i hQ hx hb hr hlk hS (Eq.symm (by subst ey1; subst ey2; subst ey3; subst ey4; simp only [f_X0_crossing, if_neg c5, if_neg c6])) dX0_crossing_137
    · skip
      refine lv_aload_n hx hb dX0_crossing_94 rfl (lv_at hl 4 rfl) ?_
      refine va_get (D := (dC, dI)) (ci := 4) (v := .ref (a 1)) (C := RX0) (T := TX0) (N := 1) hx hb hts (fun _ h => gI_wsX00 h) hown hK.1 hP 5 rfl rfl 0 (by decide) (hts _ mG_3_6) (fun _ h9 => h9) rfl dX0_crossing_95 ?_
      refine lv_iload_n hx hb dX0_crossing_98 rfl (lv_at hl 5 rfl) ?_
      refine lv_iload_n hx hb dX0_crossing_99 rfl (lv_at hl 6 rfl) ?_
      refine lv_iload hx hb dX0_crossing_100 (lv_at hl 8 rfl) ?_
      refine cp_i (va_runV (As := [.int p1, .int p2, .int p4]) (rest := []) ⟨hx, hb, hml, hown, hts⟩ (c_X2_onSegment l dC dI a cI cJ xs ys pl kp lp lq lr v0 v1 v2 v3 v4 v5 v6 v7 v8 v9 v10 p1 p2 p4 (by first | with_reducible assumption | exact in0_24 | exact in0_60 | decide) (by first | with_reducible assumption | exact in0_24 | exact in0_60 | decide) (by first | with_reducible assumption | exact in0_24 | exact in0_60 | decide)) (cwV 3 hts (gG_V mG_16_2 mG_16_3 mG_16_4 mG_1_16 (gG_c mG_16_5 gG_G)) rfl rfl rfl hd_X2_onSegment ⟨Nat.le_of_ble_eq_true rfl, Nat.le_of_ble_eq_true rfl⟩) (pPcV (ci := 6) (q0 := 1) hK hP rfl rfl) rfl rfl hl.1 rfl (lv_room (Nat.le_of_ble_eq_true rfl)) dX0_crossing_102 ⟨Nat.le_of_ble_eq_true rfl, Nat.le_of_ble_eq_true rfl⟩) hP hS (fun H hP hS => ?_)
      refine lv_if_ne (tgt := 136) hx hb dX0_crossing_105 (by decide) (fun c7 => ?_) (fun c7 => ?_)
      · skip
        refine lv_iconst (v := (2 : Int32)) hx hb dX0_crossing_136 (by decide) ?_
        exact rp_i hQ hx hb hr hlk hS (Eq.symm (by subst ey1; subst ey2; subst ey3; subst ey4; simp only [f_X0_crossing, if_neg c5, if_pos c6, if_neg c7])) dX0_crossing_137
      · skip
        refine lv_aload_n hx hb dX0_crossing_108 rfl (lv_at hl 4 rfl) ?_
        refine va_get (D := (dC, dI)) (ci := 4) (v := .ref (a 1)) (C := RX0) (T := TX0) (N := 1) hx hb hts (fun _ h => gI_wsX00 h) hown hK.1 hP 5 rfl rfl 0 (by decide) (hts _ mG_3_6) (fun _ h9 => h9) rfl dX0_crossing_109 ?_
        refine lv_iload_n hx hb dX0_crossing_112 rfl (lv_at hl 7 rfl) ?_
        refine lv_iload hx hb dX0_crossing_113 (lv_at hl 8 rfl) ?_
        refine lv_iload_n hx hb dX0_crossing_115 rfl (lv_at hl 5 rfl) ?_
        refine cp_i (va_runV (As := [.int p3, .int p4, .int p1]) (rest := []) ⟨hx, hb, hml, hown, hts⟩ (c_X2_onSegment l dC dI a cI cJ xs ys pl kp lp lq lr v0 v1 v2 v3 v4 v5 v6 v7 v8 v9 v10 p3 p4 p1 (by first | with_reducible assumption | exact in0_24 | exact in0_60 | decide) (by first | with_reducible assumption | exact in0_24 | exact in0_60 | decide) (by first | with_reducible assumption | exact in0_24 | exact in0_60 | decide)) (cwV 3 hts (gG_V mG_16_2 mG_16_3 mG_16_4 mG_1_16 (gG_c mG_16_5 gG_G)) rfl rfl rfl hd_X2_onSegment ⟨Nat.le_of_ble_eq_true rfl, Nat.le_of_ble_eq_true rfl⟩) (pPcV (ci := 6) (q0 := 1) hK hP rfl rfl) rfl rfl hl.1 rfl (lv_room (Nat.le_of_ble_eq_true rfl)) dX0_crossing_116 ⟨Nat.le_of_ble_eq_true rfl, Nat.le_of_ble_eq_true rfl⟩) hP hS (fun H hP hS => ?_)
        refine lv_if_ne (tgt := 136) hx hb dX0_crossing_119 (by decide) (fun c8 => ?_) (fun c8 => ?_)
        · skip
          refine lv_iconst (v := (2 : Int32)) hx hb dX0_crossing_136 (by decide) ?_
          exact rp_i hQ hx hb hr hlk hS (Eq.symm (by subst ey1; subst ey2; subst ey3; subst ey4; simp only [f_X0_crossing, if_neg c5, if_pos c6, if_pos c7, if_neg c8])) dX0_crossing_137
        · skip
          refine lv_aload_n hx hb dX0_crossing_122 rfl (lv_at hl 4 rfl) ?_
          refine va_get (D := (dC, dI)) (ci := 4) (v := .ref (a 1)) (C := RX0) (T := TX0) (N := 1) hx hb hts (fun _ h => gI_wsX00 h) hown hK.1 hP 5 rfl rfl 0 (by decide) (hts _ mG_3_6) (fun _ h9 => h9) rfl dX0_crossing_123 ?_
          refine lv_iload_n hx hb dX0_crossing_126 rfl (lv_at hl 7 rfl) ?_
          refine lv_iload hx hb dX0_crossing_127 (lv_at hl 8 rfl) ?_
          refine lv_iload_n hx hb dX0_crossing_129 rfl (lv_at hl 6 rfl) ?_
          refine cp_i (va_runV (As := [.int p3, .int p4, .int p2]) (rest := []) ⟨hx, hb, hml, hown, hts⟩ (c_X2_onSegment l dC dI a cI cJ xs ys pl kp lp lq lr v0 v1 v2 v3 v4 v5 v6 v7 v8 v9 v10 p3 p4 p2 (by first | with_reducible assumption | exact in0_24 | exact in0_60 | decide) (by first | with_reducible assumption | exact in0_24 | exact in0_60 | decide) (by first | with_reducible assumption | exact in0_24 | exact in0_60 | decide)) (cwV 3 hts (gG_V mG_16_2 mG_16_3 mG_16_4 mG_1_16 (gG_c mG_16_5 gG_G)) rfl rfl rfl hd_X2_onSegment ⟨Nat.le_of_ble_eq_true rfl, Nat.le_of_ble_eq_true rfl⟩) (pPcV (ci := 6) (q0 := 1) hK hP rfl rfl) rfl rfl hl.1 rfl (lv_room (Nat.le_of_ble_eq_true rfl)) dX0_crossing_130 ⟨Nat.le_of_ble_eq_true rfl, Nat.le_of_ble_eq_true rfl⟩) hP hS (fun H hP hS => ?_)
          refine lv_if_eq (tgt := 138) hx hb dX0_crossing_133 (by decide) (fun c9 => ?_) (fun c9 => ?_)
          · skip
            refine lv_iload hx hb dX0_crossing_138 (lv_at hl 3 rfl) ?_
            refine lv_iload hx hb dX0_crossing_140 (lv_at hl 2 rfl) ?_
            refine lv_imul hx hb dX0_crossing_142 ?_
            refine lv_if_ge (tgt := 158) hx hb dX0_crossing_143 (by decide) (fun c10 => ?_) (fun c10 => ?_)
            · skip
              refine lv_iconst (v := (0 : Int32)) hx hb dX0_crossing_158 (by decide) ?_
              exact rp_i hQ hx hb hr hlk hS (Eq.symm (by subst ey1; subst ey2; subst ey3; subst ey4; simp only [f_X0_crossing, if_neg c5, if_pos c6, if_pos c7, if_pos c8, if_pos c9, if_pos c10])) dX0_crossing_159
            · skip
              refine lv_iload hx hb dX0_crossing_146 (lv_at hl 1 rfl) ?_
              refine lv_iload hx hb dX0_crossing_148 (lv_at hl 0 rfl) ?_
              refine lv_imul hx hb dX0_crossing_150 ?_
              refine lv_if_ge (tgt := 158) hx hb dX0_crossing_151 (by decide) (fun c11 => ?_) (fun c11 => ?_)
              · skip
                refine lv_iconst (v := (0 : Int32)) hx hb dX0_crossing_158 (by decide) ?_
                exact rp_i hQ hx hb hr hlk hS (Eq.symm (by subst ey1; subst ey2; subst ey3; subst ey4; simp only [f_X0_crossing, if_neg c5, if_pos c6, if_pos c7, if_pos c8, if_pos c9, if_neg c10, if_pos c11])) dX0_crossing_159
              · skip
                refine lv_iconst (v := (1 : Int32)) hx hb dX0_crossing_154 (by decide) ?_
                refine lv_goto (tgt := 159) hx hb dX0_crossing_155 (by decide) ?_
                exact rp_i hQ hx hb hr hlk hS (Eq.symm (by subst ey1; subst ey2; subst ey3; subst ey4; simp only [f_X0_crossing, if_neg c5, if_pos c6, if_pos c7, if_pos c8, if_pos c9, if_neg c10, if_neg c11])) dX0_crossing_159
          · skip
            refine lv_iconst (v := (2 : Int32)) hx hb dX0_crossing_136 (by decide) ?_
            exact rp_i hQ hx hb hr hlk hS (Eq.symm (by subst ey1; subst ey2; subst ey3; subst ey4; simp only [f_X0_crossing, if_neg c5, if_pos c6, if_pos c7, if_pos c8, if_neg c9])) dX0_crossing_137
  · skip
    refine lv_iload hx hb dX0_crossing_56 (lv_at hl 2 rfl) ?_
    refine lv_if_ne (tgt := 81) hx hb dX0_crossing_58 (by decide) (fun c12 => ?_) (fun c12 => ?_)
    · skip
      refine lv_aload_n hx hb dX0_crossing_81 rfl (lv_at hl 4 rfl) ?_
      refine va_get (D := (dC, dI)) (ci := 4) (v := .ref (a 1)) (C := RX0) (T := TX0) (N := 1) hx hb hts (fun _ h => gI_wsX00 h) hown hK.1 hP 5 rfl rfl 0 (by decide) (hts _ mG_3_6) (fun _ h9 => h9) rfl dX0_crossing_82 ?_
      refine lv_iload_n hx hb dX0_crossing_85 rfl (lv_at hl 5 rfl) ?_
      refine lv_iload_n hx hb dX0_crossing_86 rfl (lv_at hl 6 rfl) ?_
      refine lv_iload_n hx hb dX0_crossing_87 rfl (lv_at hl 7 rfl) ?_
      refine cp_i (va_runV (As := [.int p1, .int p2, .int p3]) (rest := []) ⟨hx, hb, hml, hown, hts⟩ (c_X2_onSegment l dC dI a cI cJ xs ys pl kp lp lq lr v0 v1 v2 v3 v4 v5 v6 v7 v8 v9 v10 p1 p2 p3 (by first | with_reducible assumption | exact in0_24 | exact in0_60 | decide) (by first | with_reducible assumption | exact in0_24 | exact in0_60 | decide) (by first | with_reducible assumption | exact in0_24 | exact in0_60 | decide)) (cwV 3 hts (gG_V mG_16_2 mG_16_3 mG_16_4 mG_1_16 (gG_c mG_16_5 gG_G)) rfl rfl rfl hd_X2_onSegment ⟨Nat.le_of_ble_eq_true rfl, Nat.le_of_ble_eq_true rfl⟩) (pPcV (ci := 6) (q0 := 1) hK hP rfl rfl) rfl rfl hl.1 rfl (lv_room (Nat.le_of_ble_eq_true rfl)) dX0_crossing_88 ⟨Nat.le_of_ble_eq_true rfl, Nat.le_of_ble_eq_true rfl⟩) hP hS (fun H hP hS => ?_)
      refine lv_if_ne (tgt := 136) hx hb dX0_crossing_91 (by decide) (fun c13 => ?_) (fun c13 => ?_)
      · skip
        refine lv_iconst (v := (2 : Int32)) hx hb dX0_crossing_136 (by decide) ?_
        exact rp_i hQ hx hb hr hlk hS (Eq.symm (by subst ey1; subst ey2; subst ey3; subst ey4; simp only [f_X0_crossing, if_pos c5, if_neg c12, if_neg c13])) dX0_crossing_137
      · skip
        refine lv_aload_n hx hb dX0_crossing_94 rfl (lv_at hl 4 rfl) ?_
        refine va_get (D := (dC, dI)) (ci := 4) (v := .ref (a 1)) (C := RX0) (T := TX0) (N := 1) hx hb hts (fun _ h => gI_wsX00 h) hown hK.1 hP 5 rfl rfl 0 (by decide) (hts _ mG_3_6) (fun _ h9 => h9) rfl dX0_crossing_95 ?_
        refine lv_iload_n hx hb dX0_crossing_98 rfl (lv_at hl 5 rfl) ?_
        refine lv_iload_n hx hb dX0_crossing_99 rfl (lv_at hl 6 rfl) ?_
        refine lv_iload hx hb dX0_crossing_100 (lv_at hl 8 rfl) ?_
        refine cp_i (va_runV (As := [.int p1, .int p2, .int p4]) (rest := []) ⟨hx, hb, hml, hown, hts⟩ (c_X2_onSegment l dC dI a cI cJ xs ys pl kp lp lq lr v0 v1 v2 v3 v4 v5 v6 v7 v8 v9 v10 p1 p2 p4 (by first | with_reducible assumption | exact in0_24 | exact in0_60 | decide) (by first | with_reducible assumption | exact in0_24 | exact in0_60 | decide) (by first | with_reducible assumption | exact in0_24 | exact in0_60 | decide)) (cwV 3 hts (gG_V mG_16_2 mG_16_3 mG_16_4 mG_1_16 (gG_c mG_16_5 gG_G)) rfl rfl rfl hd_X2_onSegment ⟨Nat.le_of_ble_eq_true rfl, Nat.le_of_ble_eq_true rfl⟩) (pPcV (ci := 6) (q0 := 1) hK hP rfl rfl) rfl rfl hl.1 rfl (lv_room (Nat.le_of_ble_eq_true rfl)) dX0_crossing_102 ⟨Nat.le_of_ble_eq_true rfl, Nat.le_of_ble_eq_true rfl⟩) hP hS (fun H hP hS => ?_)
        refine lv_if_ne (tgt := 136) hx hb dX0_crossing_105 (by decide) (fun c14 => ?_) (fun c14 => ?_)
        · skip
          refine lv_iconst (v := (2 : Int32)) hx hb dX0_crossing_136 (by decide) ?_
          exact rp_i hQ hx hb hr hlk hS (Eq.symm (by subst ey1; subst ey2; subst ey3; subst ey4; simp only [f_X0_crossing, if_pos c5, if_neg c12, if_pos c13, if_neg c14])) dX0_crossing_137
        · skip
          refine lv_aload_n hx hb dX0_crossing_108 rfl (lv_at hl 4 rfl) ?_
          refine va_get (D := (dC, dI)) (ci := 4) (v := .ref (a 1)) (C := RX0) (T := TX0) (N := 1) hx hb hts (fun _ h => gI_wsX00 h) hown hK.1 hP 5 rfl rfl 0 (by decide) (hts _ mG_3_6) (fun _ h9 => h9) rfl dX0_crossing_109 ?_
          refine lv_iload_n hx hb dX0_crossing_112 rfl (lv_at hl 7 rfl) ?_
          refine lv_iload hx hb dX0_crossing_113 (lv_at hl 8 rfl) ?_
          refine lv_iload_n hx hb dX0_crossing_115 rfl (lv_at hl 5 rfl) ?_
          refine cp_i (va_runV (As := [.int p3, .int p4, .int p1]) (rest := []) ⟨hx, hb, hml, hown, hts⟩ (c_X2_onSegment l dC dI a cI cJ xs ys pl kp lp lq lr v0 v1 v2 v3 v4 v5 v6 v7 v8 v9 v10 p3 p4 p1 (by first | with_reducible assumption | exact in0_24 | exact in0_60 | decide) (by first | with_reducible assumption | exact in0_24 | exact in0_60 | decide) (by first | with_reducible assumption | exact in0_24 | exact in0_60 | decide)) (cwV 3 hts (gG_V mG_16_2 mG_16_3 mG_16_4 mG_1_16 (gG_c mG_16_5 gG_G)) rfl rfl rfl hd_X2_onSegment ⟨Nat.le_of_ble_eq_true rfl, Nat.le_of_ble_eq_true rfl⟩) (pPcV (ci := 6) (q0 := 1) hK hP rfl rfl) rfl rfl hl.1 rfl (lv_room (Nat.le_of_ble_eq_true rfl)) dX0_crossing_116 ⟨Nat.le_of_ble_eq_true rfl, Nat.le_of_ble_eq_true rfl⟩) hP hS (fun H hP hS => ?_)
          refine lv_if_ne (tgt := 136) hx hb dX0_crossing_119 (by decide) (fun c15 => ?_) (fun c15 => ?_)
          · skip
            refine lv_iconst (v := (2 : Int32)) hx hb dX0_crossing_136 (by decide) ?_
            exact rp_i hQ hx hb hr hlk hS (Eq.symm (by subst ey1; subst ey2; subst ey3; subst ey4; simp only [f_X0_crossing, if_pos c5, if_neg c12, if_pos c13, if_pos c14, if_neg c15])) dX0_crossing_137
          · skip
            refine lv_aload_n hx hb dX0_crossing_122 rfl (lv_at hl 4 rfl) ?_
            refine va_get (D := (dC, dI)) (ci := 4) (v := .ref (a 1)) (C := RX0) (T := TX0) (N := 1) hx hb hts (fun _ h => gI_wsX00 h) hown hK.1 hP 5 rfl rfl 0 (by decide) (hts _ mG_3_6) (fun _ h9 => h9) rfl dX0_crossing_123 ?_
            refine lv_iload_n hx hb dX0_crossing_126 rfl (lv_at hl 7 rfl) ?_
            refine lv_iload hx hb dX0_crossing_127 (lv_at hl 8 rfl) ?_
            refine lv_iload_n hx hb dX0_crossing_129 rfl (lv_at hl 6 rfl) ?_
            refine cp_i (va_runV (As := [.int p3, .int p4, .int p2]) (rest := []) ⟨hx, hb, hml, hown, hts⟩ (c_X2_onSegment l dC dI a cI cJ xs ys pl kp lp lq lr v0 v1 v2 v3 v4 v5 v6 v7 v8 v9 v10 p3 p4 p2 (by first | with_reducible assumption | exact in0_24 | exact in0_60 | decide) (by first | with_reducible assumption | exact in0_24 | exact in0_60 | decide) (by first | with_reducible assumption | exact in0_24 | exact in0_60 | decide)) (cwV 3 hts (gG_V mG_16_2 mG_16_3 mG_16_4 mG_1_16 (gG_c mG_16_5 gG_G)) rfl rfl rfl hd_X2_onSegment ⟨Nat.le_of_ble_eq_true rfl, Nat.le_of_ble_eq_true rfl⟩) (pPcV (ci := 6) (q0 := 1) hK hP rfl rfl) rfl rfl hl.1 rfl (lv_room (Nat.le_of_ble_eq_true rfl)) dX0_crossing_130 ⟨Nat.le_of_ble_eq_true rfl, Nat.le_of_ble_eq_true rfl⟩) hP hS (fun H hP hS => ?_)
            refine lv_if_eq (tgt := 138) hx hb dX0_crossing_133 (by decide) (fun c16 => ?_) (fun c16 => ?_)
            · skip
              refine lv_iload hx hb dX0_crossing_138 (lv_at hl 3 rfl) ?_
              refine lv_iload hx hb dX0_crossing_140 (lv_at hl 2 rfl) ?_
              refine lv_imul hx hb dX0_crossing_142 ?_
              refine lv_if_ge (tgt := 158) hx hb dX0_crossing_143 (by decide) (fun c17 => ?_) (fun c17 => ?_)
              · skip
                refine lv_iconst (v := (0 : Int32)) hx hb dX0_crossing_158 (by decide) ?_
                exact rp_i hQ hx hb hr hlk hS (Eq.symm (by subst ey1; subst ey2; subst ey3; subst ey4; simp only [f_X0_crossing, if_pos c5, if_neg c12, if_pos c13, if_pos c14, if_pos c15, if_pos c16, if_pos c17])) dX0_crossing_159
              · skip
                refine lv_iload hx hb dX0_crossing_146 (lv_at hl 1 rfl) ?_
                refine lv_iload hx hb dX0_crossing_148 (lv_at hl 0 rfl) ?_
                refine lv_imul hx hb dX0_crossing_150 ?_
                refine lv_if_ge (tgt := 158) hx hb dX0_crossing_151 (by decide) (fun c18 => ?_) (fun c18 => ?_)
                · skip
                  refine lv_iconst (v := (0 : Int32)) hx hb dX0_crossing_158 (by decide) ?_
                  exact rp_i hQ hx hb hr hlk hS (Eq.symm (by subst ey1; subst ey2; subst ey3; subst ey4; simp only [f_X0_crossing, if_pos c5, if_neg c12, if_pos c13, if_pos c14, if_pos c15, if_pos c16, if_neg c17, if_pos c18])) dX0_crossing_159
                · skip
                  refine lv_iconst (v := (1 : Int32)) hx hb dX0_crossing_154 (by decide) ?_
                  refine lv_goto (tgt := 159) hx hb dX0_crossing_155 (by decide) ?_
                  exact rp_i hQ hx hb hr hlk hS (Eq.symm (by subst ey1; subst ey2; subst ey3; subst ey4; simp only [f_X0_crossing, if_pos c5, if_neg c12, if_pos c13, if_pos c14, if_pos c15, if_pos c16, if_neg c17, if_neg c18])) dX0_crossing_159
            · skip
              refine lv_iconst (v := (2 : Int32)) hx hb dX0_crossing_136 (by decide) ?_
              exact rp_i hQ hx hb hr hlk hS (Eq.symm (by subst ey1; subst ey2; subst ey3; subst ey4; simp only [f_X0_crossing, if_pos c5, if_neg c12, if_pos c13, if_pos c14, if_pos c15, if_neg c16])) dX0_crossing_137
    · skip
      refine lv_iload hx hb dX0_crossing_61 (lv_at hl 1 rfl) ?_
      refine lv_if_ne (tgt := 81) hx hb dX0_crossing_63 (by decide) (fun c19 => ?_) (fun c19 => ?_)
      · skip
        refine lv_aload_n hx hb dX0_crossing_81 rfl (lv_at hl 4 rfl) ?_
        refine va_get (D := (dC, dI)) (ci := 4) (v := .ref (a 1)) (C := RX0) (T := TX0) (N := 1) hx hb hts (fun _ h => gI_wsX00 h) hown hK.1 hP 5 rfl rfl 0 (by decide) (hts _ mG_3_6) (fun _ h9 => h9) rfl dX0_crossing_82 ?_
        refine lv_iload_n hx hb dX0_crossing_85 rfl (lv_at hl 5 rfl) ?_
        refine lv_iload_n hx hb dX0_crossing_86 rfl (lv_at hl 6 rfl) ?_
        refine lv_iload_n hx hb dX0_crossing_87 rfl (lv_at hl 7 rfl) ?_
        refine cp_i (va_runV (As := [.int p1, .int p2, .int p3]) (rest := []) ⟨hx, hb, hml, hown, hts⟩ (c_X2_onSegment l dC dI a cI cJ xs ys pl kp lp lq lr v0 v1 v2 v3 v4 v5 v6 v7 v8 v9 v10 p1 p2 p3 (by first | with_reducible assumption | exact in0_24 | exact in0_60 | decide) (by first | with_reducible assumption | exact in0_24 | exact in0_60 | decide) (by first | with_reducible assumption | exact in0_24 | exact in0_60 | decide)) (cwV 3 hts (gG_V mG_16_2 mG_16_3 mG_16_4 mG_1_16 (gG_c mG_16_5 gG_G)) rfl rfl rfl hd_X2_onSegment ⟨Nat.le_of_ble_eq_true rfl, Nat.le_of_ble_eq_true rfl⟩) (pPcV (ci := 6) (q0 := 1) hK hP rfl rfl) rfl rfl hl.1 rfl (lv_room (Nat.le_of_ble_eq_true rfl)) dX0_crossing_88 ⟨Nat.le_of_ble_eq_true rfl, Nat.le_of_ble_eq_true rfl⟩) hP hS (fun H hP hS => ?_)
        refine lv_if_ne (tgt := 136) hx hb dX0_crossing_91 (by decide) (fun c20 => ?_) (fun c20 => ?_)
        · skip
          refine lv_iconst (v := (2 : Int32)) hx hb dX0_crossing_136 (by decide) ?_
          exact rp_i hQ hx hb hr hlk hS (Eq.symm (by subst ey1; subst ey2; subst ey3; subst ey4; simp only [f_X0_crossing, if_pos c5, if_pos c12, if_neg c19, if_neg c20])) dX0_crossing_137
        · skip
          refine lv_aload_n hx hb dX0_crossing_94 rfl (lv_at hl 4 rfl) ?_
          refine va_get (D := (dC, dI)) (ci := 4) (v := .ref (a 1)) (C := RX0) (T := TX0) (N := 1) hx hb hts (fun _ h => gI_wsX00 h) hown hK.1 hP 5 rfl rfl 0 (by decide) (hts _ mG_3_6) (fun _ h9 => h9) rfl dX0_crossing_95 ?_
          refine lv_iload_n hx hb dX0_crossing_98 rfl (lv_at hl 5 rfl) ?_
          refine lv_iload_n hx hb dX0_crossing_99 rfl (lv_at hl 6 rfl) ?_
          refine lv_iload hx hb dX0_crossing_100 (lv_at hl 8 rfl) ?_
          refine cp_i (va_runV (As := [.int p1, .int p2, .int p4]) (rest := []) ⟨hx, hb, hml, hown, hts⟩ (c_X2_onSegment l dC dI a cI cJ xs ys pl kp lp lq lr v0 v1 v2 v3 v4 v5 v6 v7 v8 v9 v10 p1 p2 p4 (by first | with_reducible assumption | exact in0_24 | exact in0_60 | decide) (by first | with_reducible assumption | exact in0_24 | exact in0_60 | decide) (by first | with_reducible assumption | exact in0_24 | exact in0_60 | decide)) (cwV 3 hts (gG_V mG_16_2 mG_16_3 mG_16_4 mG_1_16 (gG_c mG_16_5 gG_G)) rfl rfl rfl hd_X2_onSegment ⟨Nat.le_of_ble_eq_true rfl, Nat.le_of_ble_eq_true rfl⟩) (pPcV (ci := 6) (q0 := 1) hK hP rfl rfl) rfl rfl hl.1 rfl (lv_room (Nat.le_of_ble_eq_true rfl)) dX0_crossing_102 ⟨Nat.le_of_ble_eq_true rfl, Nat.le_of_ble_eq_true rfl⟩) hP hS (fun H hP hS => ?_)
          refine lv_if_ne (tgt := 136) hx hb dX0_crossing_105 (by decide) (fun c21 => ?_) (fun c21 => ?_)
          · skip
            refine lv_iconst (v := (2 : Int32)) hx hb dX0_crossing_136 (by decide) ?_
            exact rp_i hQ hx hb hr hlk hS (Eq.symm (by subst ey1; subst ey2; subst ey3; subst ey4; simp only [f_X0_crossing, if_pos c5, if_pos c12, if_neg c19, if_pos c20, if_neg c21])) dX0_crossing_137
          · skip
            refine lv_aload_n hx hb dX0_crossing_108 rfl (lv_at hl 4 rfl) ?_
            refine va_get (D := (dC, dI)) (ci := 4) (v := .ref (a 1)) (C := RX0) (T := TX0) (N := 1) hx hb hts (fun _ h => gI_wsX00 h) hown hK.1 hP 5 rfl rfl 0 (by decide) (hts _ mG_3_6) (fun _ h9 => h9) rfl dX0_crossing_109 ?_
            refine lv_iload_n hx hb dX0_crossing_112 rfl (lv_at hl 7 rfl) ?_
            refine lv_iload hx hb dX0_crossing_113 (lv_at hl 8 rfl) ?_
            refine lv_iload_n hx hb dX0_crossing_115 rfl (lv_at hl 5 rfl) ?_
            refine cp_i (va_runV (As := [.int p3, .int p4, .int p1]) (rest := []) ⟨hx, hb, hml, hown, hts⟩ (c_X2_onSegment l dC dI a cI cJ xs ys pl kp lp lq lr v0 v1 v2 v3 v4 v5 v6 v7 v8 v9 v10 p3 p4 p1 (by first | with_reducible assumption | exact in0_24 | exact in0_60 | decide) (by first | with_reducible assumption | exact in0_24 | exact in0_60 | decide) (by first | with_reducible assumption | exact in0_24 | exact in0_60 | decide)) (cwV 3 hts (gG_V mG_16_2 mG_16_3 mG_16_4 mG_1_16 (gG_c mG_16_5 gG_G)) rfl rfl rfl hd_X2_onSegment ⟨Nat.le_of_ble_eq_true rfl, Nat.le_of_ble_eq_true rfl⟩) (pPcV (ci := 6) (q0 := 1) hK hP rfl rfl) rfl rfl hl.1 rfl (lv_room (Nat.le_of_ble_eq_true rfl)) dX0_crossing_116 ⟨Nat.le_of_ble_eq_true rfl, Nat.le_of_ble_eq_true rfl⟩) hP hS (fun H hP hS => ?_)
            refine lv_if_ne (tgt := 136) hx hb dX0_crossing_119 (by decide) (fun c22 => ?_) (fun c22 => ?_)
            · skip
              refine lv_iconst (v := (2 : Int32)) hx hb dX0_crossing_136 (by decide) ?_
              exact rp_i hQ hx hb hr hlk hS (Eq.symm (by subst ey1; subst ey2; subst ey3; subst ey4; simp only [f_X0_crossing, if_pos c5, if_pos c12, if_neg c19, if_pos c20, if_pos c21, if_neg c22])) dX0_crossing_137
            · skip
              refine lv_aload_n hx hb dX0_crossing_122 rfl (lv_at hl 4 rfl) ?_
              refine va_get (D := (dC, dI)) (ci := 4) (v := .ref (a 1)) (C := RX0) (T := TX0) (N := 1) hx hb hts (fun _ h => gI_wsX00 h) hown hK.1 hP 5 rfl rfl 0 (by decide) (hts _ mG_3_6) (fun _ h9 => h9) rfl dX0_crossing_123 ?_
              refine lv_iload_n hx hb dX0_crossing_126 rfl (lv_at hl 7 rfl) ?_
              refine lv_iload hx hb dX0_crossing_127 (lv_at hl 8 rfl) ?_
              refine lv_iload_n hx hb dX0_crossing_129 rfl (lv_at hl 6 rfl) ?_
              refine cp_i (va_runV (As := [.int p3, .int p4, .int p2]) (rest := []) ⟨hx, hb, hml, hown, hts⟩ (c_X2_onSegment l dC dI a cI cJ xs ys pl kp lp lq lr v0 v1 v2 v3 v4 v5 v6 v7 v8 v9 v10 p3 p4 p2 (by first | with_reducible assumption | exact in0_24 | exact in0_60 | decide) (by first | with_reducible assumption | exact in0_24 | exact in0_60 | decide) (by first | with_reducible assumption | exact in0_24 | exact in0_60 | decide)) (cwV 3 hts (gG_V mG_16_2 mG_16_3 mG_16_4 mG_1_16 (gG_c mG_16_5 gG_G)) rfl rfl rfl hd_X2_onSegment ⟨Nat.le_of_ble_eq_true rfl, Nat.le_of_ble_eq_true rfl⟩) (pPcV (ci := 6) (q0 := 1) hK hP rfl rfl) rfl rfl hl.1 rfl (lv_room (Nat.le_of_ble_eq_true rfl)) dX0_crossing_130 ⟨Nat.le_of_ble_eq_true rfl, Nat.le_of_ble_eq_true rfl⟩) hP hS (fun H hP hS => ?_)
              refine lv_if_eq (tgt := 138) hx hb dX0_crossing_133 (by decide) (fun c23 => ?_) (fun c23 => ?_)
              · skip
                refine lv_iload hx hb dX0_crossing_138 (lv_at hl 3 rfl) ?_
                refine lv_iload hx hb dX0_crossing_140 (lv_at hl 2 rfl) ?_
                refine lv_imul hx hb dX0_crossing_142 ?_
                refine lv_if_ge (tgt := 158) hx hb dX0_crossing_143 (by decide) (fun c24 => ?_) (fun c24 => ?_)
                · skip
                  refine lv_iconst (v := (0 : Int32)) hx hb dX0_crossing_158 (by decide) ?_
                  exact rp_i hQ hx hb hr hlk hS (Eq.symm (by subst ey1; subst ey2; subst ey3; subst ey4; simp only [f_X0_crossing, if_pos c5, if_pos c12, if_neg c19, if_pos c20, if_pos c21, if_pos c22, if_pos c23, if_pos c24])) dX0_crossing_159
                · skip
                  refine lv_iload hx hb dX0_crossing_146 (lv_at hl 1 rfl) ?_
                  refine lv_iload hx hb dX0_crossing_148 (lv_at hl 0 rfl) ?_
                  refine lv_imul hx hb dX0_crossing_150 ?_
                  refine lv_if_ge (tgt := 158) hx hb dX0_crossing_151 (by decide) (fun c25 => ?_) (fun c25 => ?_)
                  · skip
                    refine lv_iconst (v := (0 : Int32)) hx hb dX0_crossing_158 (by decide) ?_
                    exact rp_i hQ hx hb hr hlk hS (Eq.symm (by subst ey1; subst ey2; subst ey3; subst ey4; simp only [f_X0_crossing, if_pos c5, if_pos c12, if_neg c19, if_pos c20, if_pos c21, if_pos c22, if_pos c23, if_neg c24, if_pos c25])) dX0_crossing_159
                  · skip
                    refine lv_iconst (v := (1 : Int32)) hx hb dX0_crossing_154 (by decide) ?_
                    refine lv_goto (tgt := 159) hx hb dX0_crossing_155 (by decide) ?_
                    exact rp_i hQ hx hb hr hlk hS (Eq.symm (by subst ey1; subst ey2; subst ey3; subst ey4; simp only [f_X0_crossing, if_pos c5, if_pos c12, if_neg c19, if_pos c20, if_pos c21, if_pos c22, if_pos c23, if_neg c24, if_neg c25])) dX0_crossing_159
              · skip
                refine lv_iconst (v := (2 : Int32)) hx hb dX0_crossing_136 (by decide) ?_
                exact rp_i hQ hx hb hr hlk hS (Eq.symm (by subst ey1; subst ey2; subst ey3; subst ey4; simp only [f_X0_crossing, if_pos c5, if_pos c12, if_neg c19, if_pos c20, if_pos c21, if_pos c22, if_neg c23])) dX0_crossing_137
      · skip
        refine lv_iload hx hb dX0_crossing_66 (lv_at hl 0 rfl) ?_
        refine lv_if_ne (tgt := 81) hx hb dX0_crossing_68 (by decide) (fun c26 => ?_) (fun c26 => ?_)
        · skip
          refine lv_aload_n hx hb dX0_crossing_81 rfl (lv_at hl 4 rfl) ?_
          refine va_get (D := (dC, dI)) (ci := 4) (v := .ref (a 1)) (C := RX0) (T := TX0) (N := 1) hx hb hts (fun _ h => gI_wsX00 h) hown hK.1 hP 5 rfl rfl 0 (by decide) (hts _ mG_3_6) (fun _ h9 => h9) rfl dX0_crossing_82 ?_
          refine lv_iload_n hx hb dX0_crossing_85 rfl (lv_at hl 5 rfl) ?_
          refine lv_iload_n hx hb dX0_crossing_86 rfl (lv_at hl 6 rfl) ?_
          refine lv_iload_n hx hb dX0_crossing_87 rfl (lv_at hl 7 rfl) ?_
          refine cp_i (va_runV (As := [.int p1, .int p2, .int p3]) (rest := []) ⟨hx, hb, hml, hown, hts⟩ (c_X2_onSegment l dC dI a cI cJ xs ys pl kp lp lq lr v0 v1 v2 v3 v4 v5 v6 v7 v8 v9 v10 p1 p2 p3 (by first | with_reducible assumption | exact in0_24 | exact in0_60 | decide) (by first | with_reducible assumption | exact in0_24 | exact in0_60 | decide) (by first | with_reducible assumption | exact in0_24 | exact in0_60 | decide)) (cwV 3 hts (gG_V mG_16_2 mG_16_3 mG_16_4 mG_1_16 (gG_c mG_16_5 gG_G)) rfl rfl rfl hd_X2_onSegment ⟨Nat.le_of_ble_eq_true rfl, Nat.le_of_ble_eq_true rfl⟩) (pPcV (ci := 6) (q0 := 1) hK hP rfl rfl) rfl rfl hl.1 rfl (lv_room (Nat.le_of_ble_eq_true rfl)) dX0_crossing_88 ⟨Nat.le_of_ble_eq_true rfl, Nat.le_of_ble_eq_true rfl⟩) hP hS (fun H hP hS => ?_)
          refine lv_if_ne (tgt := 136) hx hb dX0_crossing_91 (by decide) (fun c27 => ?_) (fun c27 => ?_)
          · skip
            refine lv_iconst (v := (2 : Int32)) hx hb dX0_crossing_136 (by decide) ?_
            exact rp_i hQ hx hb hr hlk hS (Eq.symm (by subst ey1; subst ey2; subst ey3; subst ey4; simp only [f_X0_crossing, if_pos c5, if_pos c12, if_pos c19, if_neg c26, if_neg c27])) dX0_crossing_137
          · skip
            refine lv_aload_n hx hb dX0_crossing_94 rfl (lv_at hl 4 rfl) ?_
            refine va_get (D := (dC, dI)) (ci := 4) (v := .ref (a 1)) (C := RX0) (T := TX0) (N := 1) hx hb hts (fun _ h => gI_wsX00 h) hown hK.1 hP 5 rfl rfl 0 (by decide) (hts _ mG_3_6) (fun _ h9 => h9) rfl dX0_crossing_95 ?_
            refine lv_iload_n hx hb dX0_crossing_98 rfl (lv_at hl 5 rfl) ?_
            refine lv_iload_n hx hb dX0_crossing_99 rfl (lv_at hl 6 rfl) ?_
            refine lv_iload hx hb dX0_crossing_100 (lv_at hl 8 rfl) ?_
            refine cp_i (va_runV (As := [.int p1, .int p2, .int p4]) (rest := []) ⟨hx, hb, hml, hown, hts⟩ (c_X2_onSegment l dC dI a cI cJ xs ys pl kp lp lq lr v0 v1 v2 v3 v4 v5 v6 v7 v8 v9 v10 p1 p2 p4 (by first | with_reducible assumption | exact in0_24 | exact in0_60 | decide) (by first | with_reducible assumption | exact in0_24 | exact in0_60 | decide) (by first | with_reducible assumption | exact in0_24 | exact in0_60 | decide)) (cwV 3 hts (gG_V mG_16_2 mG_16_3 mG_16_4 mG_1_16 (gG_c mG_16_5 gG_G)) rfl rfl rfl hd_X2_onSegment ⟨Nat.le_of_ble_eq_true rfl, Nat.le_of_ble_eq_true rfl⟩) (pPcV (ci := 6) (q0 := 1) hK hP rfl rfl) rfl rfl hl.1 rfl (lv_room (Nat.le_of_ble_eq_true rfl)) dX0_crossing_102 ⟨Nat.le_of_ble_eq_true rfl, Nat.le_of_ble_eq_true rfl⟩) hP hS (fun H hP hS => ?_)
            refine lv_if_ne (tgt := 136) hx hb dX0_crossing_105 (by decide) (fun c28 => ?_) (fun c28 => ?_)
            · skip
              refine lv_iconst (v := (2 : Int32)) hx hb dX0_crossing_136 (by decide) ?_
              exact rp_i hQ hx hb hr hlk hS (Eq.symm (by subst ey1; subst ey2; subst ey3; subst ey4; simp only [f_X0_crossing, if_pos c5, if_pos c12, if_pos c19, if_neg c26, if_pos c27, if_neg c28])) dX0_crossing_137
            · skip
              refine lv_aload_n hx hb dX0_crossing_108 rfl (lv_at hl 4 rfl) ?_
              refine va_get (D := (dC, dI)) (ci := 4) (v := .ref (a 1)) (C := RX0) (T := TX0) (N := 1) hx hb hts (fun _ h => gI_wsX00 h) hown hK.1 hP 5 rfl rfl 0 (by decide) (hts _ mG_3_6) (fun _ h9 => h9) rfl dX0_crossing_109 ?_
              refine lv_iload_n hx hb dX0_crossing_112 rfl (lv_at hl 7 rfl) ?_
              refine lv_iload hx hb dX0_crossing_113 (lv_at hl 8 rfl) ?_
              refine lv_iload_n hx hb dX0_crossing_115 rfl (lv_at hl 5 rfl) ?_
              refine cp_i (va_runV (As := [.int p3, .int p4, .int p1]) (rest := []) ⟨hx, hb, hml, hown, hts⟩ (c_X2_onSegment l dC dI a cI cJ xs ys pl kp lp lq lr v0 v1 v2 v3 v4 v5 v6 v7 v8 v9 v10 p3 p4 p1 (by first | with_reducible assumption | exact in0_24 | exact in0_60 | decide) (by first | with_reducible assumption | exact in0_24 | exact in0_60 | decide) (by first | with_reducible assumption | exact in0_24 | exact in0_60 | decide)) (cwV 3 hts (gG_V mG_16_2 mG_16_3 mG_16_4 mG_1_16 (gG_c mG_16_5 gG_G)) rfl rfl rfl hd_X2_onSegment ⟨Nat.le_of_ble_eq_true rfl, Nat.le_of_ble_eq_true rfl⟩) (pPcV (ci := 6) (q0 := 1) hK hP rfl rfl) rfl rfl hl.1 rfl (lv_room (Nat.le_of_ble_eq_true rfl)) dX0_crossing_116 ⟨Nat.le_of_ble_eq_true rfl, Nat.le_of_ble_eq_true rfl⟩) hP hS (fun H hP hS => ?_)
              refine lv_if_ne (tgt := 136) hx hb dX0_crossing_119 (by decide) (fun c29 => ?_) (fun c29 => ?_)
              · skip
                refine lv_iconst (v := (2 : Int32)) hx hb dX0_crossing_136 (by decide) ?_
                exact rp_i hQ hx hb hr hlk hS (Eq.symm (by subst ey1; subst ey2; subst ey3; subst ey4; simp only [f_X0_crossing, if_pos c5, if_pos c12, if_pos c19, if_neg c26, if_pos c27, if_pos c28, if_neg c29])) dX0_crossing_137
              · skip
                refine lv_aload_n hx hb dX0_crossing_122 rfl (lv_at hl 4 rfl) ?_
                refine va_get (D := (dC, dI)) (ci := 4) (v := .ref (a 1)) (C := RX0) (T := TX0) (N := 1) hx hb hts (fun _ h => gI_wsX00 h) hown hK.1 hP 5 rfl rfl 0 (by decide) (hts _ mG_3_6) (fun _ h9 => h9) rfl dX0_crossing_123 ?_
                refine lv_iload_n hx hb dX0_crossing_126 rfl (lv_at hl 7 rfl) ?_
                refine lv_iload hx hb dX0_crossing_127 (lv_at hl 8 rfl) ?_
                refine lv_iload_n hx hb dX0_crossing_129 rfl (lv_at hl 6 rfl) ?_
                refine cp_i (va_runV (As := [.int p3, .int p4, .int p2]) (rest := []) ⟨hx, hb, hml, hown, hts⟩ (c_X2_onSegment l dC dI a cI cJ xs ys pl kp lp lq lr v0 v1 v2 v3 v4 v5 v6 v7 v8 v9 v10 p3 p4 p2 (by first | with_reducible assumption | exact in0_24 | exact in0_60 | decide) (by first | with_reducible assumption | exact in0_24 | exact in0_60 | decide) (by first | with_reducible assumption | exact in0_24 | exact in0_60 | decide)) (cwV 3 hts (gG_V mG_16_2 mG_16_3 mG_16_4 mG_1_16 (gG_c mG_16_5 gG_G)) rfl rfl rfl hd_X2_onSegment ⟨Nat.le_of_ble_eq_true rfl, Nat.le_of_ble_eq_true rfl⟩) (pPcV (ci := 6) (q0 := 1) hK hP rfl rfl) rfl rfl hl.1 rfl (lv_room (Nat.le_of_ble_eq_true rfl)) dX0_crossing_130 ⟨Nat.le_of_ble_eq_true rfl, Nat.le_of_ble_eq_true rfl⟩) hP hS (fun H hP hS => ?_)
                refine lv_if_eq (tgt := 138) hx hb dX0_crossing_133 (by decide) (fun c30 => ?_) (fun c30 => ?_)
                · skip
                  refine lv_iload hx hb dX0_crossing_138 (lv_at hl 3 rfl) ?_
                  refine lv_iload hx hb dX0_crossing_140 (lv_at hl 2 rfl) ?_
                  refine lv_imul hx hb dX0_crossing_142 ?_
                  refine lv_if_ge (tgt := 158) hx hb dX0_crossing_143 (by decide) (fun c31 => ?_) (fun c31 => ?_)
                  · skip
                    refine lv_iconst (v := (0 : Int32)) hx hb dX0_crossing_158 (by decide) ?_
                    exact rp_i hQ hx hb hr hlk hS (Eq.symm (by subst ey1; subst ey2; subst ey3; subst ey4; simp only [f_X0_crossing, if_pos c5, if_pos c12, if_pos c19, if_neg c26, if_pos c27, if_pos c28, if_pos c29, if_pos c30, if_pos c31])) dX0_crossing_159
                  · skip
                    refine lv_iload hx hb dX0_crossing_146 (lv_at hl 1 rfl) ?_
                    refine lv_iload hx hb dX0_crossing_148 (lv_at hl 0 rfl) ?_
                    refine lv_imul hx hb dX0_crossing_150 ?_
                    refine lv_if_ge (tgt := 158) hx hb dX0_crossing_151 (by decide) (fun c32 => ?_) (fun c32 => ?_)
                    · skip
                      refine lv_iconst (v := (0 : Int32)) hx hb dX0_crossing_158 (by decide) ?_
                      exact rp_i hQ hx hb hr hlk hS (Eq.symm (by subst ey1; subst ey2; subst ey3; subst ey4; simp only [f_X0_crossing, if_pos c5, if_pos c12, if_pos c19, if_neg c26, if_pos c27, if_pos c28, if_pos c29, if_pos c30, if_neg c31, if_pos c32])) dX0_crossing_159
                    · skip
                      refine lv_iconst (v := (1 : Int32)) hx hb dX0_crossing_154 (by decide) ?_
                      refine lv_goto (tgt := 159) hx hb dX0_crossing_155 (by decide) ?_
                      exact rp_i hQ hx hb hr hlk hS (Eq.symm (by subst ey1; subst ey2; subst ey3; subst ey4; simp only [f_X0_crossing, if_pos c5, if_pos c12, if_pos c19, if_neg c26, if_pos c27, if_pos c28, if_pos c29, if_pos c30, if_neg c31, if_neg c32])) dX0_crossing_159
                · skip
                  refine lv_iconst (v := (2 : Int32)) hx hb dX0_crossing_136 (by decide) ?_
                  exact rp_i hQ hx hb hr hlk hS (Eq.symm (by subst ey1; subst ey2; subst ey3; subst ey4; simp only [f_X0_crossing, if_pos c5, if_pos c12, if_pos c19, if_neg c26, if_pos c27, if_pos c28, if_pos c29, if_neg c30])) dX0_crossing_137
        · skip
          refine lv_aload_n hx hb dX0_crossing_71 rfl (lv_at hl 4 rfl) ?_
          refine lv_iload_n hx hb dX0_crossing_72 rfl (lv_at hl 5 rfl) ?_
          refine lv_iload_n hx hb dX0_crossing_73 rfl (lv_at hl 6 rfl) ?_
          refine lv_iload_n hx hb dX0_crossing_74 rfl (lv_at hl 7 rfl) ?_
          refine lv_iload hx hb dX0_crossing_75 (lv_at hl 8 rfl) ?_
          refine cp_i (va_runV (As := [.int p1, .int p2, .int p3, .int p4]) (rest := []) ⟨hx, hb, hml, hown, hts⟩ (c_X0_overlap l dC dI a cI cJ xs ys pl kp lp lq lr v0 v1 v2 v3 v4 v5 v6 v7 v8 v9 v10 p1 p2 p3 p4 (by first | with_reducible assumption | exact in0_24 | exact in0_60 | decide) (by first | with_reducible assumption | exact in0_24 | exact in0_60 | decide) (by first | with_reducible assumption | exact in0_24 | exact in0_60 | decide) (by first | with_reducible assumption | exact in0_24 | exact in0_60 | decide)) (cwV 4 hts (gG_V mG_18_9 mG_18_10 mG_18_11 mG_2_0 (gG_c mG_18_12 gG_G)) rfl rfl rfl hd_X0_overlap ⟨Nat.le_of_ble_eq_true rfl, Nat.le_of_ble_eq_true rfl⟩) (pPcV (ci := 4) (q0 := 5) hK hP rfl rfl) rfl rfl hl.1 rfl (lv_room (Nat.le_of_ble_eq_true rfl)) dX0_crossing_77 ⟨Nat.le_of_ble_eq_true rfl, Nat.le_of_ble_eq_true rfl⟩) hP hS (fun H hP hS => ?_)
          exact rp_i hQ hx hb hr hlk hS (Eq.symm (by subst ey1; subst ey2; subst ey3; subst ey4; simp only [f_X0_crossing, if_pos c5, if_pos c12, if_pos c19, if_pos c26])) dX0_crossing_80
