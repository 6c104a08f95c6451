/-! X3_unsigned -/
theorem hs_X3_unsigned : yX3_unsigned.cls ≠ "java/lang/invoke/MethodHandle" ∧ yX3_unsigned.cls ≠ "java/lang/invoke/VarHandle" ∧ (parseMethodDescriptor yX3_unsigned.desc).map (fun d => d.parameters.length) = some 1 := by decide +kernel
theorem hd_X3_unsigned : yX3_unsigned.cls = RX3 ∧ yX3_unsigned.cls ≠ "java/lang/invoke/MethodHandle" ∧ yX3_unsigned.cls ≠ "java/lang/invoke/VarHandle" ∧ (parseMethodDescriptor yX3_unsigned.desc).map (fun d => d.parameters.length) = some 1 := ⟨rfl, hs_X3_unsigned⟩
def f_X3_unsigned  (p1 : UInt32) : UInt32 := (if 0 ≤ (Op.cmpValue (FP.fcmp p1 FP.fconst0) CmpOp.g) then p1 else (FP.fneg p1))
abbrev rm_X3_unsigned : Room := { frames := 0, cells := 0, slots := 0, locals := 0 }
set_option maxHeartbeats 8000000 in
set_option maxRecDepth 100000 in
theorem c_X3_unsigned (l : Launch) (p1 : UInt32) : Met l yX3_unsigned (Cond.code yX3_unsigned cX3_unsigned 1 (some .float) :: lw_G) rm_X3_unsigned (nPc [.float p1]) (pQf (f_X3_unsigned p1)) 0 0 pNo := by
  refine nm_of (by decide) (Nat.le_of_ble_eq_true rfl) ?_
  intro p e s m args below meth c Q ls hQ hx hb hr hlk hml hown hts hS hl
  have hown : s.vm.findClass RX3 = some m.cls := hown
  have hl : lv_has ls 1 [(0, .float p1)] := hl
  refine lv_fload_n hx hb dX3_unsigned_0 rfl (lv_at hl 0 rfl) ?_
  refine lv_fconst0 hx hb dX3_unsigned_1 ?_
  refine lv_fcmp hx hb dX3_unsigned_2 ?_
  refine lv_if_ge (tgt := 11) hx hb dX3_unsigned_3 (by decide) (fun c1 => ?_) (fun c1 => ?_)
  · skip
    refine lv_fload_n hx hb dX3_unsigned_11 rfl (lv_at hl 0 rfl) ?_
    exact rp_f hQ hx hb hr hlk hS (Eq.symm (by simp only [f_X3_unsigned, if_pos c1])) dX3_unsigned_12
  · skip
    refine lv_fload_n hx hb dX3_unsigned_6 rfl (lv_at hl 0 rfl) ?_
    refine lv_fneg hx hb dX3_unsigned_7 ?_
    refine lv_goto (tgt := 12) hx hb dX3_unsigned_8 (by decide) ?_
    exact rp_f hQ hx hb hr hlk hS (Eq.symm (by simp only [f_X3_unsigned, if_neg c1])) dX3_unsigned_12
/-! X3_greater -/
theorem hs_X3_greater : yX3_greater.cls ≠ "java/lang/invoke/MethodHandle" ∧ yX3_greater.cls ≠ "java/lang/invoke/VarHandle" ∧ (parseMethodDescriptor yX3_greater.desc).map (fun d => d.parameters.length) = some 2 := by decide +kernel
theorem hd_X3_greater : yX3_greater.cls = RX3 ∧ yX3_greater.cls ≠ "java/lang/invoke/MethodHandle" ∧ yX3_greater.cls ≠ "java/lang/invoke/VarHandle" ∧ (parseMethodDescriptor yX3_greater.desc).map (fun d => d.parameters.length) = some 2 := ⟨rfl, hs_X3_greater⟩
def f_X3_greater  (p1 : UInt32) (p2 : UInt32) : UInt32 := (if (Op.cmpValue (FP.fcmp p1 p2) CmpOp.l) < 0 then p2 else p1)
abbrev rm_X3_greater : Room := { frames := 0, cells := 0, slots := 0, locals := 0 }
set_option maxHeartbeats 8000000 in
set_option maxRecDepth 100000 in
theorem c_X3_greater (l : Launch) (p1 : UInt32) (p2 : UInt32) : Met l yX3_greater (Cond.code yX3_greater cX3_greater 2 (some .float) :: lw_G) rm_X3_greater (nPc [.float p1, .float p2]) (pQf (f_X3_greater p1 p2)) 0 0 pNo := by
  refine nm_of (by decide) (Nat.le_of_ble_eq_true rfl) ?_
  intro p e s m args below meth c Q ls hQ hx hb hr hlk hml hown hts hS hl
  have hown : s.vm.findClass RX3 = some m.cls := hown
  have hl : lv_has ls 2 [(0, .float p1), (1, .float p2)] := hl
  refine lv_fload_n hx hb dX3_greater_0 rfl (lv_at hl 0 rfl) ?_
  refine lv_fload_n hx hb dX3_greater_1 rfl (lv_at hl 1 rfl) ?_
  refine lv_fcmp hx hb dX3_greater_2 ?_
  refine lv_if_lt (tgt := 10) hx hb dX3_greater_3 (by decide) (fun c1 => ?_) (fun c1 => ?_)
  · skip
    refine lv_fload_n hx hb dX3_greater_10 rfl (lv_at hl 1 rfl) ?_
    exact rp_f hQ hx hb hr hlk hS (Eq.symm (by simp only [f_X3_greater, if_pos c1])) dX3_greater_11
  · skip
    refine lv_fload_n hx hb dX3_greater_6 rfl (lv_at hl 0 rfl) ?_
    refine lv_goto (tgt := 11) hx hb dX3_greater_7 (by decide) ?_
    exact rp_f hQ hx hb hr hlk hS (Eq.symm (by simp only [f_X3_greater, if_neg c1])) dX3_greater_11
theorem mg_X3_unsigned {K : Nat} {p1 : UInt32} (h : mg K p1) : mg K (f_X3_unsigned p1) := by
  unfold f_X3_unsigned
  split <;> first | exact h | exact mg_neg h
theorem mg_X3_greater {K : Nat} {p1 p2 : UInt32} (h : mg K p1) (h2 : mg K p2) : mg K (f_X3_greater p1 p2) := by
  unfold f_X3_greater
  split <;> assumption
/-! X3_floatX -/
theorem hs_X3_floatX : yX3_floatX.cls ≠ "java/lang/invoke/MethodHandle" ∧ yX3_floatX.cls ≠ "java/lang/invoke/VarHandle" ∧ (parseMethodDescriptor yX3_floatX.desc).map (fun d => d.parameters.length) = some 1 := by decide +kernel
theorem hd_X3_floatX : yX3_floatX.cls = RX3 ∧ yX3_floatX.cls ≠ "java/lang/invoke/MethodHandle" ∧ yX3_floatX.cls ≠ "java/lang/invoke/VarHandle" ∧ (parseMethodDescriptor yX3_floatX.desc).map (fun d => d.parameters.length) = some 1 := ⟨rfl, hs_X3_floatX⟩
def f_X3_floatX (xs : Nat → Int32) (p1 : Int32) : UInt32 := (FP.fdiv (FP.i2f (xs (Int32.toNatClampNeg p1))) (1094713344 : UInt32))
abbrev rm_X3_floatX : Room := { frames := 0, cells := 0, slots := 0, locals := 0 }
set_option maxHeartbeats 8000000 in
set_option maxRecDepth 100000 in
theorem c_X3_floatX (l : Launch) (dC : Nat → ClassId) (dI : Nat → Nat → Nat) (a : Nat → Nat) (cI cJ : ClassId) (xs : Nat → Int32) (ys : Nat → Int32) (pl : Nat → Int32) (kp : Nat → Int32) (lp : Nat → Int64) (lq : Nat → Int64) (lr : Nat → Int64) (v0 : Int32) (v1 : Int32) (v2 : Int32) (v3 : Int32) (v4 : Int32) (v5 : Int32) (v6 : Int32) (v7 : Int32) (v8 : Int32) (v9 : Int32) (v10 : Int32) (p1 : Int32) (hi1 : vp_in p1 60) (hbx : ∀ j : Nat, (xs j).toInt.natAbs ≤ 16384) : Met l yX3_floatX (Cond.code yX3_floatX cX3_floatX 2 (some .float) :: lw_G) rm_X3_floatX (pPc (dC, dI) (tIJ cI cJ) (wC a cI cJ xs ys pl kp lp lq lr v0 v1 v2 v3 v4 v5 v6 v7 v8 v9 v10) [.ref (a 4), .int p1]) (pQf (f_X3_floatX xs p1)) 0 0 pNo := by
  refine pm_of (by decide) (Nat.le_of_ble_eq_true rfl) ?_
  intro p e s m args below meth c Q ls hQ hx hb hr hlk hml hown hts hP hK hS hl
  have hown : s.vm.findClass RX3 = some m.cls := hown
  have hl : lv_has ls 2 [(0, .ref (a 4)), (1, .int p1)] := hl
  refine lv_aload_n hx hb dX3_floatX_0 rfl (lv_at hl 0 rfl) ?_
  refine va_get (D := (dC, dI)) (ci := 7) (v := .ref (a 1)) (C := RX3) (T := TX3) (N := 5) hx hb hts (fun _ h => gI_wsX30 h) hown hK.1 hP 4 rfl rfl 0 (by decide) (hts _ mG_3_1) (fun _ h9 => h9) rfl dX3_floatX_1 ?_
  refine va_get (D := (dC, dI)) (ci := 6) (v := .ref (a 2)) (C := RX2) (T := TX2) (N := 3) hx hb hts (fun _ h => gI_wsX20 h) hown hK.1 hP 1 rfl rfl 0 (by decide) (hts _ mG_10_13) (fun _ h9 => h9) rfl dX3_floatX_4 ?_
  refine lv_iload_n hx hb dX3_floatX_7 rfl (lv_at hl 1 rfl) ?_
  refine va_iald hx hb hK.1 hP 2 0 rfl rfl (by first | with_reducible assumption | exact in0_24 | exact in0_60 | decide) dX3_floatX_8 ?_
  refine lv_i2f hx hb dX3_floatX_9 ?_
  refine lv_ldcf hx hb hown (hts _ mG_10_14) dX3_floatX_10 ?_
  refine lv_fdiv hx hb dX3_floatX_12 (mg_nn (mg_div12 (mg_i2f (hbx _))) (by decide)) ?_
  exact rp_f hQ hx hb hr hlk hS (Eq.symm (by simp only [f_X3_floatX])) dX3_floatX_13
/-! X3_floatY -/
theorem hs_X3_floatY : yX3_floatY.cls ≠ "java/lang/invoke/MethodHandle" ∧ yX3_floatY.cls ≠ "java/lang/invoke/VarHandle" ∧ (parseMethodDescriptor yX3_floatY.desc).map (fun d => d.parameters.length) = some 1 := by decide +kernel
theorem hd_X3_floatY : yX3_floatY.cls = RX3 ∧ yX3_floatY.cls ≠ "java/lang/invoke/MethodHandle" ∧ yX3_floatY.cls ≠ "java/lang/invoke/VarHandle" ∧ (parseMethodDescriptor yX3_floatY.desc).map (fun d => d.parameters.length) = some 1 := ⟨rfl, hs_X3_floatY⟩
def f_X3_floatY (ys : Nat → Int32) (p1 : Int32) : UInt32 := (FP.fdiv (FP.i2f (ys (Int32.toNatClampNeg p1))) (1094713344 : UInt32))
abbrev rm_X3_floatY : Room := { frames := 0, cells := 0, slots := 0, locals := 0 }
set_option maxHeartbeats 8000000 in
set_option maxRecDepth 100000 in
theorem c_X3_floatY (l : Launch) (dC : Nat → ClassId) (dI : Nat → Nat → Nat) (a : Nat → Nat) (cI cJ : ClassId) (xs : Nat → Int32) (ys : Nat → Int32) (pl : Nat → Int32) (kp : Nat → Int32) (lp : Nat → Int64) (lq : Nat → Int64) (lr : Nat → Int64) (v0 : Int32) (v1 : Int32) (v2 : Int32) (v3 : Int32) (v4 : Int32) (v5 : Int32) (v6 : Int32) (v7 : Int32) (v8 : Int32) (v9 : Int32) (v10 : Int32) (p1 : Int32) (hi1 : vp_in p1 60) (hby : ∀ j : Nat, (ys j).toInt.natAbs ≤ 16384) : Met l yX3_floatY (Cond.code yX3_floatY cX3_floatY 2 (some .float) :: lw_G) rm_X3_floatY (pPc (dC, dI) (tIJ cI cJ) (wC a cI cJ xs ys pl kp lp lq lr v0 v1 v2 v3 v4 v5 v6 v7 v8 v9 v10) [.ref (a 4), .int p1]) (pQf (f_X3_floatY ys p1)) 0 0 pNo := by
  refine pm_of (by decide) (Nat.le_of_ble_eq_true rfl) ?_
  intro p e s m args below meth c Q ls hQ hx hb hr hlk hml hown hts hP hK hS hl
  have hown : s.vm.findClass RX3 = some m.cls := hown
  have hl : lv_has ls 2 [(0, .ref (a 4)), (1, .int p1)] := hl
  refine lv_aload_n hx hb dX3_floatY_0 rfl (lv_at hl 0 rfl) ?_
  refine va_get (D := (dC, dI)) (ci := 7) (v := .ref (a 1)) (C := RX3) (T := TX3) (N := 5) hx hb hts (fun _ h => gI_wsX30 h) hown hK.1 hP 4 rfl rfl 0 (by decide) (hts _ mG_3_1) (fun _ h9 => h9) rfl dX3_floatY_1 ?_
  refine va_get (D := (dC, dI)) (ci := 6) (v := .ref (a 3)) (C := RX2) (T := TX2) (N := 3) hx hb hts (fun _ h => gI_wsX20 h) hown hK.1 hP 1 rfl rfl 1 (by decide) (hts _ mG_10_19) (fun _ h9 => h9) rfl dX3_floatY_4 ?_
  refine lv_iload_n hx hb dX3_floatY_7 rfl (lv_at hl 1 rfl) ?_
  refine va_iald hx hb hK.1 hP 3 0 rfl rfl (by first | with_reducible assumption | exact in0_24 | exact in0_60 | decide) dX3_floatY_8 ?_
  refine lv_i2f hx hb dX3_floatY_9 ?_
  refine lv_ldcf hx hb hown (hts _ mG_10_14) dX3_floatY_10 ?_
  refine lv_fdiv hx hb dX3_floatY_12 (mg_nn (mg_div12 (mg_i2f (hby _))) (by decide)) ?_
  exact rp_f hQ hx hb hr hlk hS (Eq.symm (by simp only [f_X3_floatY])) dX3_floatY_13
theorem mg_X3_floatX {xs : Nat → Int32} {p1 : Int32} (h : ∀ j : Nat, (xs j).toInt.natAbs ≤ 16384) : mg 140 (f_X3_floatX xs p1) := mg_div12 (mg_i2f (h _))
theorem mg_X3_floatY {ys : Nat → Int32} {p1 : Int32} (h : ∀ j : Nat, (ys j).toInt.natAbs ≤ 16384) : mg 140 (f_X3_floatY ys p1) := mg_div12 (mg_i2f (h _))
/-! X3_reach -/
theorem hs_X3_reach : yX3_reach.cls ≠ "java/lang/invoke/MethodHandle" ∧ yX3_reach.cls ≠ "java/lang/invoke/VarHandle" ∧ (parseMethodDescriptor yX3_reach.desc).map (fun d => d.parameters.length) = some 1 := by decide +kernel
theorem hd_X3_reach : yX3_reach.cls = RX3 ∧ yX3_reach.cls ≠ "java/lang/invoke/MethodHandle" ∧ yX3_reach.cls ≠ "java/lang/invoke/VarHandle" ∧ (parseMethodDescriptor yX3_reach.desc).map (fun d => d.parameters.length) = some 1 := ⟨rfl, hs_X3_reach⟩
def f_X3_reach (xs : Nat → Int32) (ys : Nat → Int32) (p1 : Int32) : UInt32 := (f_X3_greater (f_X3_unsigned (f_X3_floatX xs p1)) (f_X3_unsigned (f_X3_floatY ys p1)))
abbrev rm_X3_reach : Room := { frames := 1, cells := 0, slots := 0, locals := 21 }
set_option maxHeartbeats 8000000 in
set_option maxRecDepth 100000 in
theorem c_X3_reach (l : Launch) (dC : Nat → ClassId) (dI : Nat → Nat → Nat) (a : Nat → Nat) (cI cJ : ClassId) (xs : Nat → Int32) (ys : Nat → Int32) (pl : Nat → Int32) (kp : Nat → Int32) (lp : Nat → Int64) (lq : Nat → Int64) (lr : Nat → Int64) (v0 : Int32) (v1 : Int32) (v2 : Int32) (v3 : Int32) (v4 : Int32) (v5 : Int32) (v6 : Int32) (v7 : Int32) (v8 : Int32) (v9 : Int32) (v10 : Int32) (p1 : Int32) (hi1 : vp_in p1 60) (hbx : ∀ j : Nat, (xs j).toInt.natAbs ≤ 16384) (hby : ∀ j : Nat, (ys j).toInt.natAbs ≤ 16384) : Met l yX3_reach (Cond.code yX3_reach cX3_reach 2 (some .float) :: lw_G) rm_X3_reach (pPc (dC, dI) (tIJ cI cJ) (wC a cI cJ xs ys pl kp lp lq lr v0 v1 v2 v3 v4 v5 v6 v7 v8 v9 v10) [.ref (a 4), .int p1]) (pQf (f_X3_reach xs ys p1)) 0 0 pNo := by
  refine pm_of (by decide) (Nat.le_of_ble_eq_true rfl) ?_
  intro p e s m args below meth c Q ls hQ hx hb hr hlk hml hown hts hP hK hS hl
  have hown : s.vm.findClass RX3 = some m.cls := hown
  have hl : lv_has ls 2 [(0, .ref (a 4)), (1, .int p1)] := hl
  refine lv_aload_n hx hb dX3_reach_0 rfl (lv_at hl 0 rfl) ?_
  refine lv_iload_n hx hb dX3_reach_1 rfl (lv_at hl 1 rfl) ?_
  refine cp_f (va_runV (As := [.int p1]) (rest := []) ⟨hx, hb, hml, hown, hts⟩ (c_X3_floatX l dC dI a cI cJ xs ys pl kp lp lq lr v0 v1 v2 v3 v4 v5 v6 v7 v8 v9 v10 p1 (by first | with_reducible assumption | exact in0_24 | exact in0_60 | decide) (by first | with_reducible assumption | exact in0_24 | exact in0_60 | decide)) (cwV 1 hts (gG_V mG_10_9 mG_10_10 mG_10_11 mG_1_20 (gG_c mG_10_12 gG_G)) rfl rfl rfl hd_X3_floatX ⟨Nat.le_of_ble_eq_true rfl, Nat.le_of_ble_eq_true rfl⟩) (pPcV (ci := 7) (q0 := 4) hK hP rfl rfl) rfl rfl hl.1 rfl (lv_room (Nat.le_of_ble_eq_true rfl)) dX3_reach_2 ⟨Nat.le_of_ble_eq_true rfl, Nat.le_of_ble_eq_true rfl⟩) hP hS (fun H hP hS => ?_)
  refine cp_f (va_runS (As := [.float (f_X3_floatX xs p1)]) (rest := []) ⟨hx, hb, hml, hown, hts⟩ (c_X3_unsigned l (f_X3_floatX xs p1) ) (va_cwS 1 hts (gG_S mG_11_0 mG_11_1 mG_1_20 (gG_c mG_11_2 gG_G)) rfl rfl rfl hs_X3_unsigned ⟨Nat.le_of_ble_eq_true rfl, Nat.le_of_ble_eq_true rfl⟩) nPcS rfl rfl hl.1 rfl (lv_room (Nat.le_of_ble_eq_true rfl)) dX3_reach_5 ⟨Nat.le_of_ble_eq_true rfl, Nat.le_of_ble_eq_true rfl⟩) hP hS (fun H hP hS => ?_)
  refine lv_aload_n hx hb dX3_reach_8 rfl (lv_at hl 0 rfl) ?_
  refine lv_iload_n hx hb dX3_reach_9 rfl (lv_at hl 1 rfl) ?_
  refine cp_f (va_runV (As := [.int p1]) (rest := [.float (f_X3_unsigned (f_X3_floatX xs p1))]) ⟨hx, hb, hml, hown, hts⟩ (c_X3_floatY l dC dI a cI cJ xs ys pl kp lp lq lr v0 v1 v2 v3 v4 v5 v6 v7 v8 v9 v10 p1 (by first | with_reducible assumption | exact in0_24 | exact in0_60 | decide) (by first | with_reducible assumption | exact in0_24 | exact in0_60 | decide)) (cwV 1 hts (gG_V mG_10_15 mG_10_16 mG_10_17 mG_1_20 (gG_c mG_10_18 gG_G)) rfl rfl rfl hd_X3_floatY ⟨Nat.le_of_ble_eq_true rfl, Nat.le_of_ble_eq_true rfl⟩) (pPcV (ci := 7) (q0 := 4) hK hP rfl rfl) rfl rfl hl.1 rfl (lv_room (Nat.le_of_ble_eq_true rfl)) dX3_reach_10 ⟨Nat.le_of_ble_eq_true rfl, Nat.le_of_ble_eq_true rfl⟩) hP hS (fun H hP hS => ?_)
  refine cp_f (va_runS (As := [.float (f_X3_floatY ys p1)]) (rest := [.float (f_X3_unsigned (f_X3_floatX xs p1))]) ⟨hx, hb, hml, hown, hts⟩ (c_X3_unsigned l (f_X3_floatY ys p1) ) (va_cwS 1 hts (gG_S mG_11_0 mG_11_1 mG_1_20 (gG_c mG_11_2 gG_G)) rfl rfl rfl hs_X3_unsigned ⟨Nat.le_of_ble_eq_true rfl, Nat.le_of_ble_eq_true rfl⟩) nPcS rfl rfl hl.1 rfl (lv_room (Nat.le_of_ble_eq_true rfl)) dX3_reach_13 ⟨Nat.le_of_ble_eq_true rfl, Nat.le_of_ble_eq_true rfl⟩) hP hS (fun H hP hS => ?_)
  refine cp_f (va_runS (As := [.float (f_X3_unsigned (f_X3_floatX xs p1)), .float (f_X3_unsigned (f_X3_floatY ys p1))]) (rest := []) ⟨hx, hb, hml, hown, hts⟩ (c_X3_greater l (f_X3_unsigned (f_X3_floatX xs p1)) (f_X3_unsigned (f_X3_floatY ys p1)) ) (va_cwS 2 hts (gG_S mG_11_3 mG_11_4 mG_1_20 (gG_c mG_11_5 gG_G)) rfl rfl rfl hs_X3_greater ⟨Nat.le_of_ble_eq_true rfl, Nat.le_of_ble_eq_true rfl⟩) nPcS rfl rfl hl.1 rfl (lv_room (Nat.le_of_ble_eq_true rfl)) dX3_reach_16 ⟨Nat.le_of_ble_eq_true rfl, Nat.le_of_ble_eq_true rfl⟩) hP hS (fun H hP hS => ?_)
  exact rp_f hQ hx hb hr hlk hS (Eq.symm (by simp only [f_X3_reach])) dX3_reach_19
theorem mg_X3_reach {xs ys : Nat → Int32} {p1 : Int32} (h : ∀ j : Nat, (xs j).toInt.natAbs ≤ 16384) (h2 : ∀ j : Nat, (ys j).toInt.natAbs ≤ 16384) : mg 140 (f_X3_reach xs ys p1) := mg_X3_greater (mg_X3_unsigned (mg_X3_floatX h)) (mg_X3_unsigned (mg_X3_floatY h2))
/-! X3_decidesTurn -/
theorem hs_X3_decidesTurn : yX3_decidesTurn.cls ≠ "java/lang/invoke/MethodHandle" ∧ yX3_decidesTurn.cls ≠ "java/lang/invoke/VarHandle" ∧ (parseMethodDescriptor yX3_decidesTurn.desc).map (fun d => d.parameters.length) = some 3 := by decide +kernel
theorem hd_X3_decidesTurn : yX3_decidesTurn.cls = RX3 ∧ yX3_decidesTurn.cls ≠ "java/lang/invoke/MethodHandle" ∧ yX3_decidesTurn.cls ≠ "java/lang/invoke/VarHandle" ∧ (parseMethodDescriptor yX3_decidesTurn.desc).map (fun d => d.parameters.length) = some 3 := ⟨rfl, hs_X3_decidesTurn⟩
def f_X3_decidesTurn (xs : Nat → Int32) (ys : Nat → Int32) (p1 : Int32) (p2 : Int32) (p3 : Int32) : Int32 := (if (Op.cmpValue (FP.fcmp (f_X3_unsigned (FP.fsub (FP.fmul (FP.fsub (f_X3_floatX xs p2) (f_X3_floatX xs p1)) (FP.fsub (f_X3_floatY ys p3) (f_X3_floatY ys p1))) (FP.fmul (FP.fsub (f_X3_floatY ys p2) (f_X3_floatY ys p1)) (FP.fsub (f_X3_floatX xs p3) (f_X3_floatX xs p1))))) (FP.fmul (FP.fmul (f_X3_greater (f_X3_greater (f_X3_reach xs ys p1) (f_X3_reach xs ys p2)) (f_X3_reach xs ys p3)) (f_X3_greater (f_X3_greater (f_X3_reach xs ys p1) (f_X3_reach xs ys p2)) (f_X3_reach xs ys p3))) (914358272 : UInt32))) CmpOp.l) ≤ 0 then (0 : Int32) else (1 : Int32))
abbrev rm_X3_decidesTurn : Room := { frames := 2, cells := 0, slots := 0, locals := 42 }
set_option maxHeartbeats 8000000 in
set_option maxRecDepth 100000 in
theorem c_X3_decidesTurn (l : Launch) (dC : Nat → ClassId) (dI : Nat → Nat → Nat) (a : Nat → Nat) (cI cJ : ClassId) (xs : Nat → Int32) (ys : Nat → Int32) (pl : Nat → Int32) (kp : Nat → Int32) (lp : Nat → Int64) (lq : Nat → Int64) (lr : Nat → Int64) (v0 : Int32) (v1 : Int32) (v2 : Int32) (v3 : Int32) (v4 : Int32) (v5 : Int32) (v6 : Int32) (v7 : Int32) (v8 : Int32) (v9 : Int32) (v10 : Int32) (p1 : Int32) (p2 : Int32) (p3 : Int32) (hi1 : vp_in p1 60) (hi2 : vp_in p2 60) (hi3 : vp_in p3 60) (hbx : ∀ j : Nat, (xs j).toInt.natAbs ≤ 16384) (hby : ∀ j : Nat, (ys j).toInt.natAbs ≤ 16384) : Met l yX3_decidesTurn (Cond.code yX3_decidesTurn cX3_decidesTurn 7 (some .boolean) :: lw_G) rm_X3_decidesTurn (pPc (dC, dI) (tIJ cI cJ) (wC a cI cJ xs ys pl kp lp lq lr v0 v1 v2 v3 v4 v5 v6 v7 v8 v9 v10) [.ref (a 4), .int p1, .int p2, .int p3]) (pQi (f_X3_decidesTurn xs ys p1 p2 p3)) 0 0 pNo := by
  refine pm_of (by decide) (Nat.le_of_ble_eq_true rfl) ?_
  intro p e s m args below meth c Q ls hQ hx hb hr hlk hml hown hts hP hK hS hl
  have hown : s.vm.findClass RX3 = some m.cls := hown
  have hl : lv_has ls 7 [(0, .ref (a 4)), (1, .int p1), (2, .int p2), (3, .int p3)] := hl
  refine lv_aload_n hx hb dX3_decidesTurn_0 rfl (lv_at hl 0 rfl) ?_
  refine lv_iload_n hx hb dX3_decidesTurn_1 rfl (lv_at hl 2 rfl) ?_
  refine cp_f (va_runV (As := [.int p2]) (rest := []) ⟨hx, hb, hml, hown, hts⟩ (c_X3_floatX l dC dI a cI cJ xs ys pl kp lp lq lr v0 v1 v2 v3 v4 v5 v6 v7 v8 v9 v10 p2 (by first | with_reducible assumption | exact in0_24 | exact in0_60 | decide) (by first | with_reducible assumption | exact in0_24 | exact in0_60 | decide)) (cwV 1 hts (gG_V mG_10_9 mG_10_10 mG_10_11 mG_1_20 (gG_c mG_10_12 gG_G)) rfl rfl rfl hd_X3_floatX ⟨Nat.le_of_ble_eq_true rfl, Nat.le_of_ble_eq_true rfl⟩) (pPcV (ci := 7) (q0 := 4) hK hP rfl rfl) rfl rfl hl.1 rfl (lv_room (Nat.le_of_ble_eq_true rfl)) dX3_decidesTurn_2 ⟨Nat.le_of_ble_eq_true rfl, Nat.le_of_ble_eq_true rfl⟩) hP hS (fun H hP hS => ?_)
  refine lv_aload_n hx hb dX3_decidesTurn_5 rfl (lv_at hl 0 rfl) ?_
  refine lv_iload_n hx hb dX3_decidesTurn_6 rfl (lv_at hl 1 rfl) ?_
  refine cp_f (va_runV (As := [.int p1]) (rest := [.float (f_X3_floatX xs p2)]) ⟨hx, hb, hml, hown, hts⟩ (c_X3_floatX l dC dI a cI cJ xs ys pl kp lp lq lr v0 v1 v2 v3 v4 v5 v6 v7 v8 v9 v10 p1 (by first | with_reducible assumption | exact in0_24 | exact in0_60 | decide) (by first | with_reducible assumption | exact in0_24 | exact in0_60 | decide)) (cwV 1 hts (gG_V mG_10_9 mG_10_10 mG_10_11 mG_1_20 (gG_c mG_10_12 gG_G)) rfl rfl rfl hd_X3_floatX ⟨Nat.le_of_ble_eq_true rfl, Nat.le_of_ble_eq_true rfl⟩) (pPcV (ci := 7) (q0 := 4) hK hP rfl rfl) rfl rfl hl.1 rfl (lv_room (Nat.le_of_ble_eq_true rfl)) dX3_decidesTurn_7 ⟨Nat.le_of_ble_eq_true rfl, Nat.le_of_ble_eq_true rfl⟩) hP hS (fun H hP hS => ?_)
  refine lv_fsub hx hb dX3_decidesTurn_10 (mg_nn (mg_sub (mg_X3_floatX hbx) (mg_X3_floatX hbx) (by decide)) (by decide)) ?_
  refine lv_aload_n hx hb dX3_decidesTurn_11 rfl (lv_at hl 0 rfl) ?_
  refine lv_iload_n hx hb dX3_decidesTurn_12 rfl (lv_at hl 3 rfl) ?_
  refine cp_f (va_runV (As := [.int p3]) (rest := [.float (FP.fsub (f_X3_floatX xs p2) (f_X3_floatX xs p1))]) ⟨hx, hb, hml, hown, hts⟩ (c_X3_floatY l dC dI a cI cJ xs ys pl kp lp lq lr v0 v1 v2 v3 v4 v5 v6 v7 v8 v9 v10 p3 (by first | with_reducible assumption | exact in0_24 | exact in0_60 | decide) (by first | with_reducible assumption | exact in0_24 | exact in0_60 | decide)) (cwV 1 hts (gG_V mG_10_15 mG_10_16 mG_10_17 mG_1_20 (gG_c mG_10_18 gG_G)) rfl rfl rfl hd_X3_floatY ⟨Nat.le_of_ble_eq_true rfl, Nat.le_of_ble_eq_true rfl⟩) (pPcV (ci := 7) (q0 := 4) hK hP rfl rfl) rfl rfl hl.1 rfl (lv_room (Nat.le_of_ble_eq_true rfl)) dX3_decidesTurn_13 ⟨Nat.le_of_ble_eq_true rfl, Nat.le_of_ble_eq_true rfl⟩) hP hS (fun H hP hS => ?_)
  refine lv_aload_n hx hb dX3_decidesTurn_16 rfl (lv_at hl 0 rfl) ?_
  refine lv_iload_n hx hb dX3_decidesTurn_17 rfl (lv_at hl 1 rfl) ?_
  refine cp_f (va_runV (As := [.int p1]) (rest := [.float (f_X3_floatY ys p3), .float (FP.fsub (f_X3_floatX xs p2) (f_X3_floatX xs p1))]) ⟨hx, hb, hml, hown, hts⟩ (c_X3_floatY l dC dI a cI cJ xs ys pl kp lp lq lr v0 v1 v2 v3 v4 v5 v6 v7 v8 v9 v10 p1 (by first | with_reducible assumption | exact in0_24 | exact in0_60 | decide) (by first | with_reducible assumption | exact in0_24 | exact in0_60 | decide)) (cwV 1 hts (gG_V mG_10_15 mG_10_16 mG_10_17 mG_1_20 (gG_c mG_10_18 gG_G)) rfl rfl rfl hd_X3_floatY ⟨Nat.le_of_ble_eq_true rfl, Nat.le_of_ble_eq_true rfl⟩) (pPcV (ci := 7) (q0 := 4) hK hP rfl rfl) rfl rfl hl.1 rfl (lv_room (Nat.le_of_ble_eq_true rfl)) dX3_decidesTurn_18 ⟨Nat.le_of_ble_eq_true rfl, Nat.le_of_ble_eq_true rfl⟩) hP hS (fun H hP hS => ?_)
  refine lv_fsub hx hb dX3_decidesTurn_21 (mg_nn (mg_sub (mg_X3_floatY hby) (mg_X3_floatY hby) (by decide)) (by decide)) ?_
  refine lv_fmul hx hb dX3_decidesTurn_22 (mg_nn (mg_mul (mg_sub (mg_X3_floatX hbx) (mg_X3_floatX hbx) (by decide)) (mg_sub (mg_X3_floatY hby) (mg_X3_floatY hby) (by decide)) (by decide) (by decide)) (by decide)) ?_
  refine lv_topf (fun y1 ey1 => ?_)
  refine lv_fstore (lv' := [(4, .float y1), (0, .ref (a 4)), (1, .int p1), (2, .int p2), (3, .int p3)]) hx hb dX3_decidesTurn_23 hl (by decide) rfl (fun ls hl => ?_)
  refine lv_aload_n hx hb dX3_decidesTurn_25 rfl (lv_at hl 1 rfl) ?_
  refine lv_iload_n hx hb dX3_decidesTurn_26 rfl (lv_at hl 3 rfl) ?_
  refine cp_f (va_runV (As := [.int p2]) (rest := []) ⟨hx, hb, hml, hown, hts⟩ (c_X3_floatY l dC dI a cI cJ xs ys pl kp lp lq lr v0 v1 v2 v3 v4 v5 v6 v7 v8 v9 v10 p2 (by first | with_reducible assumption | exact in0_24 | exact in0_60 | decide) (by first | with_reducible assumption | exact in0_24 | exact in0_60 | decide)) (cwV 1 hts (gG_V mG_10_15 mG_10_16 mG_10_17 mG_1_20 (gG_c mG_10_18 gG_G)) rfl rfl rfl hd_X3_floatY ⟨Nat.le_of_ble_eq_true rfl, Nat.le_of_ble_eq_true rfl⟩) (pPcV (ci := 7) (q0 := 4) hK hP rfl rfl) rfl rfl hl.1 rfl (lv_room (Nat.le_of_ble_eq_true rfl)) dX3_decidesTurn_27 ⟨Nat.le_of_ble_eq_true rfl, Nat.le_of_ble_eq_true rfl⟩) hP hS (fun H hP hS => ?_)
  refine lv_aload_n hx hb dX3_decidesTurn_30 rfl (lv_at hl 1 rfl) ?_
  refine lv_iload_n hx hb dX3_decidesTurn_31 rfl (lv_at hl 2 rfl) ?_
  refine cp_f (va_runV (As := [.int p1]) (rest := [.float (f_X3_floatY ys p2)]) ⟨hx, hb, hml, hown, hts⟩ (c_X3_floatY l dC dI a cI cJ xs ys pl kp lp lq lr v0 v1 v2 v3 v4 v5 v6 v7 v8 v9 v10 p1 (by first | with_reducible assumption | exact in0_24 | exact in0_60 | decide) (by first | with_reducible assumption | exact in0_24 | exact in0_60 | decide)) (cwV 1 hts (gG_V mG_10_15 mG_10_16 mG_10_17 mG_1_20 (gG_c mG_10_18 gG_G)) rfl rfl rfl hd_X3_floatY ⟨Nat.le_of_ble_eq_true rfl, Nat.le_of_ble_eq_true rfl⟩) (pPcV (ci := 7) (q0 := 4) hK hP rfl rfl) rfl rfl hl.1 rfl (lv_room (Nat.le_of_ble_eq_true rfl)) dX3_decidesTurn_32 ⟨Nat.le_of_ble_eq_true rfl, Nat.le_of_ble_eq_true rfl⟩) hP hS (fun H hP hS => ?_)
  refine lv_fsub hx hb dX3_decidesTurn_35 (mg_nn (mg_sub (mg_X3_floatY hby) (mg_X3_floatY hby) (by decide)) (by decide)) ?_
  refine lv_aload_n hx hb dX3_decidesTurn_36 rfl (lv_at hl 1 rfl) ?_
  refine lv_iload_n hx hb dX3_decidesTurn_37 rfl (lv_at hl 4 rfl) ?_
  refine cp_f (va_runV (As := [.int p3]) (rest := [.float (FP.fsub (f_X3_floatY ys p2) (f_X3_floatY ys p1))]) ⟨hx, hb, hml, hown, hts⟩ (c_X3_floatX l dC dI a cI cJ xs ys pl kp lp lq lr v0 v1 v2 v3 v4 v5 v6 v7 v8 v9 v10 p3 (by first | with_reducible assumption | exact in0_24 | exact in0_60 | decide) (by first | with_reducible assumption | exact in0_24 | exact in0_60 | decide)) (cwV 1 hts (gG_V mG_10_9 mG_10_10 mG_10_11 mG_1_20 (gG_c mG_10_12 gG_G)) rfl rfl rfl hd_X3_floatX ⟨Nat.le_of_ble_eq_true rfl, Nat.le_of_ble_eq_true rfl⟩) (pPcV (ci := 7) (q0 := 4) hK hP rfl rfl) rfl rfl hl.1 rfl (lv_room (Nat.le_of_ble_eq_true rfl)) dX3_decidesTurn_38 ⟨Nat.le_of_ble_eq_true rfl, Nat.le_of_ble_eq_true rfl⟩) hP hS (fun H hP hS => ?_)
  refine lv_aload_n hx hb dX3_decidesTurn_41 rfl (lv_at hl 1 rfl) ?_
  refine lv_iload_n hx hb dX3_decidesTurn_42 rfl (lv_at hl 2 rfl) ?_
  refine cp_f (va_runV (As := [.int p1]) (rest := [.float (f_X3_floatX xs p3), .float (FP.fsub (f_X3_floatY ys p2) (f_X3_floatY ys p1))]) ⟨hx, hb, hml, hown, hts⟩ (c_X3_floatX l dC dI a cI cJ xs ys pl kp lp lq lr v0 v1 v2 v3 v4 v5 v6 v7 v8 v9 v10 p1 (by first | with_reducible assumption | exact in0_24 | exact in0_60 | decide) (by first | with_reducible assumption | exact in0_24 | exact in0_60 | decide)) (cwV 1 hts (gG_V mG_10_9 mG_10_10 mG_10_11 mG_1_20 (gG_c mG_10_12 gG_G)) rfl rfl rfl hd_X3_floatX ⟨Nat.le_of_ble_eq_true rfl, Nat.le_of_ble_eq_true rfl⟩) (pPcV (ci := 7) (q0 := 4) hK hP rfl rfl) rfl rfl hl.1 rfl (lv_room (Nat.le_of_ble_eq_true rfl)) dX3_decidesTurn_43 ⟨Nat.le_of_ble_eq_true rfl, Nat.le_of_ble_eq_true rfl⟩) hP hS (fun H hP hS => ?_)
  refine lv_fsub hx hb dX3_decidesTurn_46 (mg_nn (mg_sub (mg_X3_floatX hbx) (mg_X3_floatX hbx) (by decide)) (by decide)) ?_
  refine lv_fmul hx hb dX3_decidesTurn_47 (mg_nn (mg_mul (mg_sub (mg_X3_floatY hby) (mg_X3_floatY hby) (by decide)) (mg_sub (mg_X3_floatX hbx) (mg_X3_floatX hbx) (by decide)) (by decide) (by decide)) (by decide)) ?_
  refine lv_topf (fun y2 ey2 => ?_)
  refine lv_fstore (lv' := [(5, .float y2), (4, .float y1), (0, .ref (a 4)), (1, .int p1), (2, .int p2), (3, .int p3)]) hx hb dX3_decidesTurn_48 hl (by decide) rfl (fun ls hl => ?_)
  refine lv_aload_n hx hb dX3_decidesTurn_50 rfl (lv_at hl 2 rfl) ?_
  refine lv_iload_n hx hb dX3_decidesTurn_51 rfl (lv_at hl 3 rfl) ?_
  refine cp_f (va_runV (As := [.int p1]) (rest := []) ⟨hx, hb, hml, hown, hts⟩ (c_X3_reach l dC dI a cI cJ xs ys pl kp lp lq lr v0 v1 v2 v3 v4 v5 v6 v7 v8 v9 v10 p1 (by first | with_reducible assumption | exact in0_24 | exact in0_60 | decide) (by first | with_reducible assumption | exact in0_24 | exact in0_60 | decide) (by first | with_reducible assumption | exact in0_24 | exact in0_60 | decide)) (cwV 1 hts (gG_V mG_10_20 mG_10_21 mG_10_22 mG_1_20 (gG_c mG_10_23 gG_G)) rfl rfl rfl hd_X3_reach ⟨Nat.le_of_ble_eq_true rfl, Nat.le_of_ble_eq_true rfl⟩) (pPcV (ci := 7) (q0 := 4) hK hP rfl rfl) rfl rfl hl.1 rfl (lv_room (Nat.le_of_ble_eq_true rfl)) dX3_decidesTurn_52 ⟨Nat.le_of_ble_eq_true rfl, Nat.le_of_ble_eq_true rfl⟩) hP hS (fun H hP hS => ?_)
  refine lv_aload_n hx hb dX3_decidesTurn_55 rfl (lv_at hl 2 rfl) ?_
  refine lv_iload_n hx hb dX3_decidesTurn_56 rfl (lv_at hl 4 rfl) ?_
  refine cp_f (va_runV (As := [.int p2]) (rest := [.float (f_X3_reach xs ys p1)]) ⟨hx, hb, hml, hown, hts⟩ (c_X3_reach l dC dI a cI cJ xs ys pl kp lp lq lr v0 v1 v2 v3 v4 v5 v6 v7 v8 v9 v10 p2 (by first | with_reducible assumption | exact in0_24 | exact in0_60 | decide) (by first | with_reducible assumption | exact in0_24 | exact in0_60 | decide) (by first | with_reducible assumption | exact in0_24 | exact in0_60 | decide)) (cwV 1 hts (gG_V mG_10_20 mG_10_21 mG_10_22 mG_1_20 (gG_c mG_10_23 gG_G)) rfl rfl rfl hd_X3_reach ⟨Nat.le_of_ble_eq_true rfl, Nat.le_of_ble_eq_true rfl⟩) (pPcV (ci := 7) (q0 := 4) hK hP rfl rfl) rfl rfl hl.1 rfl (lv_room (Nat.le_of_ble_eq_true rfl)) dX3_decidesTurn_57 ⟨Nat.le_of_ble_eq_true rfl, Nat.le_of_ble_eq_true rfl⟩) hP hS (fun H hP hS => ?_)
  refine cp_f (va_runS (As := [.float (f_X3_reach xs ys p1), .float (f_X3_reach xs ys p2)]) (rest := []) ⟨hx, hb, hml, hown, hts⟩ (c_X3_greater l (f_X3_reach xs ys p1) (f_X3_reach xs ys p2) ) (va_cwS 2 hts (gG_S mG_11_3 mG_11_4 mG_1_20 (gG_c mG_11_5 gG_G)) rfl rfl rfl hs_X3_greater ⟨Nat.le_of_ble_eq_true rfl, Nat.le_of_ble_eq_true rfl⟩) nPcS rfl rfl hl.1 rfl (lv_room (Nat.le_of_ble_eq_true rfl)) dX3_decidesTurn_60 ⟨Nat.le_of_ble_eq_true rfl, Nat.le_of_ble_eq_true rfl⟩) hP hS (fun H hP hS => ?_)
  refine lv_aload_n hx hb dX3_decidesTurn_63 rfl (lv_at hl 2 rfl) ?_
  refine lv_iload_n hx hb dX3_decidesTurn_64 rfl (lv_at hl 5 rfl) ?_
  refine cp_f (va_runV (As := [.int p3]) (rest := [.float (f_X3_greater (f_X3_reach xs ys p1) (f_X3_reach xs ys p2))]) ⟨hx, hb, hml, hown, hts⟩ (c_X3_reach l dC dI a cI cJ xs ys pl kp lp lq lr v0 v1 v2 v3 v4 v5 v6 v7 v8 v9 v10 p3 (by first | with_reducible assumption | exact in0_24 | exact in0_60 | decide) (by first | with_reducible assumption | exact in0_24 | exact in0_60 | decide) (by first | with_reducible assumption | exact in0_24 | exact in0_60 | decide)) (cwV 1 hts (gG_V mG_10_20 mG_10_21 mG_10_22 mG_1_20 (gG_c mG_10_23 gG_G)) rfl rfl rfl hd_X3_reach ⟨Nat.le_of_ble_eq_true rfl, Nat.le_of_ble_eq_true rfl⟩) (pPcV (ci := 7) (q0 := 4) hK hP rfl rfl) rfl rfl hl.1 rfl (lv_room (Nat.le_of_ble_eq_true rfl)) dX3_decidesTurn_65 ⟨Nat.le_of_ble_eq_true rfl, Nat.le_of_ble_eq_true rfl⟩) hP hS (fun H hP hS => ?_)
  refine cp_f (va_runS (As := [.float (f_X3_greater (f_X3_reach xs ys p1) (f_X3_reach xs ys p2)), .float (f_X3_reach xs ys p3)]) (rest := []) ⟨hx, hb, hml, hown, hts⟩ (c_X3_greater l (f_X3_greater (f_X3_reach xs ys p1) (f_X3_reach xs ys p2)) (f_X3_reach xs ys p3) ) (va_cwS 2 hts (gG_S mG_11_3 mG_11_4 mG_1_20 (gG_c mG_11_5 gG_G)) rfl rfl rfl hs_X3_greater ⟨Nat.le_of_ble_eq_true rfl, Nat.le_of_ble_eq_true rfl⟩) nPcS rfl rfl hl.1 rfl (lv_room (Nat.le_of_ble_eq_true rfl)) dX3_decidesTurn_68 ⟨Nat.le_of_ble_eq_true rfl, Nat.le_of_ble_eq_true rfl⟩) hP hS (fun H hP hS => ?_)
  refine lv_topf (fun y3 ey3 => ?_)
  refine lv_fstore (lv' := [(6, .float y3), (5, .float y2), (4, .float y1), (0, .ref (a 4)), (1, .int p1), (2, .int p2), (3, .int p3)]) hx hb dX3_decidesTurn_71 hl (by decide) rfl (fun ls hl => ?_)
  refine lv_fload hx hb dX3_decidesTurn_73 (lv_at hl 2 rfl) ?_
  refine lv_fload hx hb dX3_decidesTurn_75 (lv_at hl 1 rfl) ?_
  refine lv_fsub hx hb dX3_decidesTurn_77 (mg_nn (mg_sub (mg_eq ey1 (mg_mul (mg_sub (mg_X3_floatX hbx) (mg_X3_floatX hbx) (by decide)) (mg_sub (mg_X3_floatY hby) (mg_X3_floatY hby) (by decide)) (by decide) (by decide))) (mg_eq ey2 (mg_mul (mg_sub (mg_X3_floatY hby) (mg_X3_floatY hby) (by decide)) (mg_sub (mg_X3_floatX hbx) (mg_X3_floatX hbx) (by decide)) (by decide) (by decide))) (by decide)) (by decide)) ?_
  refine cp_f (va_runS (As := [.float (FP.fsub y1 y2)]) (rest := []) ⟨hx, hb, hml, hown, hts⟩ (c_X3_unsigned l (FP.fsub y1 y2) ) (va_cwS 1 hts (gG_S mG_11_0 mG_11_1 mG_1_20 (gG_c mG_11_2 gG_G)) rfl rfl rfl hs_X3_unsigned ⟨Nat.le_of_ble_eq_true rfl, Nat.le_of_ble_eq_true rfl⟩) nPcS rfl rfl hl.1 rfl (lv_room (Nat.le_of_ble_eq_true rfl)) dX3_decidesTurn_78 ⟨Nat.le_of_ble_eq_true rfl, Nat.le_of_ble_eq_true rfl⟩) hP hS (fun H hP hS => ?_)
  refine lv_fload hx hb dX3_decidesTurn_81 (lv_at hl 0 rfl) ?_
  refine lv_fload hx hb dX3_decidesTurn_83 (lv_at hl 0 rfl) ?_
  refine lv_fmul hx hb dX3_decidesTurn_85 (mg_nn (mg_mul (mg_eq ey3 (mg_X3_greater (mg_X3_greater (mg_X3_reach hbx hby) (mg_X3_reach hbx hby)) (mg_X3_reach hbx hby))) (mg_eq ey3 (mg_X3_greater (mg_X3_greater (mg_X3_reach hbx hby) (mg_X3_reach hbx hby)) (mg_X3_reach hbx hby))) (by decide) (by decide)) (by decide)) ?_
  refine lv_ldcf hx hb hown (hts _ mG_10_8) dX3_decidesTurn_86 ?_
  refine lv_fmul hx hb dX3_decidesTurn_88 (mg_nn (mg_mul (mg_mul (mg_eq ey3 (mg_X3_greater (mg_X3_greater (mg_X3_reach hbx hby) (mg_X3_reach hbx hby)) (mg_X3_reach hbx hby))) (mg_eq ey3 (mg_X3_greater (mg_X3_greater (mg_X3_reach hbx hby) (mg_X3_reach hbx hby)) (mg_X3_reach hbx hby))) (by decide) (by decide)) mg_c1 (by decide) (by decide)) (by decide)) ?_
  refine lv_fcmp hx hb dX3_decidesTurn_89 ?_
  refine lv_if_le (tgt := 97) hx hb dX3_decidesTurn_90 (by decide) (fun c4 => ?_) (fun c4 => ?_)
  · skip
    refine lv_iconst (v := (0 : Int32)) hx hb dX3_decidesTurn_97 (by decide) ?_
    exact rp_z hQ hx hb hr hlk hS (Eq.symm (by subst ey1; subst ey2; subst ey3; simp only [f_X3_decidesTurn, if_pos c4])) (by decide) dX3_decidesTurn_98
  · skip
    refine lv_iconst (v := (1 : Int32)) hx hb dX3_decidesTurn_93 (by decide) ?_
    refine lv_goto (tgt := 98) hx hb dX3_decidesTurn_94 (by decide) ?_
    exact rp_z hQ hx hb hr hlk hS (Eq.symm (by subst ey1; subst ey2; subst ey3; simp only [f_X3_decidesTurn, if_neg c4])) (by decide) dX3_decidesTurn_98
/-! X3_decidesRing -/
theorem hs_X3_decidesRing : yX3_decidesRing.cls ≠ "java/lang/invoke/MethodHandle" ∧ yX3_decidesRing.cls ≠ "java/lang/invoke/VarHandle" ∧ (parseMethodDescriptor yX3_decidesRing.desc).map (fun d => d.parameters.length) = some 4 := by decide +kernel
theorem hd_X3_decidesRing : yX3_decidesRing.cls = RX3 ∧ yX3_decidesRing.cls ≠ "java/lang/invoke/MethodHandle" ∧ yX3_decidesRing.cls ≠ "java/lang/invoke/VarHandle" ∧ (parseMethodDescriptor yX3_decidesRing.desc).map (fun d => d.parameters.length) = some 4 := ⟨rfl, hs_X3_decidesRing⟩
def f_X3_decidesRing (xs : Nat → Int32) (ys : Nat → Int32) (p1 : Int32) (p2 : Int32) (p3 : Int32) (p4 : Int32) : Int32 := (if (Op.cmpValue (FP.fcmp (f_X3_unsigned (FP.fadd (FP.fadd (FP.fmul (FP.fadd (FP.fmul (FP.fsub (f_X3_floatX xs p1) (f_X3_floatX xs p4)) (FP.fsub (f_X3_floatX xs p1) (f_X3_floatX xs p4))) (FP.fmul (FP.fsub (f_X3_floatY ys p1) (f_X3_floatY ys p4)) (FP.fsub (f_X3_floatY ys p1) (f_X3_floatY ys p4)))) (FP.fsub (FP.fmul (FP.fsub (f_X3_floatX xs p2) (f_X3_floatX xs p4)) (FP.fsub (f_X3_floatY ys p3) (f_X3_floatY ys p4))) (FP.fmul (FP.fsub (f_X3_floatY ys p2) (f_X3_floatY ys p4)) (FP.fsub (f_X3_floatX xs p3) (f_X3_floatX xs p4))))) (FP.fmul (FP.fadd (FP.fmul (FP.fsub (f_X3_floatX xs p2) (f_X3_floatX xs p4)) (FP.fsub (f_X3_floatX xs p2) (f_X3_floatX xs p4))) (FP.fmul (FP.fsub (f_X3_floatY ys p2) (f_X3_floatY ys p4)) (FP.fsub (f_X3_floatY ys p2) (f_X3_floatY ys p4)))) (FP.fsub (FP.fmul (FP.fsub (f_X3_floatX xs p3) (f_X3_floatX xs p4)) (FP.fsub (f_X3_floatY ys p1) (f_X3_floatY ys p4))) (FP.fmul (FP.fsub (f_X3_floatY ys p3) (f_X3_floatY ys p4)) (FP.fsub (f_X3_floatX xs p1) (f_X3_floatX xs p4)))))) (FP.fmul (FP.fadd (FP.fmul (FP.fsub (f_X3_floatX xs p3) (f_X3_floatX xs p4)) (FP.fsub (f_X3_floatX xs p3) (f_X3_floatX xs p4))) (FP.fmul (FP.fsub (f_X3_floatY ys p3) (f_X3_floatY ys p4)) (FP.fsub (f_X3_floatY ys p3) (f_X3_floatY ys p4)))) (FP.fsub (FP.fmul (FP.fsub (f_X3_floatX xs p1) (f_X3_floatX xs p4)) (FP.fsub (f_X3_floatY ys p2) (f_X3_floatY ys p4))) (FP.fmul (FP.fsub (f_X3_floatY ys p1) (f_X3_floatY ys p4)) (FP.fsub (f_X3_floatX xs p2) (f_X3_floatX xs p4))))))) (FP.fmul (FP.fmul (FP.fmul (f_X3_greater (f_X3_greater (f_X3_reach xs ys p1) (f_X3_reach xs ys p2)) (f_X3_greater (f_X3_reach xs ys p3) (f_X3_reach xs ys p4))) (f_X3_greater (f_X3_greater (f_X3_reach xs ys p1) (f_X3_reach xs ys p2)) (f_X3_greater (f_X3_reach xs ys p3) (f_X3_reach xs ys p4)))) (FP.fmul (f_X3_greater (f_X3_greater (f_X3_reach xs ys p1) (f_X3_reach xs ys p2)) (f_X3_greater (f_X3_reach xs ys p3) (f_X3_reach xs ys p4))) (f_X3_greater (f_X3_greater (f_X3_reach xs ys p1) (f_X3_reach xs ys p2)) (f_X3_greater (f_X3_reach xs ys p3) (f_X3_reach xs ys p4))))) (964689920 : UInt32))) CmpOp.l) ≤ 0 then (0 : Int32) else (1 : Int32))
abbrev rm_X3_decidesRing : Room := { frames := 2, cells := 0, slots := 0, locals := 42 }
set_option maxHeartbeats 8000000 in
set_option maxRecDepth 100000 in
theorem c_X3_decidesRing (l : Launch) (dC : Nat → ClassId) (dI : Nat → Nat → Nat) (a : Nat → Nat) (cI cJ : ClassId) (xs : Nat → Int32) (ys : Nat → Int32) (pl : Nat → Int32) (kp : Nat → Int32) (lp : Nat → Int64) (lq : Nat → Int64) (lr : Nat → Int64) (v0 : Int32) (v1 : Int32) (v2 : Int32) (v3 : Int32) (v4 : Int32) (v5 : Int32) (v6 : Int32) (v7 : Int32) (v8 : Int32) (v9 : Int32) (v10 : Int32) (p1 : Int32) (p2 : Int32) (p3 : Int32) (p4 : Int32) (hi1 : vp_in p1 60) (hi2 : vp_in p2 60) (hi3 : vp_in p3 60) (hi4 : vp_in p4 60) (hbx : ∀ j : Nat, (xs j).toInt.natAbs ≤ 16384) (hby : ∀ j : Nat, (ys j).toInt.natAbs ≤ 16384) : Met l yX3_decidesRing (Cond.code yX3_decidesRing cX3_decidesRing 16 (some .boolean) :: lw_G) rm_X3_decidesRing (pPc (dC, dI) (tIJ cI cJ) (wC a cI cJ xs ys pl kp lp lq lr v0 v1 v2 v3 v4 v5 v6 v7 v8 v9 v10) [.ref (a 4), .int p1, .int p2, .int p3, .int p4]) (pQi (f_X3_decidesRing xs ys p1 p2 p3 p4)) 0 0 pNo := by
  refine pm_of (by decide) (Nat.le_of_ble_eq_true rfl) ?_
  intro p e s m args below meth c Q ls hQ hx hb hr hlk hml hown hts hP hK hS hl
  have hown : s.vm.findClass RX3 = some m.cls := hown
  have hl : lv_has ls 16 [(0, .ref (a 4)), (1, .int p1), (2, .int p2), (3, .int p3), (4, .int p4)] := hl
  refine lv_aload_n hx hb dX3_decidesRing_0 rfl (lv_at hl 0 rfl) ?_
  refine lv_iload_n hx hb dX3_decidesRing_1 rfl (lv_at hl 1 rfl) ?_
  refine cp_f (va_runV (As := [.int p1]) (rest := []) ⟨hx, hb, hml, hown, hts⟩ (c_X3_floatX l dC dI a cI cJ xs ys pl kp lp lq lr v0 v1 v2 v3 v4 v5 v6 v7 v8 v9 v10 p1 (by first | with_reducible assumption | exact in0_24 | exact in0_60 | decide) (by first | with_reducible assumption | exact in0_24 | exact in0_60 | decide)) (cwV 1 hts (gG_V mG_10_9 mG_10_10 mG_10_11 mG_1_20 (gG_c mG_10_12 gG_G)) rfl rfl rfl hd_X3_floatX ⟨Nat.le_of_ble_eq_true rfl, Nat.le_of_ble_eq_true rfl⟩) (pPcV (ci := 7) (q0 := 4) hK hP rfl rfl) rfl rfl hl.1 rfl (lv_room (Nat.le_of_ble_eq_true rfl)) dX3_decidesRing_2 ⟨Nat.le_of_ble_eq_true rfl, Nat.le_of_ble_eq_true rfl⟩) hP hS (fun H hP hS => ?_)
  refine lv_aload_n hx hb dX3_decidesRing_5 rfl (lv_at hl 0 rfl) ?_
  refine lv_iload hx hb dX3_decidesRing_6 (lv_at hl 4 rfl) ?_
  refine cp_f (va_runV (As := [.int p4]) (rest := [.float (f_X3_floatX xs p1)]) ⟨hx, hb, hml, hown, hts⟩ (c_X3_floatX l dC dI a cI cJ xs ys pl kp lp lq lr v0 v1 v2 v3 v4 v5 v6 v7 v8 v9 v10 p4 (by first | with_reducible assumption | exact in0_24 | exact in0_60 | decide) (by first | with_reducible assumption | exact in0_24 | exact in0_60 | decide)) (cwV 1 hts (gG_V mG_10_9 mG_10_10 mG_10_11 mG_1_20 (gG_c mG_10_12 gG_G)) rfl rfl rfl hd_X3_floatX ⟨Nat.le_of_ble_eq_true rfl, Nat.le_of_ble_eq_true rfl⟩) (pPcV (ci := 7) (q0 := 4) hK hP rfl rfl) rfl rfl hl.1 rfl (lv_room (Nat.le_of_ble_eq_true rfl)) dX3_decidesRing_8 ⟨Nat.le_of_ble_eq_true rfl, Nat.le_of_ble_eq_true rfl⟩) hP hS (fun H hP hS => ?_)
  refine lv_fsub hx hb dX3_decidesRing_11 (mg_nn (mg_sub (mg_X3_floatX hbx) (mg_X3_floatX hbx) (by decide)) (by decide)) ?_
  refine lv_topf (fun y1 ey1 => ?_)
  refine lv_fstore (lv' := [(5, .float y1), (0, .ref (a 4)), (1, .int p1), (2, .int p2), (3, .int p3), (4, .int p4)]) hx hb dX3_decidesRing_12 hl (by decide) rfl (fun ls hl => ?_)
  refine lv_aload_n hx hb dX3_decidesRing_14 rfl (lv_at hl 1 rfl) ?_
  refine lv_iload_n hx hb dX3_decidesRing_15 rfl (lv_at hl 2 rfl) ?_
  refine cp_f (va_runV (As := [.int p1]) (rest := []) ⟨hx, hb, hml, hown, hts⟩ (c_X3_floatY l dC dI a cI cJ xs ys pl kp lp lq lr v0 v1 v2 v3 v4 v5 v6 v7 v8 v9 v10 p1 (by first | with_reducible assumption | exact in0_24 | exact in0_60 | decide) (by first | with_reducible assumption | exact in0_24 | exact in0_60 | decide)) (cwV 1 hts (gG_V mG_10_15 mG_10_16 mG_10_17 mG_1_20 (gG_c mG_10_18 gG_G)) rfl rfl rfl hd_X3_floatY ⟨Nat.le_of_ble_eq_true rfl, Nat.le_of_ble_eq_true rfl⟩) (pPcV (ci := 7) (q0 := 4) hK hP rfl rfl) rfl rfl hl.1 rfl (lv_room (Nat.le_of_ble_eq_true rfl)) dX3_decidesRing_16 ⟨Nat.le_of_ble_eq_true rfl, Nat.le_of_ble_eq_true rfl⟩) hP hS (fun H hP hS => ?_)
  refine lv_aload_n hx hb dX3_decidesRing_19 rfl (lv_at hl 1 rfl) ?_
  refine lv_iload hx hb dX3_decidesRing_20 (lv_at hl 5 rfl) ?_
  refine cp_f (va_runV (As := [.int p4]) (rest := [.float (f_X3_floatY ys p1)]) ⟨hx, hb, hml, hown, hts⟩ (c_X3_floatY l dC dI a cI cJ xs ys pl kp lp lq lr v0 v1 v2 v3 v4 v5 v6 v7 v8 v9 v10 p4 (by first | with_reducible assumption | exact in0_24 | exact in0_60 | decide) (by first | with_reducible assumption | exact in0_24 | exact in0_60 | decide)) (cwV 1 hts (gG_V mG_10_15 mG_10_16 mG_10_17 mG_1_20 (gG_c mG_10_18 gG_G)) rfl rfl rfl hd_X3_floatY ⟨Nat.le_of_ble_eq_true rfl, Nat.le_of_ble_eq_true rfl⟩) (pPcV (ci := 7) (q0 := 4) hK hP rfl rfl) rfl rfl hl.1 rfl (lv_room (Nat.le_of_ble_eq_true rfl)) dX3_decidesRing_22 ⟨Nat.le_of_ble_eq_true rfl, Nat.le_of_ble_eq_true rfl⟩) hP hS (fun H hP hS => ?_)
  refine lv_fsub hx hb dX3_decidesRing_25 (mg_nn (mg_sub (mg_X3_floatY hby) (mg_X3_floatY hby) (by decide)) (by decide)) ?_
  refine lv_topf (fun y2 ey2 => ?_)
  refine lv_fstore (lv' := [(6, .float y2), (5, .float y1), (0, .ref (a 4)), (1, .int p1), (2, .int p2), (3, .int p3), (4, .int p4)]) hx hb dX3_decidesRing_26 hl (by decide) rfl (fun ls hl => ?_)
  refine lv_aload_n hx hb dX3_decidesRing_28 rfl (lv_at hl 2 rfl) ?_
  refine lv_iload_n hx hb dX3_decidesRing_29 rfl (lv_at hl 4 rfl) ?_
  refine cp_f (va_runV (As := [.int p2]) (rest := []) ⟨hx, hb, hml, hown, hts⟩ (c_X3_floatX l dC dI a cI cJ xs ys pl kp lp lq lr v0 v1 v2 v3 v4 v5 v6 v7 v8 v9 v10 p2 (by first | with_reducible assumption | exact in0_24 | exact in0_60 | decide) (by first | with_reducible assumption | exact in0_24 | exact in0_60 | decide)) (cwV 1 hts (gG_V mG_10_9 mG_10_10 mG_10_11 mG_1_20 (gG_c mG_10_12 gG_G)) rfl rfl rfl hd_X3_floatX ⟨Nat.le_of_ble_eq_true rfl, Nat.le_of_ble_eq_true rfl⟩) (pPcV (ci := 7) (q0 := 4) hK hP rfl rfl) rfl rfl hl.1 rfl (lv_room (Nat.le_of_ble_eq_true rfl)) dX3_decidesRing_30 ⟨Nat.le_of_ble_eq_true rfl, Nat.le_of_ble_eq_true rfl⟩) hP hS (fun H hP hS => ?_)
  refine lv_aload_n hx hb dX3_decidesRing_33 rfl (lv_at hl 2 rfl) ?_
  refine lv_iload hx hb dX3_decidesRing_34 (lv_at hl 6 rfl) ?_
  refine cp_f (va_runV (As := [.int p4]) (rest := [.float (f_X3_floatX xs p2)]) ⟨hx, hb, hml, hown, hts⟩ (c_X3_floatX l dC dI a cI cJ xs ys pl kp lp lq lr v0 v1 v2 v3 v4 v5 v6 v7 v8 v9 v10 p4 (by first | with_reducible assumption | exact in0_24 | exact in0_60 | decide) (by first | with_reducible assumption | exact in0_24 | exact in0_60 | decide)) (cwV 1 hts (gG_V mG_10_9 mG_10_10 mG_10_11 mG_1_20 (gG_c mG_10_12 gG_G)) rfl rfl rfl hd_X3_floatX ⟨Nat.le_of_ble_eq_true rfl, Nat.le_of_ble_eq_true rfl⟩) (pPcV (ci := 7) (q0 := 4) hK hP rfl rfl) rfl rfl hl.1 rfl (lv_room (Nat.le_of_ble_eq_true rfl)) dX3_decidesRing_36 ⟨Nat.le_of_ble_eq_true rfl, Nat.le_of_ble_eq_true rfl⟩) hP hS (fun H hP hS => ?_)
  refine lv_fsub hx hb dX3_decidesRing_39 (mg_nn (mg_sub (mg_X3_floatX hbx) (mg_X3_floatX hbx) (by decide)) (by decide)) ?_
  refine lv_topf (fun y3 ey3 => ?_)
  refine lv_fstore (lv' := [(7, .float y3), (6, .float y2), (5, .float y1), (0, .ref (a 4)), (1, .int p1), (2, .int p2), (3, .int p3), (4, .int p4)]) hx hb dX3_decidesRing_40 hl (by decide) rfl (fun ls hl => ?_)
  refine lv_aload_n hx hb dX3_decidesRing_42 rfl (lv_at hl 3 rfl) ?_
  refine lv_iload_n hx hb dX3_decidesRing_43 rfl (lv_at hl 5 rfl) ?_
  refine cp_f (va_runV (As := [.int p2]) (rest := []) ⟨hx, hb, hml, hown, hts⟩ (c_X3_floatY l dC dI a cI cJ xs ys pl kp lp lq lr v0 v1 v2 v3 v4 v5 v6 v7 v8 v9 v10 p2 (by first | with_reducible assumption | exact in0_24 | exact in0_60 | decide) (by first | with_reducible assumption | exact in0_24 | exact in0_60 | decide)) (cwV 1 hts (gG_V mG_10_15 mG_10_16 mG_10_17 mG_1_20 (gG_c mG_10_18 gG_G)) rfl rfl rfl hd_X3_floatY ⟨Nat.le_of_ble_eq_true rfl, Nat.le_of_ble_eq_true rfl⟩) (pPcV (ci := 7) (q0 := 4) hK hP rfl rfl) rfl rfl hl.1 rfl (lv_room (Nat.le_of_ble_eq_true rfl)) dX3_decidesRing_44 ⟨Nat.le_of_ble_eq_true rfl, Nat.le_of_ble_eq_true rfl⟩) hP hS (fun H hP hS => ?_)
  refine lv_aload_n hx hb dX3_decidesRing_47 rfl (lv_at hl 3 rfl) ?_
  refine lv_iload hx hb dX3_decidesRing_48 (lv_at hl 7 rfl) ?_
  refine cp_f (va_runV (As := [.int p4]) (rest := [.float (f_X3_floatY ys p2)]) ⟨hx, hb, hml, hown, hts⟩ (c_X3_floatY l dC dI a cI cJ xs ys pl kp lp lq lr v0 v1 v2 v3 v4 v5 v6 v7 v8 v9 v10 p4 (by first | with_reducible assumption | exact in0_24 | exact in0_60 | decide) (by first | with_reducible assumption | exact in0_24 | exact in0_60 | decide)) (cwV 1 hts (gG_V mG_10_15 mG_10_16 mG_10_17 mG_1_20 (gG_c mG_10_18 gG_G)) rfl rfl rfl hd_X3_floatY ⟨Nat.le_of_ble_eq_true rfl, Nat.le_of_ble_eq_true rfl⟩) (pPcV (ci := 7) (q0 := 4) hK hP rfl rfl) rfl rfl hl.1 rfl (lv_room (Nat.le_of_ble_eq_true rfl)) dX3_decidesRing_50 ⟨Nat.le_of_ble_eq_true rfl, Nat.le_of_ble_eq_true rfl⟩) hP hS (fun H hP hS => ?_)
  refine lv_fsub hx hb dX3_decidesRing_53 (mg_nn (mg_sub (mg_X3_floatY hby) (mg_X3_floatY hby) (by decide)) (by decide)) ?_
  refine lv_topf (fun y4 ey4 => ?_)
  refine lv_fstore (lv' := [(8, .float y4), (7, .float y3), (6, .float y2), (5, .float y1), (0, .ref (a 4)), (1, .int p1), (2, .int p2), (3, .int p3), (4, .int p4)]) hx hb dX3_decidesRing_54 hl (by decide) rfl (fun ls hl => ?_)
  refine lv_aload_n hx hb dX3_decidesRing_56 rfl (lv_at hl 4 rfl) ?_
  refine lv_iload_n hx hb dX3_decidesRing_57 rfl (lv_at hl 7 rfl) ?_
  refine cp_f (va_runV (As := [.int p3]) (rest := []) ⟨hx, hb, hml, hown, hts⟩ (c_X3_floatX l dC dI a cI cJ xs ys pl kp lp lq lr v0 v1 v2 v3 v4 v5 v6 v7 v8 v9 v10 p3 (by first | with_reducible assumption | exact in0_24 | exact in0_60 | decide) (by first | with_reducible assumption | exact in0_24 | exact in0_60 | decide)) (cwV 1 hts (gG_V mG_10_9 mG_10_10 mG_10_11 mG_1_20 (gG_c mG_10_12 gG_G)) rfl rfl rfl hd_X3_floatX ⟨Nat.le_of_ble_eq_true rfl, Nat.le_of_ble_eq_true rfl⟩) (pPcV (ci := 7) (q0 := 4) hK hP rfl rfl) rfl rfl hl.1 rfl (lv_room (Nat.le_of_ble_eq_true rfl)) dX3_decidesRing_58 ⟨Nat.le_of_ble_eq_true rfl, Nat.le_of_ble_eq_true rfl⟩) hP hS (fun H hP hS => ?_)
  refine lv_aload_n hx hb dX3_decidesRing_61 rfl (lv_at hl 4 rfl) ?_
  refine lv_iload hx hb dX3_decidesRing_62 (lv_at hl 8 rfl) ?_
  refine cp_f (va_runV (As := [.int p4]) (rest := [.float (f_X3_floatX xs p3)]) ⟨hx, hb, hml, hown, hts⟩ (c_X3_floatX l dC dI a cI cJ xs ys pl kp lp lq lr v0 v1 v2 v3 v4 v5 v6 v7 v8 v9 v10 p4 (by first | with_reducible assumption | exact in0_24 | exact in0_60 | decide) (by first | with_reducible assumption | exact in0_24 | exact in0_60 | decide)) (cwV 1 hts (gG_V mG_10_9 mG_10_10 mG_10_11 mG_1_20 (gG_c mG_10_12 gG_G)) rfl rfl rfl hd_X3_floatX ⟨Nat.le_of_ble_eq_true rfl, Nat.le_of_ble_eq_true rfl⟩) (pPcV (ci := 7) (q0 := 4) hK hP rfl rfl) rfl rfl hl.1 rfl (lv_room (Nat.le_of_ble_eq_true rfl)) dX3_decidesRing_64 ⟨Nat.le_of_ble_eq_true rfl, Nat.le_of_ble_eq_true rfl⟩) hP hS (fun H hP hS => ?_)
  refine lv_fsub hx hb dX3_decidesRing_67 (mg_nn (mg_sub (mg_X3_floatX hbx) (mg_X3_floatX hbx) (by decide)) (by decide)) ?_
  refine lv_topf (fun y5 ey5 => ?_)
  refine lv_fstore (lv' := [(9, .float y5), (8, .float y4), (7, .float y3), (6, .float y2), (5, .float y1), (0, .ref (a 4)), (1, .int p1), (2, .int p2), (3, .int p3), (4, .int p4)]) hx hb dX3_decidesRing_68 hl (by decide) rfl (fun ls hl => ?_)
  refine lv_aload_n hx hb dX3_decidesRing_70 rfl (lv_at hl 5 rfl) ?_
  refine lv_iload_n hx hb dX3_decidesRing_71 rfl (lv_at hl 8 rfl) ?_
  refine cp_f (va_runV (As := [.int p3]) (rest := []) ⟨hx, hb, hml, hown, hts⟩ (c_X3_floatY l dC dI a cI cJ xs ys pl kp lp lq lr v0 v1 v2 v3 v4 v5 v6 v7 v8 v9 v10 p3 (by first | with_reducible assumption | exact in0_24 | exact in0_60 | decide) (by first | with_reducible assumption | exact in0_24 | exact in0_60 | decide)) (cwV 1 hts (gG_V mG_10_15 mG_10_16 mG_10_17 mG_1_20 (gG_c mG_10_18 gG_G)) rfl rfl rfl hd_X3_floatY ⟨Nat.le_of_ble_eq_true rfl, Nat.le_of_ble_eq_true rfl⟩) (pPcV (ci := 7) (q0 := 4) hK hP rfl rfl) rfl rfl hl.1 rfl (lv_room (Nat.le_of_ble_eq_true rfl)) dX3_decidesRing_72 ⟨Nat.le_of_ble_eq_true rfl, Nat.le_of_ble_eq_true rfl⟩) hP hS (fun H hP hS => ?_)
  refine lv_aload_n hx hb dX3_decidesRing_75 rfl (lv_at hl 5 rfl) ?_
  refine lv_iload hx hb dX3_decidesRing_76 (lv_at hl 9 rfl) ?_
  refine cp_f (va_runV (As := [.int p4]) (rest := [.float (f_X3_floatY ys p3)]) ⟨hx, hb, hml, hown, hts⟩ (c_X3_floatY l dC dI a cI cJ xs ys pl kp lp lq lr v0 v1 v2 v3 v4 v5 v6 v7 v8 v9 v10 p4 (by first | with_reducible assumption | exact in0_24 | exact in0_60 | decide) (by first | with_reducible assumption | exact in0_24 | exact in0_60 | decide)) (cwV 1 hts (gG_V mG_10_15 mG_10_16 mG_10_17 mG_1_20 (gG_c mG_10_18 gG_G)) rfl rfl rfl hd_X3_floatY ⟨Nat.le_of_ble_eq_true rfl, Nat.le_of_ble_eq_true rfl⟩) (pPcV (ci := 7) (q0 := 4) hK hP rfl rfl) rfl rfl hl.1 rfl (lv_room (Nat.le_of_ble_eq_true rfl)) dX3_decidesRing_78 ⟨Nat.le_of_ble_eq_true rfl, Nat.le_of_ble_eq_true rfl⟩) hP hS (fun H hP hS => ?_)
  refine lv_fsub hx hb dX3_decidesRing_81 (mg_nn (mg_sub (mg_X3_floatY hby) (mg_X3_floatY hby) (by decide)) (by decide)) ?_
  refine lv_topf (fun y6 ey6 => ?_)
  refine lv_fstore (lv' := [(10, .float y6), (9, .float y5), (8, .float y4), (7, .float y3), (6, .float y2), (5, .float y1), (0, .ref (a 4)), (1, .int p1), (2, .int p2), (3, .int p3), (4, .int p4)]) hx hb dX3_decidesRing_82 hl (by decide) rfl (fun ls hl => ?_)
  refine lv_fload hx hb dX3_decidesRing_84 (lv_at hl 5 rfl) ?_
  refine lv_fload hx hb dX3_decidesRing_86 (lv_at hl 5 rfl) ?_
  refine lv_fmul hx hb dX3_decidesRing_88 (mg_nn (mg_mul (mg_eq ey1 (mg_sub (mg_X3_floatX hbx) (mg_X3_floatX hbx) (by decide))) (mg_eq ey1 (mg_sub (mg_X3_floatX hbx) (mg_X3_floatX hbx) (by decide))) (by decide) (by decide)) (by decide)) ?_
  refine lv_fload hx hb dX3_decidesRing_89 (lv_at hl 4 rfl) ?_
  refine lv_fload hx hb dX3_decidesRing_91 (lv_at hl 4 rfl) ?_
  refine lv_fmul hx hb dX3_decidesRing_93 (mg_nn (mg_mul (mg_eq ey2 (mg_sub (mg_X3_floatY hby) (mg_X3_floatY hby) (by decide))) (mg_eq ey2 (mg_sub (mg_X3_floatY hby) (mg_X3_floatY hby) (by decide))) (by decide) (by decide)) (by decide)) ?_
  refine lv_fadd hx hb dX3_decidesRing_94 (mg_nn (mg_add (mg_mul (mg_eq ey1 (mg_sub (mg_X3_floatX hbx) (mg_X3_floatX hbx) (by decide))) (mg_eq ey1 (mg_sub (mg_X3_floatX hbx) (mg_X3_floatX hbx) (by decide))) (by decide) (by decide)) (mg_mul (mg_eq ey2 (mg_sub (mg_X3_floatY hby) (mg_X3_floatY hby) (by decide))) (mg_eq ey2 (mg_sub (mg_X3_floatY hby) (mg_X3_floatY hby) (by decide))) (by decide) (by decide)) (by decide)) (by decide)) ?_
  refine lv_fload hx hb dX3_decidesRing_95 (lv_at hl 3 rfl) ?_
  refine lv_fload hx hb dX3_decidesRing_97 (lv_at hl 0 rfl) ?_
  refine lv_fmul hx hb dX3_decidesRing_99 (mg_nn (mg_mul (mg_eq ey3 (mg_sub (mg_X3_floatX hbx) (mg_X3_floatX hbx) (by decide))) (mg_eq ey6 (mg_sub (mg_X3_floatY hby) (mg_X3_floatY hby) (by decide))) (by decide) (by decide)) (by decide)) ?_
  refine lv_fload hx hb dX3_decidesRing_100 (lv_at hl 2 rfl) ?_
  refine lv_fload hx hb dX3_decidesRing_102 (lv_at hl 1 rfl) ?_
  refine lv_fmul hx hb dX3_decidesRing_104 (mg_nn (mg_mul (mg_eq ey4 (mg_sub (mg_X3_floatY hby) (mg_X3_floatY hby) (by decide))) (mg_eq ey5 (mg_sub (mg_X3_floatX hbx) (mg_X3_floatX hbx) (by decide))) (by decide) (by decide)) (by decide)) ?_
  refine lv_fsub hx hb dX3_decidesRing_105 (mg_nn (mg_sub (mg_mul (mg_eq ey3 (mg_sub (mg_X3_floatX hbx) (mg_X3_floatX hbx) (by decide))) (mg_eq ey6 (mg_sub (mg_X3_floatY hby) (mg_X3_floatY hby) (by decide))) (by decide) (by decide)) (mg_mul (mg_eq ey4 (mg_sub (mg_X3_floatY hby) (mg_X3_floatY hby) (by decide))) (mg_eq ey5 (mg_sub (mg_X3_floatX hbx) (mg_X3_floatX hbx) (by decide))) (by decide) (by decide)) (by decide)) (by decide)) ?_
  refine lv_fmul hx hb dX3_decidesRing_106 (mg_nn (mg_mul (mg_add (mg_mul (mg_eq ey1 (mg_sub (mg_X3_floatX hbx) (mg_X3_floatX hbx) (by decide))) (mg_eq ey1 (mg_sub (mg_X3_floatX hbx) (mg_X3_floatX hbx) (by decide))) (by decide) (by decide)) (mg_mul (mg_eq ey2 (mg_sub (mg_X3_floatY hby) (mg_X3_floatY hby) (by decide))) (mg_eq ey2 (mg_sub (mg_X3_floatY hby) (mg_X3_floatY hby) (by decide))) (by decide) (by decide)) (by decide)) (mg_sub (mg_mul (mg_eq ey3 (mg_sub (mg_X3_floatX hbx) (mg_X3_floatX hbx) (by decide))) (mg_eq ey6 (mg_sub (mg_X3_floatY hby) (mg_X3_floatY hby) (by decide))) (by decide) (by decide)) (mg_mul (mg_eq ey4 (mg_sub (mg_X3_floatY hby) (mg_X3_floatY hby) (by decide))) (mg_eq ey5 (mg_sub (mg_X3_floatX hbx) (mg_X3_floatX hbx) (by decide))) (by decide) (by decide)) (by decide)) (by decide) (by decide)) (by decide)) ?_
  refine lv_topf (fun y7 ey7 => ?_)
  refine lv_fstore (lv' := [(11, .float y7), (10, .float y6), (9, .float y5), (8, .float y4), (7, .float y3), (6, .float y2), (5, .float y1), (0, .ref (a 4)), (1, .int p1), (2, .int p2), (3, .int p3), (4, .int p4)]) hx hb dX3_decidesRing_107 hl (by decide) rfl (fun ls hl => ?_)
  refine lv_fload hx hb dX3_decidesRing_109 (lv_at hl 4 rfl) ?_
  refine lv_fload hx hb dX3_decidesRing_111 (lv_at hl 4 rfl) ?_
  refine lv_fmul hx hb dX3_decidesRing_113 (mg_nn (mg_mul (mg_eq ey3 (mg_sub (mg_X3_floatX hbx) (mg_X3_floatX hbx) (by decide))) (mg_eq ey3 (mg_sub (mg_X3_floatX hbx) (mg_X3_floatX hbx) (by decide))) (by decide) (by decide)) (by decide)) ?_
  refine lv_fload hx hb dX3_decidesRing_114 (lv_at hl 3 rfl) ?_
  refine lv_fload hx hb dX3_decidesRing_116 (lv_at hl 3 rfl) ?_
  refine lv_fmul hx hb dX3_decidesRing_118 (mg_nn (mg_mul (mg_eq ey4 (mg_sub (mg_X3_floatY hby) (mg_X3_floatY hby) (by decide))) (mg_eq ey4 (mg_sub (mg_X3_floatY hby) (mg_X3_floatY hby) (by decide))) (by decide) (by decide)) (by decide)) ?_
  refine lv_fadd hx hb dX3_decidesRing_119 (mg_nn (mg_add (mg_mul (mg_eq ey3 (mg_sub (mg_X3_floatX hbx) (mg_X3_floatX hbx) (by decide))) (mg_eq ey3 (mg_sub (mg_X3_floatX hbx) (mg_X3_floatX hbx) (by decide))) (by decide) (by decide)) (mg_mul (mg_eq ey4 (mg_sub (mg_X3_floatY hby) (mg_X3_floatY hby) (by decide))) (mg_eq ey4 (mg_sub (mg_X3_floatY hby) (mg_X3_floatY hby) (by decide))) (by decide) (by decide)) (by decide)) (by decide)) ?_
  refine lv_fload hx hb dX3_decidesRing_120 (lv_at hl 2 rfl) ?_
  refine lv_fload hx hb dX3_decidesRing_122 (lv_at hl 5 rfl) ?_
  refine lv_fmul hx hb dX3_decidesRing_124 (mg_nn (mg_mul (mg_eq ey5 (mg_sub (mg_X3_floatX hbx) (mg_X3_floatX hbx) (by decide))) (mg_eq ey2 (mg_sub (mg_X3_floatY hby) (mg_X3_floatY hby) (by decide))) (by decide) (by decide)) (by decide)) ?_
  refine lv_fload hx hb dX3_decidesRing_125 (lv_at hl 1 rfl) ?_
  refine lv_fload hx hb dX3_decidesRing_127 (lv_at hl 6 rfl) ?_
  refine lv_fmul hx hb dX3_decidesRing_129 (mg_nn (mg_mul (mg_eq ey6 (mg_sub (mg_X3_floatY hby) (mg_X3_floatY hby) (by decide))) (mg_eq ey1 (mg_sub (mg_X3_floatX hbx) (mg_X3_floatX hbx) (by decide))) (by decide) (by decide)) (by decide)) ?_
  refine lv_fsub hx hb dX3_decidesRing_130 (mg_nn (mg_sub (mg_mul (mg_eq ey5 (mg_sub (mg_X3_floatX hbx) (mg_X3_floatX hbx) (by decide))) (mg_eq ey2 (mg_sub (mg_X3_floatY hby) (mg_X3_floatY hby) (by decide))) (by decide) (by decide)) (mg_mul (mg_eq ey6 (mg_sub (mg_X3_floatY hby) (mg_X3_floatY hby) (by decide))) (mg_eq ey1 (mg_sub (mg_X3_floatX hbx) (mg_X3_floatX hbx) (by decide))) (by decide) (by decide)) (by decide)) (by decide)) ?_
  refine lv_fmul hx hb dX3_decidesRing_131 (mg_nn (mg_mul (mg_add (mg_mul (mg_eq ey3 (mg_sub (mg_X3_floatX hbx) (mg_X3_floatX hbx) (by decide))) (mg_eq ey3 (mg_sub (mg_X3_floatX hbx) (mg_X3_floatX hbx) (by decide))) (by decide) (by decide)) (mg_mul (mg_eq ey4 (mg_sub (mg_X3_floatY hby) (mg_X3_floatY hby) (by decide))) (mg_eq ey4 (mg_sub (mg_X3_floatY hby) (mg_X3_floatY hby) (by decide))) (by decide) (by decide)) (by decide)) (mg_sub (mg_mul (mg_eq ey5 (mg_sub (mg_X3_floatX hbx) (mg_X3_floatX hbx) (by decide))) (mg_eq ey2 (mg_sub (mg_X3_floatY hby) (mg_X3_floatY hby) (by decide))) (by decide) (by decide)) (mg_mul (mg_eq ey6 (mg_sub (mg_X3_floatY hby) (mg_X3_floatY hby) (by decide))) (mg_eq ey1 (mg_sub (mg_X3_floatX hbx) (mg_X3_floatX hbx) (by decide))) (by decide) (by decide)) (by decide)) (by decide) (by decide)) (by decide)) ?_
  refine lv_topf (fun y8 ey8 => ?_)
  refine lv_fstore (lv' := [(12, .float y8), (11, .float y7), (10, .float y6), (9, .float y5), (8, .float y4), (7, .float y3), (6, .float y2), (5, .float y1), (0, .ref (a 4)), (1, .int p1), (2, .int p2), (3, .int p3), (4, .int p4)]) hx hb dX3_decidesRing_132 hl (by decide) rfl (fun ls hl => ?_)
  refine lv_fload hx hb dX3_decidesRing_134 (lv_at hl 3 rfl) ?_
  refine lv_fload hx hb dX3_decidesRing_136 (lv_at hl 3 rfl) ?_
  refine lv_fmul hx hb dX3_decidesRing_138 (mg_nn (mg_mul (mg_eq ey5 (mg_sub (mg_X3_floatX hbx) (mg_X3_floatX hbx) (by decide))) (mg_eq ey5 (mg_sub (mg_X3_floatX hbx) (mg_X3_floatX hbx) (by decide))) (by decide) (by decide)) (by decide)) ?_
  refine lv_fload hx hb dX3_decidesRing_139 (lv_at hl 2 rfl) ?_
  refine lv_fload hx hb dX3_decidesRing_141 (lv_at hl 2 rfl) ?_
  refine lv_fmul hx hb dX3_decidesRing_143 (mg_nn (mg_mul (mg_eq ey6 (mg_sub (mg_X3_floatY hby) (mg_X3_floatY hby) (by decide))) (mg_eq ey6 (mg_sub (mg_X3_floatY hby) (mg_X3_floatY hby) (by decide))) (by decide) (by decide)) (by decide)) ?_
  refine lv_fadd hx hb dX3_decidesRing_144 (mg_nn (mg_add (mg_mul (mg_eq ey5 (mg_sub (mg_X3_floatX hbx) (mg_X3_floatX hbx) (by decide))) (mg_eq ey5 (mg_sub (mg_X3_floatX hbx) (mg_X3_floatX hbx) (by decide))) (by decide) (by decide)) (mg_mul (mg_eq ey6 (mg_sub (mg_X3_floatY hby) (mg_X3_floatY hby) (by decide))) (mg_eq ey6 (mg_sub (mg_X3_floatY hby) (mg_X3_floatY hby) (by decide))) (by decide) (by decide)) (by decide)) (by decide)) ?_
  refine lv_fload hx hb dX3_decidesRing_145 (lv_at hl 7 rfl) ?_
  refine lv_fload hx hb dX3_decidesRing_147 (lv_at hl 4 rfl) ?_
  refine lv_fmul hx hb dX3_decidesRing_149 (mg_nn (mg_mul (mg_eq ey1 (mg_sub (mg_X3_floatX hbx) (mg_X3_floatX hbx) (by decide))) (mg_eq ey4 (mg_sub (mg_X3_floatY hby) (mg_X3_floatY hby) (by decide))) (by decide) (by decide)) (by decide)) ?_
  refine lv_fload hx hb dX3_decidesRing_150 (lv_at hl 6 rfl) ?_
  refine lv_fload hx hb dX3_decidesRing_152 (lv_at hl 5 rfl) ?_
  refine lv_fmul hx hb dX3_decidesRing_154 (mg_nn (mg_mul (mg_eq ey2 (mg_sub (mg_X3_floatY hby) (mg_X3_floatY hby) (by decide))) (mg_eq ey3 (mg_sub (mg_X3_floatX hbx) (mg_X3_floatX hbx) (by decide))) (by decide) (by decide)) (by decide)) ?_
  refine lv_fsub hx hb dX3_decidesRing_155 (mg_nn (mg_sub (mg_mul (mg_eq ey1 (mg_sub (mg_X3_floatX hbx) (mg_X3_floatX hbx) (by decide))) (mg_eq ey4 (mg_sub (mg_X3_floatY hby) (mg_X3_floatY hby) (by decide))) (by decide) (by decide)) (mg_mul (mg_eq ey2 (mg_sub (mg_X3_floatY hby) (mg_X3_floatY hby) (by decide))) (mg_eq ey3 (mg_sub (mg_X3_floatX hbx) (mg_X3_floatX hbx) (by decide))) (by decide) (by decide)) (by decide)) (by decide)) ?_
  refine lv_fmul hx hb dX3_decidesRing_156 (mg_nn (mg_mul (mg_add (mg_mul (mg_eq ey5 (mg_sub (mg_X3_floatX hbx) (mg_X3_floatX hbx) (by decide))) (mg_eq ey5 (mg_sub (mg_X3_floatX hbx) (mg_X3_floatX hbx) (by decide))) (by decide) (by decide)) (mg_mul (mg_eq ey6 (mg_sub (mg_X3_floatY hby) (mg_X3_floatY hby) (by decide))) (mg_eq ey6 (mg_sub (mg_X3_floatY hby) (mg_X3_floatY hby) (by decide))) (by decide) (by decide)) (by decide)) (mg_sub (mg_mul (mg_eq ey1 (mg_sub (mg_X3_floatX hbx) (mg_X3_floatX hbx) (by decide))) (mg_eq ey4 (mg_sub (mg_X3_floatY hby) (mg_X3_floatY hby) (by decide))) (by decide) (by decide)) (mg_mul (mg_eq ey2 (mg_sub (mg_X3_floatY hby) (mg_X3_floatY hby) (by decide))) (mg_eq ey3 (mg_sub (mg_X3_floatX hbx) (mg_X3_floatX hbx) (by decide))) (by decide) (by decide)) (by decide)) (by decide) (by decide)) (by decide)) ?_
  refine lv_topf (fun y9 ey9 => ?_)
  refine lv_fstore (lv' := [(13, .float y9), (12, .float y8), (11, .float y7), (10, .float y6), (9, .float y5), (8, .float y4), (7, .float y3), (6, .float y2), (5, .float y1), (0, .ref (a 4)), (1, .int p1), (2, .int p2), (3, .int p3), (4, .int p4)]) hx hb dX3_decidesRing_157 hl (by decide) rfl (fun ls hl => ?_)
  refine lv_aload_n hx hb dX3_decidesRing_159 rfl (lv_at hl 9 rfl) ?_
  refine lv_iload_n hx hb dX3_decidesRing_160 rfl (lv_at hl 10 rfl) ?_
  refine cp_f (va_runV (As := [.int p1]) (rest := []) ⟨hx, hb, hml, hown, hts⟩ (c_X3_reach l dC dI a cI cJ xs ys pl kp lp lq lr v0 v1 v2 v3 v4 v5 v6 v7 v8 v9 v10 p1 (by first | with_reducible assumption | exact in0_24 | exact in0_60 | decide) (by first | with_reducible assumption | exact in0_24 | exact in0_60 | decide) (by first | with_reducible assumption | exact in0_24 | exact in0_60 | decide)) (cwV 1 hts (gG_V mG_10_20 mG_10_21 mG_10_22 mG_1_20 (gG_c mG_10_23 gG_G)) rfl rfl rfl hd_X3_reach ⟨Nat.le_of_ble_eq_true rfl, Nat.le_of_ble_eq_true rfl⟩) (pPcV (ci := 7) (q0 := 4) hK hP rfl rfl) rfl rfl hl.1 rfl (lv_room (Nat.le_of_ble_eq_true rfl)) dX3_decidesRing_161 ⟨Nat.le_of_ble_eq_true rfl, Nat.le_of_ble_eq_true rfl⟩) hP hS (fun H hP hS => ?_)
  refine lv_aload_n hx hb dX3_decidesRing_164 rfl (lv_at hl 9 rfl) ?_
  refine lv_iload_n hx hb dX3_decidesRing_165 rfl (lv_at hl 11 rfl) ?_
  refine cp_f (va_runV (As := [.int p2]) (rest := [.float (f_X3_reach xs ys p1)]) ⟨hx, hb, hml, hown, hts⟩ (c_X3_reach l dC dI a cI cJ xs ys pl kp lp lq lr v0 v1 v2 v3 v4 v5 v6 v7 v8 v9 v10 p2 (by first | with_reducible assumption | exact in0_24 | exact in0_60 | decide) (by first | with_reducible assumption | exact in0_24 | exact in0_60 | decide) (by first | with_reducible assumption | exact in0_24 | exact in0_60 | decide)) (cwV 1 hts (gG_V mG_10_20 mG_10_21 mG_10_22 mG_1_20 (gG_c mG_10_23 gG_G)) rfl rfl rfl hd_X3_reach ⟨Nat.le_of_ble_eq_true rfl, Nat.le_of_ble_eq_true rfl⟩) (pPcV (ci := 7) (q0 := 4) hK hP rfl rfl) rfl rfl hl.1 rfl (lv_room (Nat.le_of_ble_eq_true rfl)) dX3_decidesRing_166 ⟨Nat.le_of_ble_eq_true rfl, Nat.le_of_ble_eq_true rfl⟩) hP hS (fun H hP hS => ?_)
  refine cp_f (va_runS (As := [.float (f_X3_reach xs ys p1), .float (f_X3_reach xs ys p2)]) (rest := []) ⟨hx, hb, hml, hown, hts⟩ (c_X3_greater l (f_X3_reach xs ys p1) (f_X3_reach xs ys p2) ) (va_cwS 2 hts (gG_S mG_11_3 mG_11_4 mG_1_20 (gG_c mG_11_5 gG_G)) rfl rfl rfl hs_X3_greater ⟨Nat.le_of_ble_eq_true rfl, Nat.le_of_ble_eq_true rfl⟩) nPcS rfl rfl hl.1 rfl (lv_room (Nat.le_of_ble_eq_true rfl)) dX3_decidesRing_169 ⟨Nat.le_of_ble_eq_true rfl, Nat.le_of_ble_eq_true rfl⟩) hP hS (fun H hP hS => ?_)
  refine lv_aload_n hx hb dX3_decidesRing_172 rfl (lv_at hl 9 rfl) ?_
  refine lv_iload_n hx hb dX3_decidesRing_173 rfl (lv_at hl 12 rfl) ?_
  refine cp_f (va_runV (As := [.int p3]) (rest := [.float (f_X3_greater (f_X3_reach xs ys p1) (f_X3_reach xs ys p2))]) ⟨hx, hb, hml, hown, hts⟩ (c_X3_reach l dC dI a cI cJ xs ys pl kp lp lq lr v0 v1 v2 v3 v4 v5 v6 v7 v8 v9 v10 p3 (by first | with_reducible assumption | exact in0_24 | exact in0_60 | decide) (by first | with_reducible assumption | exact in0_24 | exact in0_60 | decide) (by first | with_reducible assumption | exact in0_24 | exact in0_60 | decide)) (cwV 1 hts (gG_V mG_10_20 mG_10_21 mG_10_22 mG_1_20 (gG_c mG_10_23 gG_G)) rfl rfl rfl hd_X3_reach ⟨Nat.le_of_ble_eq_true rfl, Nat.le_of_ble_eq_true rfl⟩) (pPcV (ci := 7) (q0 := 4) hK hP rfl rfl) rfl rfl hl.1 rfl (lv_room (Nat.le_of_ble_eq_true rfl)) dX3_decidesRing_174 ⟨Nat.le_of_ble_eq_true rfl, Nat.le_of_ble_eq_true rfl⟩) hP hS (fun H hP hS => ?_)
  refine lv_aload_n hx hb dX3_decidesRing_177 rfl (lv_at hl 9 rfl) ?_
  refine lv_iload hx hb dX3_decidesRing_178 (lv_at hl 13 rfl) ?_
  refine cp_f (va_runV (As := [.int p4]) (rest := [.float (f_X3_reach xs ys p3), .float (f_X3_greater (f_X3_reach xs ys p1) (f_X3_reach xs ys p2))]) ⟨hx, hb, hml, hown, hts⟩ (c_X3_reach l dC dI a cI cJ xs ys pl kp lp lq lr v0 v1 v2 v3 v4 v5 v6 v7 v8 v9 v10 p4 (by first | with_reducible assumption | exact in0_24 | exact in0_60 | decide) (by first | with_reducible assumption | exact in0_24 | exact in0_60 | decide) (by first | with_reducible assumption | exact in0_24 | exact in0_60 | decide)) (cwV 1 hts (gG_V mG_10_20 mG_10_21 mG_10_22 mG_1_20 (gG_c mG_10_23 gG_G)) rfl rfl rfl hd_X3_reach ⟨Nat.le_of_ble_eq_true rfl, Nat.le_of_ble_eq_true rfl⟩) (pPcV (ci := 7) (q0 := 4) hK hP rfl rfl) rfl rfl hl.1 rfl (lv_room (Nat.le_of_ble_eq_true rfl)) dX3_decidesRing_180 ⟨Nat.le_of_ble_eq_true rfl, Nat.le_of_ble_eq_true rfl⟩) hP hS (fun H hP hS => ?_)
  refine cp_f (va_runS (As := [.float (f_X3_reach xs ys p3), .float (f_X3_reach xs ys p4)]) (rest := [.float (f_X3_greater (f_X3_reach xs ys p1) (f_X3_reach xs ys p2))]) ⟨hx, hb, hml, hown, hts⟩ (c_X3_greater l (f_X3_reach xs ys p3) (f_X3_reach xs ys p4) ) (va_cwS 2 hts (gG_S mG_11_3 mG_11_4 mG_1_20 (gG_c mG_11_5 gG_G)) rfl rfl rfl hs_X3_greater ⟨Nat.le_of_ble_eq_true rfl, Nat.le_of_ble_eq_true rfl⟩) nPcS rfl rfl hl.1 rfl (lv_room (Nat.le_of_ble_eq_true rfl)) dX3_decidesRing_183 ⟨Nat.le_of_ble_eq_true rfl, Nat.le_of_ble_eq_true rfl⟩) hP hS (fun H hP hS => ?_)
  refine cp_f (va_runS (As := [.float (f_X3_greater (f_X3_reach xs ys p1) (f_X3_reach xs ys p2)), .float (f_X3_greater (f_X3_reach xs ys p3) (f_X3_reach xs ys p4))]) (rest := []) ⟨hx, hb, hml, hown, hts⟩ (c_X3_greater l (f_X3_greater (f_X3_reach xs ys p1) (f_X3_reach xs ys p2)) (f_X3_greater (f_X3_reach xs ys p3) (f_X3_reach xs ys p4)) ) (va_cwS 2 hts (gG_S mG_11_3 mG_11_4 mG_1_20 (gG_c mG_11_5 gG_G)) rfl rfl rfl hs_X3_greater ⟨Nat.le_of_ble_eq_true rfl, Nat.le_of_ble_eq_true rfl⟩) nPcS rfl rfl hl.1 rfl (lv_room (Nat.le_of_ble_eq_true rfl)) dX3_decidesRing_186 ⟨Nat.le_of_ble_eq_true rfl, Nat.le_of_ble_eq_true rfl⟩) hP hS (fun H hP hS => ?_)
  refine lv_topf (fun y10 ey10 => ?_)
  refine lv_fstore (lv' := [(14, .float y10), (13, .float y9), (12, .float y8), (11, .float y7), (10, .float y6), (9, .float y5), (8, .float y4), (7, .float y3), (6, .float y2), (5, .float y1), (0, .ref (a 4)), (1, .int p1), (2, .int p2), (3, .int p3), (4, .int p4)]) hx hb dX3_decidesRing_189 hl (by decide) rfl (fun ls hl => ?_)
  refine lv_fload hx hb dX3_decidesRing_191 (lv_at hl 0 rfl) ?_
  refine lv_fload hx hb dX3_decidesRing_193 (lv_at hl 0 rfl) ?_
  refine lv_fmul hx hb dX3_decidesRing_195 (mg_nn (mg_mul (mg_eq ey10 (mg_X3_greater (mg_X3_greater (mg_X3_reach hbx hby) (mg_X3_reach hbx hby)) (mg_X3_greater (mg_X3_reach hbx hby) (mg_X3_reach hbx hby)))) (mg_eq ey10 (mg_X3_greater (mg_X3_greater (mg_X3_reach hbx hby) (mg_X3_reach hbx hby)) (mg_X3_greater (mg_X3_reach hbx hby) (mg_X3_reach hbx hby)))) (by decide) (by decide)) (by decide)) ?_
  refine lv_fload hx hb dX3_decidesRing_196 (lv_at hl 0 rfl) ?_
  refine lv_fload hx hb dX3_decidesRing_198 (lv_at hl 0 rfl) ?_
  refine lv_fmul hx hb dX3_decidesRing_200 (mg_nn (mg_mul (mg_eq ey10 (mg_X3_greater (mg_X3_greater (mg_X3_reach hbx hby) (mg_X3_reach hbx hby)) (mg_X3_greater (mg_X3_reach hbx hby) (mg_X3_reach hbx hby)))) (mg_eq ey10 (mg_X3_greater (mg_X3_greater (mg_X3_reach hbx hby) (mg_X3_reach hbx hby)) (mg_X3_greater (mg_X3_reach hbx hby) (mg_X3_reach hbx hby)))) (by decide) (by decide)) (by decide)) ?_
  refine lv_fmul hx hb dX3_decidesRing_201 (mg_nn (mg_mul (mg_mul (mg_eq ey10 (mg_X3_greater (mg_X3_greater (mg_X3_reach hbx hby) (mg_X3_reach hbx hby)) (mg_X3_greater (mg_X3_reach hbx hby) (mg_X3_reach hbx hby)))) (mg_eq ey10 (mg_X3_greater (mg_X3_greater (mg_X3_reach hbx hby) (mg_X3_reach hbx hby)) (mg_X3_greater (mg_X3_reach hbx hby) (mg_X3_reach hbx hby)))) (by decide) (by decide)) (mg_mul (mg_eq ey10 (mg_X3_greater (mg_X3_greater (mg_X3_reach hbx hby) (mg_X3_reach hbx hby)) (mg_X3_greater (mg_X3_reach hbx hby) (mg_X3_reach hbx hby)))) (mg_eq ey10 (mg_X3_greater (mg_X3_greater (mg_X3_reach hbx hby) (mg_X3_reach hbx hby)) (mg_X3_greater (mg_X3_reach hbx hby) (mg_X3_reach hbx hby)))) (by decide) (by decide)) (by decide) (by decide)) (by decide)) ?_
  refine lv_ldcf hx hb hown (hts _ mG_14_2) dX3_decidesRing_202 ?_
  refine lv_fmul hx hb dX3_decidesRing_204 (mg_nn (mg_mul (mg_mul (mg_mul (mg_eq ey10 (mg_X3_greater (mg_X3_greater (mg_X3_reach hbx hby) (mg_X3_reach hbx hby)) (mg_X3_greater (mg_X3_reach hbx hby) (mg_X3_reach hbx hby)))) (mg_eq ey10 (mg_X3_greater (mg_X3_greater (mg_X3_reach hbx hby) (mg_X3_reach hbx hby)) (mg_X3_greater (mg_X3_reach hbx hby) (mg_X3_reach hbx hby)))) (by decide) (by decide)) (mg_mul (mg_eq ey10 (mg_X3_greater (mg_X3_greater (mg_X3_reach hbx hby) (mg_X3_reach hbx hby)) (mg_X3_greater (mg_X3_reach hbx hby) (mg_X3_reach hbx hby)))) (mg_eq ey10 (mg_X3_greater (mg_X3_greater (mg_X3_reach hbx hby) (mg_X3_reach hbx hby)) (mg_X3_greater (mg_X3_reach hbx hby) (mg_X3_reach hbx hby)))) (by decide) (by decide)) (by decide) (by decide)) mg_c2 (by decide) (by decide)) (by decide)) ?_
  refine lv_topf (fun y11 ey11 => ?_)
  refine lv_fstore (lv' := [(15, .float y11), (14, .float y10), (13, .float y9), (12, .float y8), (11, .float y7), (10, .float y6), (9, .float y5), (8, .float y4), (7, .float y3), (6, .float y2), (5, .float y1), (0, .ref (a 4)), (1, .int p1), (2, .int p2), (3, .int p3), (4, .int p4)]) hx hb dX3_decidesRing_205 hl (by decide) rfl (fun ls hl => ?_)
  refine lv_fload hx hb dX3_decidesRing_207 (lv_at hl 4 rfl) ?_
  refine lv_fload hx hb dX3_decidesRing_209 (lv_at hl 3 rfl) ?_
  refine lv_fadd hx hb dX3_decidesRing_211 (mg_nn (mg_add (mg_eq ey7 (mg_mul (mg_add (mg_mul (mg_eq ey1 (mg_sub (mg_X3_floatX hbx) (mg_X3_floatX hbx) (by decide))) (mg_eq ey1 (mg_sub (mg_X3_floatX hbx) (mg_X3_floatX hbx) (by decide))) (by decide) (by decide)) (mg_mul (mg_eq ey2 (mg_sub (mg_X3_floatY hby) (mg_X3_floatY hby) (by decide))) (mg_eq ey2 (mg_sub (mg_X3_floatY hby) (mg_X3_floatY hby) (by decide))) (by decide) (by decide)) (by decide)) (mg_sub (mg_mul (mg_eq ey3 (mg_sub (mg_X3_floatX hbx) (mg_X3_floatX hbx) (by decide))) (mg_eq ey6 (mg_sub (mg_X3_floatY hby) (mg_X3_floatY hby) (by decide))) (by decide) (by decide)) (mg_mul (mg_eq ey4 (mg_sub (mg_X3_floatY hby) (mg_X3_floatY hby) (by decide))) (mg_eq ey5 (mg_sub (mg_X3_floatX hbx) (mg_X3_floatX hbx) (by decide))) (by decide) (by decide)) (by decide)) (by decide) (by decide))) (mg_eq ey8 (mg_mul (mg_add (mg_mul (mg_eq ey3 (mg_sub (mg_X3_floatX hbx) (mg_X3_floatX hbx) (by decide))) (mg_eq ey3 (mg_sub (mg_X3_floatX hbx) (mg_X3_floatX hbx) (by decide))) (by decide) (by decide)) (mg_mul (mg_eq ey4 (mg_sub (mg_X3_floatY hby) (mg_X3_floatY hby) (by decide))) (mg_eq ey4 (mg_sub (mg_X3_floatY hby) (mg_X3_floatY hby) (by decide))) (by decide) (by decide)) (by decide)) (mg_sub (mg_mul (mg_eq ey5 (mg_sub (mg_X3_floatX hbx) (mg_X3_floatX hbx) (by decide))) (mg_eq ey2 (mg_sub (mg_X3_floatY hby) (mg_X3_floatY hby) (by decide))) (by decide) (by decide)) (mg_mul (mg_eq ey6 (mg_sub (mg_X3_floatY hby) (mg_X3_floatY hby) (by decide))) (mg_eq ey1 (mg_sub (mg_X3_floatX hbx) (mg_X3_floatX hbx) (by decide))) (by decide) (by decide)) (by decide)) (by decide) (by decide))) (by decide)) (by decide)) ?_
  refine lv_fload hx hb dX3_decidesRing_212 (lv_at hl 2 rfl) ?_
  refine lv_fadd hx hb dX3_decidesRing_214 (mg_nn (mg_add (mg_add (mg_eq ey7 (mg_mul (mg_add (mg_mul (mg_eq ey1 (mg_sub (mg_X3_floatX hbx) (mg_X3_floatX hbx) (by decide))) (mg_eq ey1 (mg_sub (mg_X3_floatX hbx) (mg_X3_floatX hbx) (by decide))) (by decide) (by decide)) (mg_mul (mg_eq ey2 (mg_sub (mg_X3_floatY hby) (mg_X3_floatY hby) (by decide))) (mg_eq ey2 (mg_sub (mg_X3_floatY hby) (mg_X3_floatY hby) (by decide))) (by decide) (by decide)) (by decide)) (mg_sub (mg_mul (mg_eq ey3 (mg_sub (mg_X3_floatX hbx) (mg_X3_floatX hbx) (by decide))) (mg_eq ey6 (mg_sub (mg_X3_floatY hby) (mg_X3_floatY hby) (by decide))) (by decide) (by decide)) (mg_mul (mg_eq ey4 (mg_sub (mg_X3_floatY hby) (mg_X3_floatY hby) (by decide))) (mg_eq ey5 (mg_sub (mg_X3_floatX hbx) (mg_X3_floatX hbx) (by decide))) (by decide) (by decide)) (by decide)) (by decide) (by decide))) (mg_eq ey8 (mg_mul (mg_add (mg_mul (mg_eq ey3 (mg_sub (mg_X3_floatX hbx) (mg_X3_floatX hbx) (by decide))) (mg_eq ey3 (mg_sub (mg_X3_floatX hbx) (mg_X3_floatX hbx) (by decide))) (by decide) (by decide)) (mg_mul (mg_eq ey4 (mg_sub (mg_X3_floatY hby) (mg_X3_floatY hby) (by decide))) (mg_eq ey4 (mg_sub (mg_X3_floatY hby) (mg_X3_floatY hby) (by decide))) (by decide) (by decide)) (by decide)) (mg_sub (mg_mul (mg_eq ey5 (mg_sub (mg_X3_floatX hbx) (mg_X3_floatX hbx) (by decide))) (mg_eq ey2 (mg_sub (mg_X3_floatY hby) (mg_X3_floatY hby) (by decide))) (by decide) (by decide)) (mg_mul (mg_eq ey6 (mg_sub (mg_X3_floatY hby) (mg_X3_floatY hby) (by decide))) (mg_eq ey1 (mg_sub (mg_X3_floatX hbx) (mg_X3_floatX hbx) (by decide))) (by decide) (by decide)) (by decide)) (by decide) (by decide))) (by decide)) (mg_up (mg_eq ey9 (mg_mul (mg_add (mg_mul (mg_eq ey5 (mg_sub (mg_X3_floatX hbx) (mg_X3_floatX hbx) (by decide))) (mg_eq ey5 (mg_sub (mg_X3_floatX hbx) (mg_X3_floatX hbx) (by decide))) (by decide) (by decide)) (mg_mul (mg_eq ey6 (mg_sub (mg_X3_floatY hby) (mg_X3_floatY hby) (by decide))) (mg_eq ey6 (mg_sub (mg_X3_floatY hby) (mg_X3_floatY hby) (by decide))) (by decide) (by decide)) (by decide)) (mg_sub (mg_mul (mg_eq ey1 (mg_sub (mg_X3_floatX hbx) (mg_X3_floatX hbx) (by decide))) (mg_eq ey4 (mg_sub (mg_X3_floatY hby) (mg_X3_floatY hby) (by decide))) (by decide) (by decide)) (mg_mul (mg_eq ey2 (mg_sub (mg_X3_floatY hby) (mg_X3_floatY hby) (by decide))) (mg_eq ey3 (mg_sub (mg_X3_floatX hbx) (mg_X3_floatX hbx) (by decide))) (by decide) (by decide)) (by decide)) (by decide) (by decide))) (by decide)) (by decide)) (by decide)) ?_
  refine cp_f (va_runS (As := [.float (FP.fadd (FP.fadd y7 y8) y9)]) (rest := []) ⟨hx, hb, hml, hown, hts⟩ (c_X3_unsigned l (FP.fadd (FP.fadd y7 y8) y9) ) (va_cwS 1 hts (gG_S mG_11_0 mG_11_1 mG_1_20 (gG_c mG_11_2 gG_G)) rfl rfl rfl hs_X3_unsigned ⟨Nat.le_of_ble_eq_true rfl, Nat.le_of_ble_eq_true rfl⟩) nPcS rfl rfl hl.1 rfl (lv_room (Nat.le_of_ble_eq_true rfl)) dX3_decidesRing_215 ⟨Nat.le_of_ble_eq_true rfl, Nat.le_of_ble_eq_true rfl⟩) hP hS (fun H hP hS => ?_)
  refine lv_fload hx hb dX3_decidesRing_218 (lv_at hl 0 rfl) ?_
  refine lv_fcmp hx hb dX3_decidesRing_220 ?_
  refine lv_if_le (tgt := 228) hx hb dX3_decidesRing_221 (by decide) (fun c12 => ?_) (fun c12 => ?_)
  · skip
    refine lv_iconst (v := (0 : Int32)) hx hb dX3_decidesRing_228 (by decide) ?_
    exact rp_z hQ hx hb hr hlk hS (Eq.symm (by subst ey1; subst ey2; subst ey3; subst ey4; subst ey5; subst ey6; subst ey7; subst ey8; subst ey9; subst ey10; subst ey11; simp only [f_X3_decidesRing, if_pos c12])) (by decide) dX3_decidesRing_229
  · skip
    refine lv_iconst (v := (1 : Int32)) hx hb dX3_decidesRing_224 (by decide) ?_
    refine lv_goto (tgt := 229) hx hb dX3_decidesRing_225 (by decide) ?_
    exact rp_z hQ hx hb hr hlk hS (Eq.symm (by subst ey1; subst ey2; subst ey3; subst ey4; subst ey5; subst ey6; subst ey7; subst ey8; subst ey9; subst ey10; subst ey11; simp only [f_X3_decidesRing, if_neg c12])) (by decide) dX3_decidesRing_229
/-! X5_side -/
theorem hs_X5_side : yX5_side.cls ≠ "java/lang/invoke/MethodHandle" ∧ yX5_side.cls ≠ "java/lang/invoke/VarHandle" ∧ (parseMethodDescriptor yX5_side.desc).map (fun d => d.parameters.length) = some 3 := by decide +kernel
theorem hd_X5_side : yX5_side.cls = RX5 ∧ yX5_side.cls ≠ "java/lang/invoke/MethodHandle" ∧ yX5_side.cls ≠ "java/lang/invoke/VarHandle" ∧ (parseMethodDescriptor yX5_side.desc).map (fun d => d.parameters.length) = some 3 := ⟨rfl, hs_X5_side⟩
def f_X5_side (xs : Nat → Int32) (ys : Nat → Int32) (v0 : Int32) (v1 : Int32) (v2 : Int32) (v3 : Int32) (v4 : Int32) (p1 : Int32) (p2 : Int32) (p3 : Int32) : Int32 × Int32 × Int32 × Int32 := (if (f_X2_hasAll v0 p1 p2 p3) = 0 then ((-2 : Int32), v2, v3, v4) else (if (f_X2_equal xs ys p1 p2) = 0 then (((f_X3_note v1 v2 v3 v4 (f_X3_decidesTurn xs ys p1 p2 p3) (f_X2_turn xs ys p1 p2 p3)).1), ((f_X3_note v1 v2 v3 v4 (f_X3_decidesTurn xs ys p1 p2 p3) (f_X2_turn xs ys p1 p2 p3)).2.1), ((f_X3_note v1 v2 v3 v4 (f_X3_decidesTurn xs ys p1 p2 p3) (f_X2_turn xs ys p1 p2 p3)).2.2.1), ((f_X3_note v1 v2 v3 v4 (f_X3_decidesTurn xs ys p1 p2 p3) (f_X2_turn xs ys p1 p2 p3)).2.2.2)) else ((-4 : Int32), v2, v3, v4)))
abbrev rm_X5_side : Room := { frames := 3, cells := 0, slots := 0, locals := 71 }
set_option maxHeartbeats 8000000 in
set_option maxRecDepth 100000 in
theorem c_X5_side (l : Launch) (dC : Nat → ClassId) (dI : Nat → Nat → Nat) (a : Nat → Nat) (cI cJ : ClassId) (xs : Nat → Int32) (ys : Nat → Int32) (pl : Nat → Int32) (kp : Nat → Int32) (lp : Nat → Int64) (lq : Nat → Int64) (lr : Nat → Int64) (v0 : Int32) (v1 : Int32) (v2 : Int32) (v3 : Int32) (v4 : Int32) (v5 : Int32) (v6 : Int32) (v7 : Int32) (v8 : Int32) (v9 : Int32) (v10 : Int32) (p1 : Int32) (p2 : Int32) (p3 : Int32) (hv0 : v0 ≤ 60) (hbx : ∀ j : Nat, (xs j).toInt.natAbs ≤ 16384) (hby : ∀ j : Nat, (ys j).toInt.natAbs ≤ 16384) : Met l yX5_side (Cond.code yX5_side cX5_side 4 (some .int) :: lw_G) rm_X5_side (wPc (dC, dI) (tIJ cI cJ) (wC a cI cJ xs ys pl kp lp lq lr v0 v1 v2 v3 v4 v5 v6 v7 v8 v9 v10) [.ref (a 0), .int p1, .int p2, .int p3]) (wQi (dC, dI) (wA (wC a cI cJ xs ys pl kp lp lq lr v0 v1 v2 v3 v4 v5 v6 v7 v8 v9 v10)) (wC a cI cJ xs ys pl kp lp lq lr v0 v1 ((f_X5_side xs ys v0 v1 v2 v3 v4 p1 p2 p3).2.1) ((f_X5_side xs ys v0 v1 v2 v3 v4 p1 p2 p3).2.2.1) ((f_X5_side xs ys v0 v1 v2 v3 v4 p1 p2 p3).2.2.2) v5 v6 v7 v8 v9 v10) (f_X5_side xs ys v0 v1 v2 v3 v4 p1 p2 p3).1) 0 0 (wA (wC a cI cJ xs ys pl kp lp lq lr v0 v1 v2 v3 v4 v5 v6 v7 v8 v9 v10)) := by
  refine wm_of (by decide) (Nat.le_of_ble_eq_true rfl) ?_
  intro p e s m args below meth c Q ls hQ hx hb hr hlk hml hown hts hP hK hD hS hl
  have hown : s.vm.findClass RX5 = some m.cls := hown
  have hl : lv_has ls 4 [(0, .ref (a 0)), (1, .int p1), (2, .int p2), (3, .int p3)] := hl
  generalize hAe : wA (wC a cI cJ xs ys pl kp lp lq lr v0 v1 v2 v3 v4 v5 v6 v7 v8 v9 v10) = A at hQ hD hS
  refine lv_aload_n hx hb dX5_side_0 rfl (lv_at hl 0 rfl) ?_
  refine va_get (D := (dC, dI)) (ci := 9) (v := .ref (a 1)) (C := RX5) (T := TX5) (N := 5) hx hb hts (fun _ h => gI_wsX50 h) hown hK.1 hP 0 rfl rfl 0 (by decide) (hts _ mG_1_17) (fun _ h9 => h9) rfl dX5_side_1 ?_
  refine lv_iload_n hx hb dX5_side_4 rfl (lv_at hl 1 rfl) ?_
  refine lv_iload_n hx hb dX5_side_5 rfl (lv_at hl 2 rfl) ?_
  refine lv_iload_n hx hb dX5_side_6 rfl (lv_at hl 3 rfl) ?_
  refine cp_i (va_runV (As := [.int p1, .int p2, .int p3]) (rest := []) ⟨hx, hb, hml, hown, hts⟩ (c_X2_hasAll l dC dI a cI cJ xs ys pl kp lp lq lr v0 v1 v2 v3 v4 v5 v6 v7 v8 v9 v10 p1 p2 p3 ) (cwV 3 hts (gG_V mG_9_11 mG_9_12 mG_9_13 mG_1_16 (gG_c mG_9_14 gG_G)) rfl rfl rfl hd_X2_hasAll ⟨Nat.le_of_ble_eq_true rfl, Nat.le_of_ble_eq_true rfl⟩) (pPcV (ci := 6) (q0 := 1) hK hP rfl rfl) rfl rfl hl.1 rfl (lv_room (Nat.le_of_ble_eq_true rfl)) dX5_side_7 ⟨Nat.le_of_ble_eq_true rfl, Nat.le_of_ble_eq_true rfl⟩) hP hS (fun H hP hS => ?_)
  refine lv_if_ne (tgt := 16) hx hb dX5_side_10 (by decide) (fun c1 => ?_) (fun c1 => ?_)
  · skip
    obtain ⟨hi1, hi2, hi3⟩ := in_hasAll hv0 c1
    refine lv_aload_n hx hb dX5_side_16 rfl (lv_at hl 0 rfl) ?_
    refine va_get (D := (dC, dI)) (ci := 9) (v := .ref (a 1)) (C := RX5) (T := TX5) (N := 5) hx hb hts (fun _ h => gI_wsX50 h) hown hK.1 hP 0 rfl rfl 0 (by decide) (hts _ mG_1_17) (fun _ h9 => h9) rfl dX5_side_17 ?_
    refine lv_iload_n hx hb dX5_side_20 rfl (lv_at hl 1 rfl) ?_
    refine lv_iload_n hx hb dX5_side_21 rfl (lv_at hl 2 rfl) ?_
    refine cp_i (va_runV (As := [.int p1, .int p2]) (rest := []) ⟨hx, hb, hml, hown, hts⟩ (c_X2_equal l dC dI a cI cJ xs ys pl kp lp lq lr v0 v1 v2 v3 v4 v5 v6 v7 v8 v9 v10 p1 p2 (by first | with_reducible assumption | exact in0_24 | exact in0_60 | decide) (by first | with_reducible assumption | exact in0_24 | exact in0_60 | decide)) (cwV 2 hts (gG_V mG_9_16 mG_9_17 mG_9_18 mG_1_16 (gG_c mG_9_19 gG_G)) rfl rfl rfl hd_X2_equal ⟨Nat.le_of_ble_eq_true rfl, Nat.le_of_ble_eq_true rfl⟩) (pPcV (ci := 6) (q0 := 1) hK hP rfl rfl) rfl rfl hl.1 rfl (lv_room (Nat.le_of_ble_eq_true rfl)) dX5_side_22 ⟨Nat.le_of_ble_eq_true rfl, Nat.le_of_ble_eq_true rfl⟩) hP hS (fun H hP hS => ?_)
    refine lv_if_eq (tgt := 31) hx hb dX5_side_25 (by decide) (fun c2 => ?_) (fun c2 => ?_)
    · skip
      refine lv_aload_n hx hb dX5_side_31 rfl (lv_at hl 0 rfl) ?_
      refine va_get (D := (dC, dI)) (ci := 9) (v := .ref (a 4)) (C := RX5) (T := TX5) (N := 5) hx hb hts (fun _ h => gI_wsX50 h) hown hK.1 hP 0 rfl rfl 1 (by decide) (hts _ mG_1_21) (fun _ h9 => h9) rfl dX5_side_32 ?_
      refine lv_aload_n hx hb dX5_side_35 rfl (lv_at hl 0 rfl) ?_
      refine va_get (D := (dC, dI)) (ci := 9) (v := .ref (a 4)) (C := RX5) (T := TX5) (N := 5) hx hb hts (fun _ h => gI_wsX50 h) hown hK.1 hP 0 rfl rfl 1 (by decide) (hts _ mG_1_21) (fun _ h9 => h9) rfl dX5_side_36 ?_
      refine lv_iload_n hx hb dX5_side_39 rfl (lv_at hl 1 rfl) ?_
      refine lv_iload_n hx hb dX5_side_40 rfl (lv_at hl 2 rfl) ?_
      refine lv_iload_n hx hb dX5_side_41 rfl (lv_at hl 3 rfl) ?_
      refine cp_i (va_runV (As := [.int p1, .int p2, .int p3]) (rest := [.ref (a 4)]) ⟨hx, hb, hml, hown, hts⟩ (c_X3_decidesTurn l dC dI a cI cJ xs ys pl kp lp lq lr v0 v1 v2 v3 v4 v5 v6 v7 v8 v9 v10 p1 p2 p3 (by first | with_reducible assumption | exact in0_24 | exact in0_60 | decide) (by first | with_reducible assumption | exact in0_24 | exact in0_60 | decide) (by first | with_reducible assumption | exact in0_24 | exact in0_60 | decide) (by first | with_reducible assumption | exact in0_24 | exact in0_60 | decide) (by first | with_reducible assumption | exact in0_24 | exact in0_60 | decide)) (cwV 3 hts (gG_V mG_10_4 mG_10_5 mG_10_6 mG_1_20 (gG_c mG_10_7 gG_G)) rfl rfl rfl hd_X3_decidesTurn ⟨Nat.le_of_ble_eq_true rfl, Nat.le_of_ble_eq_true rfl⟩) (pPcV (ci := 7) (q0 := 4) hK hP rfl rfl) rfl rfl hl.1 rfl (lv_room (Nat.le_of_ble_eq_true rfl)) dX5_side_42 ⟨Nat.le_of_ble_eq_true rfl, Nat.le_of_ble_eq_true rfl⟩) hP hS (fun H hP hS => ?_)
      refine lv_aload_n hx hb dX5_side_45 rfl (lv_at hl 0 rfl) ?_
      refine va_get (D := (dC, dI)) (ci := 9) (v := .ref (a 1)) (C := RX5) (T := TX5) (N := 5) hx hb hts (fun _ h => gI_wsX50 h) hown hK.1 hP 0 rfl rfl 0 (by decide) (hts _ mG_1_17) (fun _ h9 => h9) rfl dX5_side_46 ?_
      refine lv_iload_n hx hb dX5_side_49 rfl (lv_at hl 1 rfl) ?_
      refine lv_iload_n hx hb dX5_side_50 rfl (lv_at hl 2 rfl) ?_
      refine lv_iload_n hx hb dX5_side_51 rfl (lv_at hl 3 rfl) ?_
      refine cp_i (va_runV (As := [.int p1, .int p2, .int p3]) (rest := [.int (f_X3_decidesTurn xs ys p1 p2 p3), .ref (a 4)]) ⟨hx, hb, hml, hown, hts⟩ (c_X2_turn l dC dI a cI cJ xs ys pl kp lp lq lr v0 v1 v2 v3 v4 v5 v6 v7 v8 v9 v10 p1 p2 p3 (by first | with_reducible assumption | exact in0_24 | exact in0_60 | decide) (by first | with_reducible assumption | exact in0_24 | exact in0_60 | decide) (by first | with_reducible assumption | exact in0_24 | exact in0_60 | decide)) (cwV 3 hts (gG_V mG_11_6 mG_11_7 mG_11_8 mG_1_16 (gG_c mG_11_9 gG_G)) rfl rfl rfl hd_X2_turn ⟨Nat.le_of_ble_eq_true rfl, Nat.le_of_ble_eq_true rfl⟩) (pPcV (ci := 6) (q0 := 1) hK hP rfl rfl) rfl rfl hl.1 rfl (lv_room (Nat.le_of_ble_eq_true rfl)) dX5_side_52 ⟨Nat.le_of_ble_eq_true rfl, Nat.le_of_ble_eq_true rfl⟩) hP hS (fun H hP hS => ?_)
      refine cw_i (va_runV (As := [.int (f_X3_decidesTurn xs ys p1 p2 p3), .int (f_X2_turn xs ys p1 p2 p3)]) (rest := []) ⟨hx, hb, hml, hown, hts⟩ (c_X3_note l dC dI a cI cJ xs ys pl kp lp lq lr v0 v1 v2 v3 v4 v5 v6 v7 v8 v9 v10 (f_X3_decidesTurn xs ys p1 p2 p3) (f_X2_turn xs ys p1 p2 p3) ) (cwV 2 hts (gG_V mG_11_16 mG_11_17 mG_11_18 mG_1_20 (gG_c mG_11_19 gG_G)) rfl rfl rfl hd_X3_note ⟨Nat.le_of_ble_eq_true rfl, Nat.le_of_ble_eq_true rfl⟩) (wPcV (ci := 7) (q0 := 4) hK hP hD rfl rfl) rfl rfl hl.1 rfl (lv_room (Nat.le_of_ble_eq_true rfl)) dX5_side_55 ⟨Nat.le_of_ble_eq_true rfl, Nat.le_of_ble_eq_true rfl⟩) (wA.sub hD) hS (fun H locs hP hk1 hS => ?_)
      have hD := hD.addr (w1 := (wC a cI cJ xs ys pl kp lp lq lr v0 v1 ((f_X3_note v1 v2 v3 v4 (f_X3_decidesTurn xs ys p1 p2 p3) (f_X2_turn xs ys p1 p2 p3)).2.1) ((f_X3_note v1 v2 v3 v4 (f_X3_decidesTurn xs ys p1 p2 p3) (f_X2_turn xs ys p1 p2 p3)).2.2.1) ((f_X3_note v1 v2 v3 v4 (f_X3_decidesTurn xs ys p1 p2 p3) (f_X2_turn xs ys p1 p2 p3)).2.2.2) v5 v6 v7 v8 v9 v10)) rfl
      have hE : (f_X5_side xs ys v0 v1 v2 v3 v4 p1 p2 p3) = (((f_X3_note v1 v2 v3 v4 (f_X3_decidesTurn xs ys p1 p2 p3) (f_X2_turn xs ys p1 p2 p3)).1), ((f_X3_note v1 v2 v3 v4 (f_X3_decidesTurn xs ys p1 p2 p3) (f_X2_turn xs ys p1 p2 p3)).2.1), ((f_X3_note v1 v2 v3 v4 (f_X3_decidesTurn xs ys p1 p2 p3) (f_X2_turn xs ys p1 p2 p3)).2.2.1), ((f_X3_note v1 v2 v3 v4 (f_X3_decidesTurn xs ys p1 p2 p3) (f_X2_turn xs ys p1 p2 p3)).2.2.2)) := (by simp only [f_X5_side, if_neg c1, if_pos c2])
      exact rw_i hQ hx hb hr hlk (by rw [hE]; exact hP) hS (by rw [hE]) dX5_side_58
    · skip
      refine lv_bipush (v := (-4 : Int32)) hx hb dX5_side_28 (by decide) ?_
      have hE : (f_X5_side xs ys v0 v1 v2 v3 v4 p1 p2 p3) = ((-4 : Int32), v2, v3, v4) := (by simp only [f_X5_side, if_neg c1, if_neg c2])
      exact rw_i hQ hx hb hr hlk (by rw [hE]; exact hP) hS (by rw [hE]) dX5_side_30
  · skip
    refine lv_bipush (v := (-2 : Int32)) hx hb dX5_side_13 (by decide) ?_
    have hE : (f_X5_side xs ys v0 v1 v2 v3 v4 p1 p2 p3) = ((-2 : Int32), v2, v3, v4) := (by simp only [f_X5_side, if_pos c1])
    exact rw_i hQ hx hb hr hlk (by rw [hE]; exact hP) hS (by rw [hE]) dX5_side_15
/-! X5_circle -/
theorem hs_X5_circle : yX5_circle.cls ≠ "java/lang/invoke/MethodHandle" ∧ yX5_circle.cls ≠ "java/lang/invoke/VarHandle" ∧ (parseMethodDescriptor yX5_circle.desc).map (fun d => d.parameters.length) = some 4 := by decide +kernel
theorem hd_X5_circle : yX5_circle.cls = RX5 ∧ yX5_circle.cls ≠ "java/lang/invoke/MethodHandle" ∧ yX5_circle.cls ≠ "java/lang/invoke/VarHandle" ∧ (parseMethodDescriptor yX5_circle.desc).map (fun d => d.parameters.length) = some 4 := ⟨rfl, hs_X5_circle⟩
def f_X5_circle (xs : Nat → Int32) (ys : Nat → Int32) (v0 : Int32) (v1 : Int32) (v2 : Int32) (v3 : Int32) (v4 : Int32) (p1 : Int32) (p2 : Int32) (p3 : Int32) (p4 : Int32) : Int32 × Int32 × Int32 × Int32 := (if (f_X2_hasAll v0 p1 p2 p3) = 0 then ((-2 : Int32), v2, v3, v4) else (if (f_X2_has v0 p4) = 0 then ((-2 : Int32), v2, v3, v4) else (if (f_X2_turn xs ys p1 p2 p3) = 0 then ((-4 : Int32), v2, v3, v4) else (((f_X3_note v1 v2 v3 v4 (f_X3_decidesRing xs ys p1 p2 p3 p4) (f_X2_ring xs ys p1 p2 p3 p4)).1), ((f_X3_note v1 v2 v3 v4 (f_X3_decidesRing xs ys p1 p2 p3 p4) (f_X2_ring xs ys p1 p2 p3 p4)).2.1), ((f_X3_note v1 v2 v3 v4 (f_X3_decidesRing xs ys p1 p2 p3 p4) (f_X2_ring xs ys p1 p2 p3 p4)).2.2.1), ((f_X3_note v1 v2 v3 v4 (f_X3_decidesRing xs ys p1 p2 p3 p4) (f_X2_ring xs ys p1 p2 p3 p4)).2.2.2)))))
abbrev rm_X5_circle : Room := { frames := 4, cells := 0, slots := 0, locals := 109 }
set_option maxHeartbeats 8000000 in
set_option maxRecDepth 100000 in
theorem c_X5_circle (l : Launch) (dC : Nat → ClassId) (dI : Nat → Nat → Nat) (a : Nat → Nat) (cI cJ : ClassId) (xs : Nat → Int32) (ys : Nat → Int32) (pl : Nat → Int32) (kp : Nat → Int32) (lp : Nat → Int64) (lq : Nat → Int64) (lr : Nat → Int64) (v0 : Int32) (v1 : Int32) (v2 : Int32) (v3 : Int32) (v4 : Int32) (v5 : Int32) (v6 : Int32) (v7 : Int32) (v8 : Int32) (v9 : Int32) (v10 : Int32) (p1 : Int32) (p2 : Int32) (p3 : Int32) (p4 : Int32) (hv0 : v0 ≤ 60) (hbx : ∀ j : Nat, (xs j).toInt.natAbs ≤ 16384) (hby : ∀ j : Nat, (ys j).toInt.natAbs ≤ 16384) : Met l yX5_circle (Cond.code yX5_circle cX5_circle 5 (some .int) :: lw_G) rm_X5_circle (wPc (dC, dI) (tIJ cI cJ) (wC a cI cJ xs ys pl kp lp lq lr v0 v1 v2 v3 v4 v5 v6 v7 v8 v9 v10) [.ref (a 0), .int p1, .int p2, .int p3, .int p4]) (wQi (dC, dI) (wA (wC a cI cJ xs ys pl kp lp lq lr v0 v1 v2 v3 v4 v5 v6 v7 v8 v9 v10)) (wC a cI cJ xs ys pl kp lp lq lr v0 v1 ((f_X5_circle xs ys v0 v1 v2 v3 v4 p1 p2 p3 p4).2.1) ((f_X5_circle xs ys v0 v1 v2 v3 v4 p1 p2 p3 p4).2.2.1) ((f_X5_circle xs ys v0 v1 v2 v3 v4 p1 p2 p3 p4).2.2.2) v5 v6 v7 v8 v9 v10) (f_X5_circle xs ys v0 v1 v2 v3 v4 p1 p2 p3 p4).1) 0 0 (wA (wC a cI cJ xs ys pl kp lp lq lr v0 v1 v2 v3 v4 v5 v6 v7 v8 v9 v10)) := by
  refine wm_of (by decide) (Nat.le_of_ble_eq_true rfl) ?_
  intro p e s m args below meth c Q ls hQ hx hb hr hlk hml hown hts hP hK hD hS hl
  have hown : s.vm.findClass RX5 = some m.cls := hown
  have hl : lv_has ls 5 [(0, .ref (a 0)), (1, .int p1), (2, .int p2), (3, .int p3), (4, .int p4)] := hl
  generalize hAe : wA (wC a cI cJ xs ys pl kp lp lq lr v0 v1 v2 v3 v4 v5 v6 v7 v8 v9 v10) = A at hQ hD hS
  refine lv_aload_n hx hb dX5_circle_0 rfl (lv_at hl 0 rfl) ?_
  refine va_get (D := (dC, dI)) (ci := 9) (v := .ref (a 1)) (C := RX5) (T := TX5) (N := 5) hx hb hts (fun _ h => gI_wsX50 h) hown hK.1 hP 0 rfl rfl 0 (by decide) (hts _ mG_1_17) (fun _ h9 => h9) rfl dX5_circle_1 ?_
  refine lv_iload_n hx hb dX5_circle_4 rfl (lv_at hl 1 rfl) ?_
  refine lv_iload_n hx hb dX5_circle_5 rfl (lv_at hl 2 rfl) ?_
  refine lv_iload_n hx hb dX5_circle_6 rfl (lv_at hl 3 rfl) ?_
  refine cp_i (va_runV (As := [.int p1, .int p2, .int p3]) (rest := []) ⟨hx, hb, hml, hown, hts⟩ (c_X2_hasAll l dC dI a cI cJ xs ys pl kp lp lq lr v0 v1 v2 v3 v4 v5 v6 v7 v8 v9 v10 p1 p2 p3 ) (cwV 3 hts (gG_V mG_9_11 mG_9_12 mG_9_13 mG_1_16 (gG_c mG_9_14 gG_G)) rfl rfl rfl hd_X2_hasAll ⟨Nat.le_of_ble_eq_true rfl, Nat.le_of_ble_eq_true rfl⟩) (pPcV (ci := 6) (q0 := 1) hK hP rfl rfl) rfl rfl hl.1 rfl (lv_room (Nat.le_of_ble_eq_true rfl)) dX5_circle_7 ⟨Nat.le_of_ble_eq_true rfl, Nat.le_of_ble_eq_true rfl⟩) hP hS (fun H hP hS => ?_)
  refine lv_if_eq (tgt := 25) hx hb dX5_circle_10 (by decide) (fun c1 => ?_) (fun c1 => ?_)
  · skip
    refine lv_bipush (v := (-2 : Int32)) hx hb dX5_circle_25 (by decide) ?_
    have hE : (f_X5_circle xs ys v0 v1 v2 v3 v4 p1 p2 p3 p4) = ((-2 : Int32), v2, v3, v4) := (by simp only [f_X5_circle, if_pos c1])
    exact rw_i hQ hx hb hr hlk (by rw [hE]; exact hP) hS (by rw [hE]) dX5_circle_27
  · skip
    obtain ⟨hi1, hi2, hi3⟩ := in_hasAll hv0 c1
    refine lv_aload_n hx hb dX5_circle_13 rfl (lv_at hl 0 rfl) ?_
    refine va_get (D := (dC, dI)) (ci := 9) (v := .ref (a 1)) (C := RX5) (T := TX5) (N := 5) hx hb hts (fun _ h => gI_wsX50 h) hown hK.1 hP 0 rfl rfl 0 (by decide) (hts _ mG_1_17) (fun _ h9 => h9) rfl dX5_circle_14 ?_
    refine lv_iload hx hb dX5_circle_17 (lv_at hl 4 rfl) ?_
    refine cp_i (va_runV (As := [.int p4]) (rest := []) ⟨hx, hb, hml, hown, hts⟩ (c_X2_has l dC dI a cI cJ xs ys pl kp lp lq lr v0 v1 v2 v3 v4 v5 v6 v7 v8 v9 v10 p4 ) (cwV 1 hts (gG_V mG_7_13 mG_7_14 mG_7_15 mG_1_16 (gG_c mG_7_16 gG_G)) rfl rfl rfl hd_X2_has ⟨Nat.le_of_ble_eq_true rfl, Nat.le_of_ble_eq_true rfl⟩) (pPcV (ci := 6) (q0 := 1) hK hP rfl rfl) rfl rfl hl.1 rfl (lv_room (Nat.le_of_ble_eq_true rfl)) dX5_circle_19 ⟨Nat.le_of_ble_eq_true rfl, Nat.le_of_ble_eq_true rfl⟩) hP hS (fun H hP hS => ?_)
    refine lv_if_ne (tgt := 28) hx hb dX5_circle_22 (by decide) (fun c2 => ?_) (fun c2 => ?_)
    · skip
      have hi4 : vp_in p4 60 := in_has hv0 c2
      refine lv_aload_n hx hb dX5_circle_28 rfl (lv_at hl 0 rfl) ?_
      refine va_get (D := (dC, dI)) (ci := 9) (v := .ref (a 1)) (C := RX5) (T := TX5) (N := 5) hx hb hts (fun _ h => gI_wsX50 h) hown hK.1 hP 0 rfl rfl 0 (by decide) (hts _ mG_1_17) (fun _ h9 => h9) rfl dX5_circle_29 ?_
      refine lv_iload_n hx hb dX5_circle_32 rfl (lv_at hl 1 rfl) ?_
      refine lv_iload_n hx hb dX5_circle_33 rfl (lv_at hl 2 rfl) ?_
      refine lv_iload_n hx hb dX5_circle_34 rfl (lv_at hl 3 rfl) ?_
      refine cp_i (va_runV (As := [.int p1, .int p2, .int p3]) (rest := []) ⟨hx, hb, hml, hown, hts⟩ (c_X2_turn l dC dI a cI cJ xs ys pl kp lp lq lr v0 v1 v2 v3 v4 v5 v6 v7 v8 v9 v10 p1 p2 p3 (by first | with_reducible assumption | exact in0_24 | exact in0_60 | decide) (by first | with_reducible assumption | exact in0_24 | exact in0_60 | decide) (by first | with_reducible assumption | exact in0_24 | exact in0_60 | decide)) (cwV 3 hts (gG_V mG_11_6 mG_11_7 mG_11_8 mG_1_16 (gG_c mG_11_9 gG_G)) rfl rfl rfl hd_X2_turn ⟨Nat.le_of_ble_eq_true rfl, Nat.le_of_ble_eq_true rfl⟩) (pPcV (ci := 6) (q0 := 1) hK hP rfl rfl) rfl rfl hl.1 rfl (lv_room (Nat.le_of_ble_eq_true rfl)) dX5_circle_35 ⟨Nat.le_of_ble_eq_true rfl, Nat.le_of_ble_eq_true rfl⟩) hP hS (fun H hP hS => ?_)
      refine lv_if_ne (tgt := 44) hx hb dX5_circle_38 (by decide) (fun c3 => ?_) (fun c3 => ?_)
      · skip
        refine lv_aload_n hx hb dX5_circle_44 rfl (lv_at hl 0 rfl) ?_
        refine va_get (D := (dC, dI)) (ci := 9) (v := .ref (a 4)) (C := RX5) (T := TX5) (N := 5) hx hb hts (fun _ h => gI_wsX50 h) hown hK.1 hP 0 rfl rfl 1 (by decide) (hts _ mG_1_21) (fun _ h9 => h9) rfl dX5_circle_45 ?_
        refine lv_aload_n hx hb dX5_circle_48 rfl (lv_at hl 0 rfl) ?_
        refine va_get (D := (dC, dI)) (ci := 9) (v := .ref (a 4)) (C := RX5) (T := TX5) (N := 5) hx hb hts (fun _ h => gI_wsX50 h) hown hK.1 hP 0 rfl rfl 1 (by decide) (hts _ mG_1_21) (fun _ h9 => h9) rfl dX5_circle_49 ?_
        refine lv_iload_n hx hb dX5_circle_52 rfl (lv_at hl 1 rfl) ?_
        refine lv_iload_n hx hb dX5_circle_53 rfl (lv_at hl 2 rfl) ?_
        refine lv_iload_n hx hb dX5_circle_54 rfl (lv_at hl 3 rfl) ?_
        refine lv_iload hx hb dX5_circle_55 (lv_at hl 4 rfl) ?_
        refine cp_i (va_runV (As := [.int p1, .int p2, .int p3, .int p4]) (rest := [.ref (a 4)]) ⟨hx, hb, hml, hown, hts⟩ (c_X3_decidesRing l dC dI a cI cJ xs ys pl kp lp lq lr v0 v1 v2 v3 v4 v5 v6 v7 v8 v9 v10 p1 p2 p3 p4 (by first | with_reducible assumption | exact in0_24 | exact in0_60 | decide) (by first | with_reducible assumption | exact in0_24 | exact in0_60 | decide) (by first | with_reducible assumption | exact in0_24 | exact in0_60 | decide) (by first | with_reducible assumption | exact in0_24 | exact in0_60 | decide) (by first | with_reducible assumption | exact in0_24 | exact in0_60 | decide) (by first | with_reducible assumption | exact in0_24 | exact in0_60 | decide)) (cwV 4 hts (gG_V mG_13_22 mG_13_23 mG_14_0 mG_1_20 (gG_c mG_14_1 gG_G)) rfl rfl rfl hd_X3_decidesRing ⟨Nat.le_of_ble_eq_true rfl, Nat.le_of_ble_eq_true rfl⟩) (pPcV (ci := 7) (q0 := 4) hK hP rfl rfl) rfl rfl hl.1 rfl (lv_room (Nat.le_of_ble_eq_true rfl)) dX5_circle_57 ⟨Nat.le_of_ble_eq_true rfl, Nat.le_of_ble_eq_true rfl⟩) hP hS (fun H hP hS => ?_)
        refine lv_aload_n hx hb dX5_circle_60 rfl (lv_at hl 0 rfl) ?_
        refine va_get (D := (dC, dI)) (ci := 9) (v := .ref (a 1)) (C := RX5) (T := TX5) (N := 5) hx hb hts (fun _ h => gI_wsX50 h) hown hK.1 hP 0 rfl rfl 0 (by decide) (hts _ mG_1_17) (fun _ h9 => h9) rfl dX5_circle_61 ?_
        refine lv_iload_n hx hb dX5_circle_64 rfl (lv_at hl 1 rfl) ?_
        refine lv_iload_n hx hb dX5_circle_65 rfl (lv_at hl 2 rfl) ?_
        refine lv_iload_n hx hb dX5_circle_66 rfl (lv_at hl 3 rfl) ?_
        refine lv_iload hx hb dX5_circle_67 (lv_at hl 4 rfl) ?_
        refine cp_i (va_runV (As := [.int p1, .int p2, .int p3, .int p4]) (rest := [.int (f_X3_decidesRing xs ys p1 p2 p3 p4), .ref (a 4)]) ⟨hx, hb, hml, hown, hts⟩ (c_X2_ring l dC dI a cI cJ xs ys pl kp lp lq lr v0 v1 v2 v3 v4 v5 v6 v7 v8 v9 v10 p1 p2 p3 p4 (by first | with_reducible assumption | exact in0_24 | exact in0_60 | decide) (by first | with_reducible assumption | exact in0_24 | exact in0_60 | decide) (by first | with_reducible assumption | exact in0_24 | exact in0_60 | decide) (by first | with_reducible assumption | exact in0_24 | exact in0_60 | decide)) (cwV 4 hts (gG_V mG_14_3 mG_14_4 mG_14_5 mG_1_16 (gG_c mG_14_6 gG_G)) rfl rfl rfl hd_X2_ring ⟨Nat.le_of_ble_eq_true rfl, Nat.le_of_ble_eq_true rfl⟩) (pPcV (ci := 6) (q0 := 1) hK hP rfl rfl) rfl rfl hl.1 rfl (lv_room (Nat.le_of_ble_eq_true rfl)) dX5_circle_69 ⟨Nat.le_of_ble_eq_true rfl, Nat.le_of_ble_eq_true rfl⟩) hP hS (fun H hP hS => ?_)
        refine cw_i (va_runV (As := [.int (f_X3_decidesRing xs ys p1 p2 p3 p4), .int (f_X2_ring xs ys p1 p2 p3 p4)]) (rest := []) ⟨hx, hb, hml, hown, hts⟩ (c_X3_note l dC dI a cI cJ xs ys pl kp lp lq lr v0 v1 v2 v3 v4 v5 v6 v7 v8 v9 v10 (f_X3_decidesRing xs ys p1 p2 p3 p4) (f_X2_ring xs ys p1 p2 p3 p4) ) (cwV 2 hts (gG_V mG_11_16 mG_11_17 mG_11_18 mG_1_20 (gG_c mG_11_19 gG_G)) rfl rfl rfl hd_X3_note ⟨Nat.le_of_ble_eq_true rfl, Nat.le_of_ble_eq_true rfl⟩) (wPcV (ci := 7) (q0 := 4) hK hP hD rfl rfl) rfl rfl hl.1 rfl (lv_room (Nat.le_of_ble_eq_true rfl)) dX5_circle_72 ⟨Nat.le_of_ble_eq_true rfl, Nat.le_of_ble_eq_true rfl⟩) (wA.sub hD) hS (fun H locs hP hk1 hS => ?_)
        have hD := hD.addr (w1 := (wC a cI cJ xs ys pl kp lp lq lr v0 v1 ((f_X3_note v1 v2 v3 v4 (f_X3_decidesRing xs ys p1 p2 p3 p4) (f_X2_ring xs ys p1 p2 p3 p4)).2.1) ((f_X3_note v1 v2 v3 v4 (f_X3_decidesRing xs ys p1 p2 p3 p4) (f_X2_ring xs ys p1 p2 p3 p4)).2.2.1) ((f_X3_note v1 v2 v3 v4 (f_X3_decidesRing xs ys p1 p2 p3 p4) (f_X2_ring xs ys p1 p2 p3 p4)).2.2.2) v5 v6 v7 v8 v9 v10)) rfl
        have hE : (f_X5_circle xs ys v0 v1 v2 v3 v4 p1 p2 p3 p4) = (((f_X3_note v1 v2 v3 v4 (f_X3_decidesRing xs ys p1 p2 p3 p4) (f_X2_ring xs ys p1 p2 p3 p4)).1), ((f_X3_note v1 v2 v3 v4 (f_X3_decidesRing xs ys p1 p2 p3 p4) (f_X2_ring xs ys p1 p2 p3 p4)).2.1), ((f_X3_note v1 v2 v3 v4 (f_X3_decidesRing xs ys p1 p2 p3 p4) (f_X2_ring xs ys p1 p2 p3 p4)).2.2.1), ((f_X3_note v1 v2 v3 v4 (f_X3_decidesRing xs ys p1 p2 p3 p4) (f_X2_ring xs ys p1 p2 p3 p4)).2.2.2)) := (by simp only [f_X5_circle, if_neg c1, if_neg c2, if_neg c3])
        exact rw_i hQ hx hb hr hlk (by rw [hE]; exact hP) hS (by rw [hE]) dX5_circle_75
      · skip
        refine lv_bipush (v := (-4 : Int32)) hx hb dX5_circle_41 (by decide) ?_
        have hE : (f_X5_circle xs ys v0 v1 v2 v3 v4 p1 p2 p3 p4) = ((-4 : Int32), v2, v3, v4) := (by simp only [f_X5_circle, if_neg c1, if_neg c2, if_pos c3])
        exact rw_i hQ hx hb hr hlk (by rw [hE]; exact hP) hS (by rw [hE]) dX5_circle_43
    · skip
      refine lv_bipush (v := (-2 : Int32)) hx hb dX5_circle_25 (by decide) ?_
      have hE : (f_X5_circle xs ys v0 v1 v2 v3 v4 p1 p2 p3 p4) = ((-2 : Int32), v2, v3, v4) := (by simp only [f_X5_circle, if_neg c1, if_pos c2])
      exact rw_i hQ hx hb hr hlk (by rw [hE]; exact hP) hS (by rw [hE]) dX5_circle_27
/-! X6_size_ -/
theorem hs_X6_size_ : yX6_size_.cls ≠ "java/lang/invoke/MethodHandle" ∧ yX6_size_.cls ≠ "java/lang/invoke/VarHandle" ∧ (parseMethodDescriptor yX6_size_.desc).map (fun d => d.parameters.length) = some 1 := by decide +kernel
theorem hd_X6_size_ : yX6_size_.cls = RX6 ∧ yX6_size_.cls ≠ "java/lang/invoke/MethodHandle" ∧ yX6_size_.cls ≠ "java/lang/invoke/VarHandle" ∧ (parseMethodDescriptor yX6_size_.desc).map (fun d => d.parameters.length) = some 1 := ⟨rfl, hs_X6_size_⟩
def f_X6_size_  (p1 : UInt32) : UInt32 := (if 0 ≤ (Op.cmpValue (FP.fcmp p1 FP.fconst0) CmpOp.g) then p1 else (FP.fneg p1))
abbrev rm_X6_size_ : Room := { frames := 0, cells := 0, slots := 0, locals := 0 }
set_option maxHeartbeats 8000000 in
set_option maxRecDepth 100000 in
theorem c_X6_size_ (l : Launch) (p1 : UInt32) : Met l yX6_size_ (Cond.code yX6_size_ cX6_size_ 1 (some .float) :: lw_G) rm_X6_size_ (nPc [.float p1]) (pQf (f_X6_size_ p1)) 0 0 pNo := by
  refine nm_of (by decide) (Nat.le_of_ble_eq_true rfl) ?_
  intro p e s m args below meth c Q ls hQ hx hb hr hlk hml hown hts hS hl
  have hown : s.vm.findClass RX6 = some m.cls := hown
  have hl : lv_has ls 1 [(0, .float p1)] := hl
  refine lv_fload_n hx hb dX6_size__0 rfl (lv_at hl 0 rfl) ?_
  refine lv_fconst0 hx hb dX6_size__1 ?_
  refine lv_fcmp hx hb dX6_size__2 ?_
  refine lv_if_ge (tgt := 11) hx hb dX6_size__3 (by decide) (fun c1 => ?_) (fun c1 => ?_)
  · skip
    refine lv_fload_n hx hb dX6_size__11 rfl (lv_at hl 0 rfl) ?_
    exact rp_f hQ hx hb hr hlk hS (Eq.symm (by simp only [f_X6_size_, if_pos c1])) dX6_size__12
  · skip
    refine lv_fload_n hx hb dX6_size__6 rfl (lv_at hl 0 rfl) ?_
    refine lv_fneg hx hb dX6_size__7 ?_
    refine lv_goto (tgt := 12) hx hb dX6_size__8 (by decide) ?_
    exact rp_f hQ hx hb hr hlk hS (Eq.symm (by simp only [f_X6_size_, if_neg c1])) dX6_size__12
/-! X6_greater -/
theorem hs_X6_greater : yX6_greater.cls ≠ "java/lang/invoke/MethodHandle" ∧ yX6_greater.cls ≠ "java/lang/invoke/VarHandle" ∧ (parseMethodDescriptor yX6_greater.desc).map (fun d => d.parameters.length) = some 2 := by decide +kernel
theorem hd_X6_greater : yX6_greater.cls = RX6 ∧ yX6_greater.cls ≠ "java/lang/invoke/MethodHandle" ∧ yX6_greater.cls ≠ "java/lang/invoke/VarHandle" ∧ (parseMethodDescriptor yX6_greater.desc).map (fun d => d.parameters.length) = some 2 := ⟨rfl, hs_X6_greater⟩
def f_X6_greater  (p1 : UInt32) (p2 : UInt32) : UInt32 := (if (Op.cmpValue (FP.fcmp p1 p2) CmpOp.l) ≤ 0 then p2 else p1)
abbrev rm_X6_greater : Room := { frames := 0, cells := 0, slots := 0, locals := 0 }
set_option maxHeartbeats 8000000 in
set_option maxRecDepth 100000 in
theorem c_X6_greater (l : Launch) (p1 : UInt32) (p2 : UInt32) : Met l yX6_greater (Cond.code yX6_greater cX6_greater 2 (some .float) :: lw_G) rm_X6_greater (nPc [.float p1, .float p2]) (pQf (f_X6_greater p1 p2)) 0 0 pNo := by
  refine nm_of (by decide) (Nat.le_of_ble_eq_true rfl) ?_
  intro p e s m args below meth c Q ls hQ hx hb hr hlk hml hown hts hS hl
  have hown : s.vm.findClass RX6 = some m.cls := hown
  have hl : lv_has ls 2 [(0, .float p1), (1, .float p2)] := hl
  refine lv_fload_n hx hb dX6_greater_0 rfl (lv_at hl 0 rfl) ?_
  refine lv_fload_n hx hb dX6_greater_1 rfl (lv_at hl 1 rfl) ?_
  refine lv_fcmp hx hb dX6_greater_2 ?_
  refine lv_if_le (tgt := 10) hx hb dX6_greater_3 (by decide) (fun c1 => ?_) (fun c1 => ?_)
  · skip
    refine lv_fload_n hx hb dX6_greater_10 rfl (lv_at hl 1 rfl) ?_
    exact rp_f hQ hx hb hr hlk hS (Eq.symm (by simp only [f_X6_greater, if_pos c1])) dX6_greater_11
  · skip
    refine lv_fload_n hx hb dX6_greater_6 rfl (lv_at hl 0 rfl) ?_
    refine lv_goto (tgt := 11) hx hb dX6_greater_7 (by decide) ?_
    exact rp_f hQ hx hb hr hlk hS (Eq.symm (by simp only [f_X6_greater, if_neg c1])) dX6_greater_11
theorem mg_X6_size_ {K : Nat} {p1 : UInt32} (h : mg K p1) : mg K (f_X6_size_ p1) := by
  unfold f_X6_size_
  split <;> first | exact h | exact mg_neg h
theorem mg_X6_greater {K : Nat} {p1 p2 : UInt32} (h : mg K p1) (h2 : mg K p2) : mg K (f_X6_greater p1 p2) := by
  unfold f_X6_greater
  split <;> assumption
/-! X6_fx -/
theorem hs_X6_fx : yX6_fx.cls ≠ "java/lang/invoke/MethodHandle" ∧ yX6_fx.cls ≠ "java/lang/invoke/VarHandle" ∧ (parseMethodDescriptor yX6_fx.desc).map (fun d => d.parameters.length) = some 1 := by decide +kernel
theorem hd_X6_fx : yX6_fx.cls = RX6 ∧ yX6_fx.cls ≠ "java/lang/invoke/MethodHandle" ∧ yX6_fx.cls ≠ "java/lang/invoke/VarHandle" ∧ (parseMethodDescriptor yX6_fx.desc).map (fun d => d.parameters.length) = some 1 := ⟨rfl, hs_X6_fx⟩
def f_X6_fx (xs : Nat → Int32) (p1 : Int32) : UInt32 := (FP.fdiv (FP.i2f (xs (Int32.toNatClampNeg p1))) (1094713344 : UInt32))
abbrev rm_X6_fx : Room := { frames := 0, cells := 0, slots := 0, locals := 0 }
set_option maxHeartbeats 8000000 in
set_option maxRecDepth 100000 in
theorem c_X6_fx (l : Launch) (dC : Nat → ClassId) (dI : Nat → Nat → Nat) (a : Nat → Nat) (cI cJ : ClassId) (xs : Nat → Int32) (ys : Nat → Int32) (pl : Nat → Int32) (lp : Nat → Int64) (lq : Nat → Int64) (lr : Nat → Int64) (v0 : Int32) (v1 : Int32) (v2 : Int32) (v3 : Int32) (v4 : Int32) (v5 : Int32) (v6 : Int32) (v7 : Int32) (p1 : Int32) (hi1 : vp_in p1 60) (hbx : ∀ j : Nat, (xs j).toInt.natAbs ≤ 16384) : Met l yX6_fx (Cond.code yX6_fx cX6_fx 2 (some .float) :: lw_G) rm_X6_fx (pPc (dC, dI) (tIJ cI cJ) (wM a cI cJ xs ys pl lp lq lr v0 v1 v2 v3 v4 v5 v6 v7) [.ref (a 0), .int p1]) (pQf (f_X6_fx xs p1)) 0 0 pNo := by
  refine pm_of (by decide) (Nat.le_of_ble_eq_true rfl) ?_
  intro p e s m args below meth c Q ls hQ hx hb hr hlk hml hown hts hP hK hS hl
  have hown : s.vm.findClass RX6 = some m.cls := hown
  have hl : lv_has ls 2 [(0, .ref (a 0)), (1, .int p1)] := hl
  refine lv_aload_n hx hb dX6_fx_0 rfl (lv_at hl 0 rfl) ?_
  refine va_get (D := (dC, dI)) (ci := 10) (v := .ref (a 1)) (C := RX6) (T := TX6) (N := 14) hx hb hts (fun _ h => gI_wsX60 h) hown hK.1 hP 0 rfl rfl 2 (by decide) (hts _ mG_4_8) (fun _ h9 => h9) rfl dX6_fx_1 ?_
  refine lv_iload_n hx hb dX6_fx_4 rfl (lv_at hl 1 rfl) ?_
  refine va_iald hx hb hK.1 hP 1 0 rfl rfl (by first | with_reducible assumption | exact in0_24 | exact in0_60 | decide) dX6_fx_5 ?_
  refine lv_i2f hx hb dX6_fx_6 ?_
  refine lv_ldcf hx hb hown (hts _ mG_12_13) dX6_fx_7 ?_
  refine lv_fdiv hx hb dX6_fx_9 (mg_nn (mg_div12 (mg_i2f (hbx _))) (by decide)) ?_
  exact rp_f hQ hx hb hr hlk hS (Eq.symm (by simp only [f_X6_fx])) dX6_fx_10
/-! X6_fy -/
theorem hs_X6_fy : yX6_fy.cls ≠ "java/lang/invoke/MethodHandle" ∧ yX6_fy.cls ≠ "java/lang/invoke/VarHandle" ∧ (parseMethodDescriptor yX6_fy.desc).map (fun d => d.parameters.length) = some 1 := by decide +kernel
theorem hd_X6_fy : yX6_fy.cls = RX6 ∧ yX6_fy.cls ≠ "java/lang/invoke/MethodHandle" ∧ yX6_fy.cls ≠ "java/lang/invoke/VarHandle" ∧ (parseMethodDescriptor yX6_fy.desc).map (fun d => d.parameters.length) = some 1 := ⟨rfl, hs_X6_fy⟩
def f_X6_fy (ys : Nat → Int32) (p1 : Int32) : UInt32 := (FP.fdiv (FP.i2f (ys (Int32.toNatClampNeg p1))) (1094713344 : UInt32))
abbrev rm_X6_fy : Room := { frames := 0, cells := 0, slots := 0, locals := 0 }
set_option maxHeartbeats 8000000 in
set_option maxRecDepth 100000 in
theorem c_X6_fy (l : Launch) (dC : Nat → ClassId) (dI : Nat → Nat → Nat) (a : Nat → Nat) (cI cJ : ClassId) (xs : Nat → Int32) (ys : Nat → Int32) (pl : Nat → Int32) (lp : Nat → Int64) (lq : Nat → Int64) (lr : Nat → Int64) (v0 : Int32) (v1 : Int32) (v2 : Int32) (v3 : Int32) (v4 : Int32) (v5 : Int32) (v6 : Int32) (v7 : Int32) (p1 : Int32) (hi1 : vp_in p1 60) (hby : ∀ j : Nat, (ys j).toInt.natAbs ≤ 16384) : Met l yX6_fy (Cond.code yX6_fy cX6_fy 2 (some .float) :: lw_G) rm_X6_fy (pPc (dC, dI) (tIJ cI cJ) (wM a cI cJ xs ys pl lp lq lr v0 v1 v2 v3 v4 v5 v6 v7) [.ref (a 0), .int p1]) (pQf (f_X6_fy ys p1)) 0 0 pNo := by
  refine pm_of (by decide) (Nat.le_of_ble_eq_true rfl) ?_
  intro p e s m args below meth c Q ls hQ hx hb hr hlk hml hown hts hP hK hS hl
  have hown : s.vm.findClass RX6 = some m.cls := hown
  have hl : lv_has ls 2 [(0, .ref (a 0)), (1, .int p1)] := hl
  refine lv_aload_n hx hb dX6_fy_0 rfl (lv_at hl 0 rfl) ?_
  refine va_get (D := (dC, dI)) (ci := 10) (v := .ref (a 2)) (C := RX6) (T := TX6) (N := 14) hx hb hts (fun _ h => gI_wsX60 h) hown hK.1 hP 0 rfl rfl 3 (by decide) (hts _ mG_4_9) (fun _ h9 => h9) rfl dX6_fy_1 ?_
  refine lv_iload_n hx hb dX6_fy_4 rfl (lv_at hl 1 rfl) ?_
  refine va_iald hx hb hK.1 hP 2 0 rfl rfl (by first | with_reducible assumption | exact in0_24 | exact in0_60 | decide) dX6_fy_5 ?_
  refine lv_i2f hx hb dX6_fy_6 ?_
  refine lv_ldcf hx hb hown (hts _ mG_12_13) dX6_fy_7 ?_
  refine lv_fdiv hx hb dX6_fy_9 (mg_nn (mg_div12 (mg_i2f (hby _))) (by decide)) ?_
  exact rp_f hQ hx hb hr hlk hS (Eq.symm (by simp only [f_X6_fy])) dX6_fy_10
theorem mg_X6_fx {xs : Nat → Int32} {p1 : Int32} (h : ∀ j : Nat, (xs j).toInt.natAbs ≤ 16384) : mg 140 (f_X6_fx xs p1) := mg_div12 (mg_i2f (h _))
theorem mg_X6_fy {ys : Nat → Int32} {p1 : Int32} (h : ∀ j : Nat, (ys j).toInt.natAbs ≤ 16384) : mg 140 (f_X6_fy ys p1) := mg_div12 (mg_i2f (h _))
/-! X6_most -/
theorem hs_X6_most : yX6_most.cls ≠ "java/lang/invoke/MethodHandle" ∧ yX6_most.cls ≠ "java/lang/invoke/VarHandle" ∧ (parseMethodDescriptor yX6_most.desc).map (fun d => d.parameters.length) = some 3 := by decide +kernel
theorem hd_X6_most : yX6_most.cls = RX6 ∧ yX6_most.cls ≠ "java/lang/invoke/MethodHandle" ∧ yX6_most.cls ≠ "java/lang/invoke/VarHandle" ∧ (parseMethodDescriptor yX6_most.desc).map (fun d => d.parameters.length) = some 3 := ⟨rfl, hs_X6_most⟩
def f_X6_most (xs : Nat → Int32) (ys : Nat → Int32) (p1 : Int32) (p2 : Int32) (p3 : Int32) : UInt32 := (f_X6_greater (f_X6_greater (f_X6_greater (f_X6_size_ (f_X6_fx xs p1)) (f_X6_size_ (f_X6_fy ys p1))) (f_X6_greater (f_X6_size_ (f_X6_fx xs p2)) (f_X6_size_ (f_X6_fy ys p2)))) (f_X6_greater (f_X6_size_ (f_X6_fx xs p3)) (f_X6_size_ (f_X6_fy ys p3))))
abbrev rm_X6_most : Room := { frames := 1, cells := 0, slots := 0, locals := 21 }
set_option maxHeartbeats 8000000 in
set_option maxRecDepth 100000 in
theorem c_X6_most (l : Launch) (dC : Nat → ClassId) (dI : Nat → Nat → Nat) (a : Nat → Nat) (cI cJ : ClassId) (xs : Nat → Int32) (ys : Nat → Int32) (pl : Nat → Int32) (lp : Nat → Int64) (lq : Nat → Int64) (lr : Nat → Int64) (v0 : Int32) (v1 : Int32) (v2 : Int32) (v3 : Int32) (v4 : Int32) (v5 : Int32) (v6 : Int32) (v7 : Int32) (p1 : Int32) (p2 : Int32) (p3 : Int32) (hi1 : vp_in p1 60) (hi2 : vp_in p2 60) (hi3 : vp_in p3 60) (hbx : ∀ j : Nat, (xs j).toInt.natAbs ≤ 16384) (hby : ∀ j : Nat, (ys j).toInt.natAbs ≤ 16384) : Met l yX6_most (Cond.code yX6_most cX6_most 4 (some .float) :: lw_G) rm_X6_most (pPc (dC, dI) (tIJ cI cJ) (wM a cI cJ xs ys pl lp lq lr v0 v1 v2 v3 v4 v5 v6 v7) [.ref (a 0), .int p1, .int p2, .int p3]) (pQf (f_X6_most xs ys p1 p2 p3)) 0 0 pNo := by
  refine pm_of (by decide) (Nat.le_of_ble_eq_true rfl) ?_
  intro p e s m args below meth c Q ls hQ hx hb hr hlk hml hown hts hP hK hS hl
  have hown : s.vm.findClass RX6 = some m.cls := hown
  have hl : lv_has ls 4 [(0, .ref (a 0)), (1, .int p1), (2, .int p2), (3, .int p3)] := hl
  refine lv_aload_n hx hb dX6_most_0 rfl (lv_at hl 0 rfl) ?_
  refine lv_iload_n hx hb dX6_most_1 rfl (lv_at hl 1 rfl) ?_
  refine cp_f (va_runV (As := [.int p1]) (rest := []) ⟨hx, hb, hml, hown, hts⟩ (c_X6_fx l dC dI a cI cJ xs ys pl lp lq lr v0 v1 v2 v3 v4 v5 v6 v7 p1 (by first | with_reducible assumption | exact in0_24 | exact in0_60 | decide) (by first | with_reducible assumption | exact in0_24 | exact in0_60 | decide)) (cwV 1 hts (gG_V mG_12_9 mG_12_10 mG_12_11 mG_1_5 (gG_c mG_12_12 gG_G)) rfl rfl rfl hd_X6_fx ⟨Nat.le_of_ble_eq_true rfl, Nat.le_of_ble_eq_true rfl⟩) (pPcV (ci := 10) (q0 := 0) hK hP rfl rfl) rfl rfl hl.1 rfl (lv_room (Nat.le_of_ble_eq_true rfl)) dX6_most_2 ⟨Nat.le_of_ble_eq_true rfl, Nat.le_of_ble_eq_true rfl⟩) hP hS (fun H hP hS => ?_)
  refine cp_f (va_runS (As := [.float (f_X6_fx xs p1)]) (rest := []) ⟨hx, hb, hml, hown, hts⟩ (c_X6_size_ l (f_X6_fx xs p1) ) (va_cwS 1 hts (gG_S mG_12_22 mG_12_23 mG_1_5 (gG_c mG_13_0 gG_G)) rfl rfl rfl hs_X6_size_ ⟨Nat.le_of_ble_eq_true rfl, Nat.le_of_ble_eq_true rfl⟩) nPcS rfl rfl hl.1 rfl (lv_room (Nat.le_of_ble_eq_true rfl)) dX6_most_5 ⟨Nat.le_of_ble_eq_true rfl, Nat.le_of_ble_eq_true rfl⟩) hP hS (fun H hP hS => ?_)
  refine lv_aload_n hx hb dX6_most_8 rfl (lv_at hl 0 rfl) ?_
  refine lv_iload_n hx hb dX6_most_9 rfl (lv_at hl 1 rfl) ?_
  refine cp_f (va_runV (As := [.int p1]) (rest := [.float (f_X6_size_ (f_X6_fx xs p1))]) ⟨hx, hb, hml, hown, hts⟩ (c_X6_fy l dC dI a cI cJ xs ys pl lp lq lr v0 v1 v2 v3 v4 v5 v6 v7 p1 (by first | with_reducible assumption | exact in0_24 | exact in0_60 | decide) (by first | with_reducible assumption | exact in0_24 | exact in0_60 | decide)) (cwV 1 hts (gG_V mG_12_14 mG_12_15 mG_12_16 mG_1_5 (gG_c mG_12_17 gG_G)) rfl rfl rfl hd_X6_fy ⟨Nat.le_of_ble_eq_true rfl, Nat.le_of_ble_eq_true rfl⟩) (pPcV (ci := 10) (q0 := 0) hK hP rfl rfl) rfl rfl hl.1 rfl (lv_room (Nat.le_of_ble_eq_true rfl)) dX6_most_10 ⟨Nat.le_of_ble_eq_true rfl, Nat.le_of_ble_eq_true rfl⟩) hP hS (fun H hP hS => ?_)
  refine cp_f (va_runS (As := [.float (f_X6_fy ys p1)]) (rest := [.float (f_X6_size_ (f_X6_fx xs p1))]) ⟨hx, hb, hml, hown, hts⟩ (c_X6_size_ l (f_X6_fy ys p1) ) (va_cwS 1 hts (gG_S mG_12_22 mG_12_23 mG_1_5 (gG_c mG_13_0 gG_G)) rfl rfl rfl hs_X6_size_ ⟨Nat.le_of_ble_eq_true rfl, Nat.le_of_ble_eq_true rfl⟩) nPcS rfl rfl hl.1 rfl (lv_room (Nat.le_of_ble_eq_true rfl)) dX6_most_13 ⟨Nat.le_of_ble_eq_true rfl, Nat.le_of_ble_eq_true rfl⟩) hP hS (fun H hP hS => ?_)
  refine cp_f (va_runS (As := [.float (f_X6_size_ (f_X6_fx xs p1)), .float (f_X6_size_ (f_X6_fy ys p1))]) (rest := []) ⟨hx, hb, hml, hown, hts⟩ (c_X6_greater l (f_X6_size_ (f_X6_fx xs p1)) (f_X6_size_ (f_X6_fy ys p1)) ) (va_cwS 2 hts (gG_S mG_13_1 mG_13_2 mG_1_5 (gG_c mG_13_3 gG_G)) rfl rfl rfl hs_X6_greater ⟨Nat.le_of_ble_eq_true rfl, Nat.le_of_ble_eq_true rfl⟩) nPcS rfl rfl hl.1 rfl (lv_room (Nat.le_of_ble_eq_true rfl)) dX6_most_16 ⟨Nat.le_of_ble_eq_true rfl, Nat.le_of_ble_eq_true rfl⟩) hP hS (fun H hP hS => ?_)
  refine lv_aload_n hx hb dX6_most_19 rfl (lv_at hl 0 rfl) ?_
  refine lv_iload_n hx hb dX6_most_20 rfl (lv_at hl 2 rfl) ?_
  refine cp_f (va_runV (As := [.int p2]) (rest := [.float (f_X6_greater (f_X6_size_ (f_X6_fx xs p1)) (f_X6_size_ (f_X6_fy ys p1)))]) ⟨hx, hb, hml, hown, hts⟩ (c_X6_fx l dC dI a cI cJ xs ys pl lp lq lr v0 v1 v2 v3 v4 v5 v6 v7 p2 (by first | with_reducible assumption | exact in0_24 | exact in0_60 | decide) (by first | with_reducible assumption | exact in0_24 | exact in0_60 | decide)) (cwV 1 hts (gG_V mG_12_9 mG_12_10 mG_12_11 mG_1_5 (gG_c mG_12_12 gG_G)) rfl rfl rfl hd_X6_fx ⟨Nat.le_of_ble_eq_true rfl, Nat.le_of_ble_eq_true rfl⟩) (pPcV (ci := 10) (q0 := 0) hK hP rfl rfl) rfl rfl hl.1 rfl (lv_room (Nat.le_of_ble_eq_true rfl)) dX6_most_21 ⟨Nat.le_of_ble_eq_true rfl, Nat.le_of_ble_eq_true rfl⟩) hP hS (fun H hP hS => ?_)
  refine cp_f (va_runS (As := [.float (f_X6_fx xs p2)]) (rest := [.float (f_X6_greater (f_X6_size_ (f_X6_fx xs p1)) (f_X6_size_ (f_X6_fy ys p1)))]) ⟨hx, hb, hml, hown, hts⟩ (c_X6_size_ l (f_X6_fx xs p2) ) (va_cwS 1 hts (gG_S mG_12_22 mG_12_23 mG_1_5 (gG_c mG_13_0 gG_G)) rfl rfl rfl hs_X6_size_ ⟨Nat.le_of_ble_eq_true rfl, Nat.le_of_ble_eq_true rfl⟩) nPcS rfl rfl hl.1 rfl (lv_room (Nat.le_of_ble_eq_true rfl)) dX6_most_24 ⟨Nat.le_of_ble_eq_true rfl, Nat.le_of_ble_eq_true rfl⟩) hP hS (fun H hP hS => ?_)
  refine lv_aload_n hx hb dX6_most_27 rfl (lv_at hl 0 rfl) ?_
  refine lv_iload_n hx hb dX6_most_28 rfl (lv_at hl 2 rfl) ?_
  refine cp_f (va_runV (As := [.int p2]) (rest := [.float (f_X6_size_ (f_X6_fx xs p2)), .float (f_X6_greater (f_X6_size_ (f_X6_fx xs p1)) (f_X6_size_ (f_X6_fy ys p1)))]) ⟨hx, hb, hml, hown, hts⟩ (c_X6_fy l dC dI a cI cJ xs ys pl lp lq lr v0 v1 v2 v3 v4 v5 v6 v7 p2 (by first | with_reducible assumption | exact in0_24 | exact in0_60 | decide) (by first | with_reducible assumption | exact in0_24 | exact in0_60 | decide)) (cwV 1 hts (gG_V mG_12_14 mG_12_15 mG_12_16 mG_1_5 (gG_c mG_12_17 gG_G)) rfl rfl rfl hd_X6_fy ⟨Nat.le_of_ble_eq_true rfl, Nat.le_of_ble_eq_true rfl⟩) (pPcV (ci := 10) (q0 := 0) hK hP rfl rfl) rfl rfl hl.1 rfl (lv_room (Nat.le_of_ble_eq_true rfl)) dX6_most_29 ⟨Nat.le_of_ble_eq_true rfl, Nat.le_of_ble_eq_true rfl⟩) hP hS (fun H hP hS => ?_)
  refine cp_f (va_runS (As := [.float (f_X6_fy ys p2)]) (rest := [.float (f_X6_size_ (f_X6_fx xs p2)), .float (f_X6_greater (f_X6_size_ (f_X6_fx xs p1)) (f_X6_size_ (f_X6_fy ys p1)))]) ⟨hx, hb, hml, hown, hts⟩ (c_X6_size_ l (f_X6_fy ys p2) ) (va_cwS 1 hts (gG_S mG_12_22 mG_12_23 mG_1_5 (gG_c mG_13_0 gG_G)) rfl rfl rfl hs_X6_size_ ⟨Nat.le_of_ble_eq_true rfl, Nat.le_of_ble_eq_true rfl⟩) nPcS rfl rfl hl.1 rfl (lv_room (Nat.le_of_ble_eq_true rfl)) dX6_most_32 ⟨Nat.le_of_ble_eq_true rfl, Nat.le_of_ble_eq_true rfl⟩) hP hS (fun H hP hS => ?_)
  refine cp_f (va_runS (As := [.float (f_X6_size_ (f_X6_fx xs p2)), .float (f_X6_size_ (f_X6_fy ys p2))]) (rest := [.float (f_X6_greater (f_X6_size_ (f_X6_fx xs p1)) (f_X6_size_ (f_X6_fy ys p1)))]) ⟨hx, hb, hml, hown, hts⟩ (c_X6_greater l (f_X6_size_ (f_X6_fx xs p2)) (f_X6_size_ (f_X6_fy ys p2)) ) (va_cwS 2 hts (gG_S mG_13_1 mG_13_2 mG_1_5 (gG_c mG_13_3 gG_G)) rfl rfl rfl hs_X6_greater ⟨Nat.le_of_ble_eq_true rfl, Nat.le_of_ble_eq_true rfl⟩) nPcS rfl rfl hl.1 rfl (lv_room (Nat.le_of_ble_eq_true rfl)) dX6_most_35 ⟨Nat.le_of_ble_eq_true rfl, Nat.le_of_ble_eq_true rfl⟩) hP hS (fun H hP hS => ?_)
  refine cp_f (va_runS (As := [.float (f_X6_greater (f_X6_size_ (f_X6_fx xs p1)) (f_X6_size_ (f_X6_fy ys p1))), .float (f_X6_greater (f_X6_size_ (f_X6_fx xs p2)) (f_X6_size_ (f_X6_fy ys p2)))]) (rest := []) ⟨hx, hb, hml, hown, hts⟩ (c_X6_greater l (f_X6_greater (f_X6_size_ (f_X6_fx xs p1)) (f_X6_size_ (f_X6_fy ys p1))) (f_X6_greater (f_X6_size_ (f_X6_fx xs p2)) (f_X6_size_ (f_X6_fy ys p2))) ) (va_cwS 2 hts (gG_S mG_13_1 mG_13_2 mG_1_5 (gG_c mG_13_3 gG_G)) rfl rfl rfl hs_X6_greater ⟨Nat.le_of_ble_eq_true rfl, Nat.le_of_ble_eq_true rfl⟩) nPcS rfl rfl hl.1 rfl (lv_room (Nat.le_of_ble_eq_true rfl)) dX6_most_38 ⟨Nat.le_of_ble_eq_true rfl, Nat.le_of_ble_eq_true rfl⟩) hP hS (fun H hP hS => ?_)
  refine lv_aload_n hx hb dX6_most_41 rfl (lv_at hl 0 rfl) ?_
  refine lv_iload_n hx hb dX6_most_42 rfl (lv_at hl 3 rfl) ?_
  refine cp_f (va_runV (As := [.int p3]) (rest := [.float (f_X6_greater (f_X6_greater (f_X6_size_ (f_X6_fx xs p1)) (f_X6_size_ (f_X6_fy ys p1))) (f_X6_greater (f_X6_size_ (f_X6_fx xs p2)) (f_X6_size_ (f_X6_fy ys p2))))]) ⟨hx, hb, hml, hown, hts⟩ (c_X6_fx l dC dI a cI cJ xs ys pl lp lq lr v0 v1 v2 v3 v4 v5 v6 v7 p3 (by first | with_reducible assumption | exact in0_24 | exact in0_60 | decide) (by first | with_reducible assumption | exact in0_24 | exact in0_60 | decide)) (cwV 1 hts (gG_V mG_12_9 mG_12_10 mG_12_11 mG_1_5 (gG_c mG_12_12 gG_G)) rfl rfl rfl hd_X6_fx ⟨Nat.le_of_ble_eq_true rfl, Nat.le_of_ble_eq_true rfl⟩) (pPcV (ci := 10) (q0 := 0) hK hP rfl rfl) rfl rfl hl.1 rfl (lv_room (Nat.le_of_ble_eq_true rfl)) dX6_most_43 ⟨Nat.le_of_ble_eq_true rfl, Nat.le_of_ble_eq_true rfl⟩) hP hS (fun H hP hS => ?_)
  refine cp_f (va_runS (As := [.float (f_X6_fx xs p3)]) (rest := [.float (f_X6_greater (f_X6_greater (f_X6_size_ (f_X6_fx xs p1)) (f_X6_size_ (f_X6_fy ys p1))) (f_X6_greater (f_X6_size_ (f_X6_fx xs p2)) (f_X6_size_ (f_X6_fy ys p2))))]) ⟨hx, hb, hml, hown, hts⟩ (c_X6_size_ l (f_X6_fx xs p3) ) (va_cwS 1 hts (gG_S mG_12_22 mG_12_23 mG_1_5 (gG_c mG_13_0 gG_G)) rfl rfl rfl hs_X6_size_ ⟨Nat.le_of_ble_eq_true rfl, Nat.le_of_ble_eq_true rfl⟩) nPcS rfl rfl hl.1 rfl (lv_room (Nat.le_of_ble_eq_true rfl)) dX6_most_46 ⟨Nat.le_of_ble_eq_true rfl, Nat.le_of_ble_eq_true rfl⟩) hP hS (fun H hP hS => ?_)
  refine lv_aload_n hx hb dX6_most_49 rfl (lv_at hl 0 rfl) ?_
  refine lv_iload_n hx hb dX6_most_50 rfl (lv_at hl 3 rfl) ?_
  refine cp_f (va_runV (As := [.int p3]) (rest := [.float (f_X6_size_ (f_X6_fx xs p3)), .float (f_X6_greater (f_X6_greater (f_X6_size_ (f_X6_fx xs p1)) (f_X6_size_ (f_X6_fy ys p1))) (f_X6_greater (f_X6_size_ (f_X6_fx xs p2)) (f_X6_size_ (f_X6_fy ys p2))))]) ⟨hx, hb, hml, hown, hts⟩ (c_X6_fy l dC dI a cI cJ xs ys pl lp lq lr v0 v1 v2 v3 v4 v5 v6 v7 p3 (by first | with_reducible assumption | exact in0_24 | exact in0_60 | decide) (by first | with_reducible assumption | exact in0_24 | exact in0_60 | decide)) (cwV 1 hts (gG_V mG_12_14 mG_12_15 mG_12_16 mG_1_5 (gG_c mG_12_17 gG_G)) rfl rfl rfl hd_X6_fy ⟨Nat.le_of_ble_eq_true rfl, Nat.le_of_ble_eq_true rfl⟩) (pPcV (ci := 10) (q0 := 0) hK hP rfl rfl) rfl rfl hl.1 rfl (lv_room (Nat.le_of_ble_eq_true rfl)) dX6_most_51 ⟨Nat.le_of_ble_eq_true rfl, Nat.le_of_ble_eq_true rfl⟩) hP hS (fun H hP hS => ?_)
  refine cp_f (va_runS (As := [.float (f_X6_fy ys p3)]) (rest := [.float (f_X6_size_ (f_X6_fx xs p3)), .float (f_X6_greater (f_X6_greater (f_X6_size_ (f_X6_fx xs p1)) (f_X6_size_ (f_X6_fy ys p1))) (f_X6_greater (f_X6_size_ (f_X6_fx xs p2)) (f_X6_size_ (f_X6_fy ys p2))))]) ⟨hx, hb, hml, hown, hts⟩ (c_X6_size_ l (f_X6_fy ys p3) ) (va_cwS 1 hts (gG_S mG_12_22 mG_12_23 mG_1_5 (gG_c mG_13_0 gG_G)) rfl rfl rfl hs_X6_size_ ⟨Nat.le_of_ble_eq_true rfl, Nat.le_of_ble_eq_true rfl⟩) nPcS rfl rfl hl.1 rfl (lv_room (Nat.le_of_ble_eq_true rfl)) dX6_most_54 ⟨Nat.le_of_ble_eq_true rfl, Nat.le_of_ble_eq_true rfl⟩) hP hS (fun H hP hS => ?_)
  refine cp_f (va_runS (As := [.float (f_X6_size_ (f_X6_fx xs p3)), .float (f_X6_size_ (f_X6_fy ys p3))]) (rest := [.float (f_X6_greater (f_X6_greater (f_X6_size_ (f_X6_fx xs p1)) (f_X6_size_ (f_X6_fy ys p1))) (f_X6_greater (f_X6_size_ (f_X6_fx xs p2)) (f_X6_size_ (f_X6_fy ys p2))))]) ⟨hx, hb, hml, hown, hts⟩ (c_X6_greater l (f_X6_size_ (f_X6_fx xs p3)) (f_X6_size_ (f_X6_fy ys p3)) ) (va_cwS 2 hts (gG_S mG_13_1 mG_13_2 mG_1_5 (gG_c mG_13_3 gG_G)) rfl rfl rfl hs_X6_greater ⟨Nat.le_of_ble_eq_true rfl, Nat.le_of_ble_eq_true rfl⟩) nPcS rfl rfl hl.1 rfl (lv_room (Nat.le_of_ble_eq_true rfl)) dX6_most_57 ⟨Nat.le_of_ble_eq_true rfl, Nat.le_of_ble_eq_true rfl⟩) hP hS (fun H hP hS => ?_)
  refine cp_f (va_runS (As := [.float (f_X6_greater (f_X6_greater (f_X6_size_ (f_X6_fx xs p1)) (f_X6_size_ (f_X6_fy ys p1))) (f_X6_greater (f_X6_size_ (f_X6_fx xs p2)) (f_X6_size_ (f_X6_fy ys p2)))), .float (f_X6_greater (f_X6_size_ (f_X6_fx xs p3)) (f_X6_size_ (f_X6_fy ys p3)))]) (rest := []) ⟨hx, hb, hml, hown, hts⟩ (c_X6_greater l (f_X6_greater (f_X6_greater (f_X6_size_ (f_X6_fx xs p1)) (f_X6_size_ (f_X6_fy ys p1))) (f_X6_greater (f_X6_size_ (f_X6_fx xs p2)) (f_X6_size_ (f_X6_fy ys p2)))) (f_X6_greater (f_X6_size_ (f_X6_fx xs p3)) (f_X6_size_ (f_X6_fy ys p3))) ) (va_cwS 2 hts (gG_S mG_13_1 mG_13_2 mG_1_5 (gG_c mG_13_3 gG_G)) rfl rfl rfl hs_X6_greater ⟨Nat.le_of_ble_eq_true rfl, Nat.le_of_ble_eq_true rfl⟩) nPcS rfl rfl hl.1 rfl (lv_room (Nat.le_of_ble_eq_true rfl)) dX6_most_60 ⟨Nat.le_of_ble_eq_true rfl, Nat.le_of_ble_eq_true rfl⟩) hP hS (fun H hP hS => ?_)
  exact rp_f hQ hx hb hr hlk hS (Eq.symm (by simp only [f_X6_most])) dX6_most_63
theorem mg_X6_most {xs ys : Nat → Int32} {p1 p2 p3 : Int32} (h : ∀ j : Nat, (xs j).toInt.natAbs ≤ 16384) (h2 : ∀ j : Nat, (ys j).toInt.natAbs ≤ 16384) : mg 140 (f_X6_most xs ys p1 p2 p3) := by
  have a : ∀ p, mg 140 (f_X6_greater (f_X6_size_ (f_X6_fx xs p)) (f_X6_size_ (f_X6_fy ys p))) := fun p => mg_X6_greater (mg_X6_size_ (mg_X6_fx h)) (mg_X6_size_ (mg_X6_fy h2))
  exact mg_X6_greater (mg_X6_greater (a _) (a _)) (a _)
/-! X6_decidesTurn -/
theorem hs_X6_decidesTurn : yX6_decidesTurn.cls ≠ "java/lang/invoke/MethodHandle" ∧ yX6_decidesTurn.cls ≠ "java/lang/invoke/VarHandle" ∧ (parseMethodDescriptor yX6_decidesTurn.desc).map (fun d => d.parameters.length) = some 3 := by decide +kernel
theorem hd_X6_decidesTurn : yX6_decidesTurn.cls = RX6 ∧ yX6_decidesTurn.cls ≠ "java/lang/invoke/MethodHandle" ∧ yX6_decidesTurn.cls ≠ "java/lang/invoke/VarHandle" ∧ (parseMethodDescriptor yX6_decidesTurn.desc).map (fun d => d.parameters.length) = some 3 := ⟨rfl, hs_X6_decidesTurn⟩
def f_X6_decidesTurn (xs : Nat → Int32) (ys : Nat → Int32) (p1 : Int32) (p2 : Int32) (p3 : Int32) : Int32 := (if (Op.cmpValue (FP.fcmp (f_X6_size_ (FP.fsub (FP.fmul (FP.fsub (f_X6_fx xs p2) (f_X6_fx xs p1)) (FP.fsub (f_X6_fy ys p3) (f_X6_fy ys p1))) (FP.fmul (FP.fsub (f_X6_fy ys p2) (f_X6_fy ys p1)) (FP.fsub (f_X6_fx xs p3) (f_X6_fx xs p1))))) (FP.fmul (FP.fmul (f_X6_most xs ys p1 p2 p3) (f_X6_most xs ys p1 p2 p3)) (914358272 : UInt32))) CmpOp.l) ≤ 0 then (0 : Int32) else (1 : Int32))
abbrev rm_X6_decidesTurn : Room := { frames := 2, cells := 0, slots := 0, locals := 44 }
set_option maxHeartbeats 8000000 in
set_option maxRecDepth 100000 in
theorem c_X6_decidesTurn (l : Launch) (dC : Nat → ClassId) (dI : Nat → Nat → Nat) (a : Nat → Nat) (cI cJ : ClassId) (xs : Nat → Int32) (ys : Nat → Int32) (pl : Nat → Int32) (lp : Nat → Int64) (lq : Nat → Int64) (lr : Nat → Int64) (v0 : Int32) (v1 : Int32) (v2 : Int32) (v3 : Int32) (v4 : Int32) (v5 : Int32) (v6 : Int32) (v7 : Int32) (p1 : Int32) (p2 : Int32) (p3 : Int32) (hi1 : vp_in p1 60) (hi2 : vp_in p2 60) (hi3 : vp_in p3 60) (hbx : ∀ j : Nat, (xs j).toInt.natAbs ≤ 16384) (hby : ∀ j : Nat, (ys j).toInt.natAbs ≤ 16384) : Met l yX6_decidesTurn (Cond.code yX6_decidesTurn cX6_decidesTurn 9 (some .boolean) :: lw_G) rm_X6_decidesTurn (pPc (dC, dI) (tIJ cI cJ) (wM a cI cJ xs ys pl lp lq lr v0 v1 v2 v3 v4 v5 v6 v7) [.ref (a 0), .int p1, .int p2, .int p3]) (pQi (f_X6_decidesTurn xs ys p1 p2 p3)) 0 0 pNo := by
  refine pm_of (by decide) (Nat.le_of_ble_eq_true rfl) ?_
  intro p e s m args below meth c Q ls hQ hx hb hr hlk hml hown hts hP hK hS hl
  have hown : s.vm.findClass RX6 = some m.cls := hown
  have hl : lv_has ls 9 [(0, .ref (a 0)), (1, .int p1), (2, .int p2), (3, .int p3)] := hl
  refine lv_aload_n hx hb dX6_decidesTurn_0 rfl (lv_at hl 0 rfl) ?_
  refine lv_iload_n hx hb dX6_decidesTurn_1 rfl (lv_at hl 2 rfl) ?_
  refine cp_f (va_runV (As := [.int p2]) (rest := []) ⟨hx, hb, hml, hown, hts⟩ (c_X6_fx l dC dI a cI cJ xs ys pl lp lq lr v0 v1 v2 v3 v4 v5 v6 v7 p2 (by first | with_reducible assumption | exact in0_24 | exact in0_60 | decide) (by first | with_reducible assumption | exact in0_24 | exact in0_60 | decide)) (cwV 1 hts (gG_V mG_12_9 mG_12_10 mG_12_11 mG_1_5 (gG_c mG_12_12 gG_G)) rfl rfl rfl hd_X6_fx ⟨Nat.le_of_ble_eq_true rfl, Nat.le_of_ble_eq_true rfl⟩) (pPcV (ci := 10) (q0 := 0) hK hP rfl rfl) rfl rfl hl.1 rfl (lv_room (Nat.le_of_ble_eq_true rfl)) dX6_decidesTurn_2 ⟨Nat.le_of_ble_eq_true rfl, Nat.le_of_ble_eq_true rfl⟩) hP hS (fun H hP hS => ?_)
  refine lv_aload_n hx hb dX6_decidesTurn_5 rfl (lv_at hl 0 rfl) ?_
  refine lv_iload_n hx hb dX6_decidesTurn_6 rfl (lv_at hl 1 rfl) ?_
  refine cp_f (va_runV (As := [.int p1]) (rest := [.float (f_X6_fx xs p2)]) ⟨hx, hb, hml, hown, hts⟩ (c_X6_fx l dC dI a cI cJ xs ys pl lp lq lr v0 v1 v2 v3 v4 v5 v6 v7 p1 (by first | with_reducible assumption | exact in0_24 | exact in0_60 | decide) (by first | with_reducible assumption | exact in0_24 | exact in0_60 | decide)) (cwV 1 hts (gG_V mG_12_9 mG_12_10 mG_12_11 mG_1_5 (gG_c mG_12_12 gG_G)) rfl rfl rfl hd_X6_fx ⟨Nat.le_of_ble_eq_true rfl, Nat.le_of_ble_eq_true rfl⟩) (pPcV (ci := 10) (q0 := 0) hK hP rfl rfl) rfl rfl hl.1 rfl (lv_room (Nat.le_of_ble_eq_true rfl)) dX6_decidesTurn_7 ⟨Nat.le_of_ble_eq_true rfl, Nat.le_of_ble_eq_true rfl⟩) hP hS (fun H hP hS => ?_)
  refine lv_fsub hx hb dX6_decidesTurn_10 (mg_nn (mg_sub (mg_X6_fx hbx) (mg_X6_fx hbx) (by decide)) (by decide)) ?_
  refine lv_aload_n hx hb dX6_decidesTurn_11 rfl (lv_at hl 0 rfl) ?_
  refine lv_iload_n hx hb dX6_decidesTurn_12 rfl (lv_at hl 3 rfl) ?_
  refine cp_f (va_runV (As := [.int p3]) (rest := [.float (FP.fsub (f_X6_fx xs p2) (f_X6_fx xs p1))]) ⟨hx, hb, hml, hown, hts⟩ (c_X6_fy l dC dI a cI cJ xs ys pl lp lq lr v0 v1 v2 v3 v4 v5 v6 v7 p3 (by first | with_reducible assumption | exact in0_24 | exact in0_60 | decide) (by first | with_reducible assumption | exact in0_24 | exact in0_60 | decide)) (cwV 1 hts (gG_V mG_12_14 mG_12_15 mG_12_16 mG_1_5 (gG_c mG_12_17 gG_G)) rfl rfl rfl hd_X6_fy ⟨Nat.le_of_ble_eq_true rfl, Nat.le_of_ble_eq_true rfl⟩) (pPcV (ci := 10) (q0 := 0) hK hP rfl rfl) rfl rfl hl.1 rfl (lv_room (Nat.le_of_ble_eq_true rfl)) dX6_decidesTurn_13 ⟨Nat.le_of_ble_eq_true rfl, Nat.le_of_ble_eq_true rfl⟩) hP hS (fun H hP hS => ?_)
  refine lv_aload_n hx hb dX6_decidesTurn_16 rfl (lv_at hl 0 rfl) ?_
  refine lv_iload_n hx hb dX6_decidesTurn_17 rfl (lv_at hl 1 rfl) ?_
  refine cp_f (va_runV (As := [.int p1]) (rest := [.float (f_X6_fy ys p3), .float (FP.fsub (f_X6_fx xs p2) (f_X6_fx xs p1))]) ⟨hx, hb, hml, hown, hts⟩ (c_X6_fy l dC dI a cI cJ xs ys pl lp lq lr v0 v1 v2 v3 v4 v5 v6 v7 p1 (by first | with_reducible assumption | exact in0_24 | exact in0_60 | decide) (by first | with_reducible assumption | exact in0_24 | exact in0_60 | decide)) (cwV 1 hts (gG_V mG_12_14 mG_12_15 mG_12_16 mG_1_5 (gG_c mG_12_17 gG_G)) rfl rfl rfl hd_X6_fy ⟨Nat.le_of_ble_eq_true rfl, Nat.le_of_ble_eq_true rfl⟩) (pPcV (ci := 10) (q0 := 0) hK hP rfl rfl) rfl rfl hl.1 rfl (lv_room (Nat.le_of_ble_eq_true rfl)) dX6_decidesTurn_18 ⟨Nat.le_of_ble_eq_true rfl, Nat.le_of_ble_eq_true rfl⟩) hP hS (fun H hP hS => ?_)
  refine lv_fsub hx hb dX6_decidesTurn_21 (mg_nn (mg_sub (mg_X6_fy hby) (mg_X6_fy hby) (by decide)) (by decide)) ?_
  refine lv_fmul hx hb dX6_decidesTurn_22 (mg_nn (mg_mul (mg_sub (mg_X6_fx hbx) (mg_X6_fx hbx) (by decide)) (mg_sub (mg_X6_fy hby) (mg_X6_fy hby) (by decide)) (by decide) (by decide)) (by decide)) ?_
  refine lv_topf (fun y1 ey1 => ?_)
  refine lv_fstore (lv' := [(4, .float y1), (0, .ref (a 0)), (1, .int p1), (2, .int p2), (3, .int p3)]) hx hb dX6_decidesTurn_23 hl (by decide) rfl (fun ls hl => ?_)
  refine lv_aload_n hx hb dX6_decidesTurn_25 rfl (lv_at hl 1 rfl) ?_
  refine lv_iload_n hx hb dX6_decidesTurn_26 rfl (lv_at hl 3 rfl) ?_
  refine cp_f (va_runV (As := [.int p2]) (rest := []) ⟨hx, hb, hml, hown, hts⟩ (c_X6_fy l dC dI a cI cJ xs ys pl lp lq lr v0 v1 v2 v3 v4 v5 v6 v7 p2 (by first | with_reducible assumption | exact in0_24 | exact in0_60 | decide) (by first | with_reducible assumption | exact in0_24 | exact in0_60 | decide)) (cwV 1 hts (gG_V mG_12_14 mG_12_15 mG_12_16 mG_1_5 (gG_c mG_12_17 gG_G)) rfl rfl rfl hd_X6_fy ⟨Nat.le_of_ble_eq_true rfl, Nat.le_of_ble_eq_true rfl⟩) (pPcV (ci := 10) (q0 := 0) hK hP rfl rfl) rfl rfl hl.1 rfl (lv_room (Nat.le_of_ble_eq_true rfl)) dX6_decidesTurn_27 ⟨Nat.le_of_ble_eq_true rfl, Nat.le_of_ble_eq_true rfl⟩) hP hS (fun H hP hS => ?_)
  refine lv_aload_n hx hb dX6_decidesTurn_30 rfl (lv_at hl 1 rfl) ?_
  refine lv_iload_n hx hb dX6_decidesTurn_31 rfl (lv_at hl 2 rfl) ?_
  refine cp_f (va_runV (As := [.int p1]) (rest := [.float (f_X6_fy ys p2)]) ⟨hx, hb, hml, hown, hts⟩ (c_X6_fy l dC dI a cI cJ xs ys pl lp lq lr v0 v1 v2 v3 v4 v5 v6 v7 p1 (by first | with_reducible assumption | exact in0_24 | exact in0_60 | decide) (by first | with_reducible assumption | exact in0_24 | exact in0_60 | decide)) (cwV 1 hts (gG_V mG_12_14 mG_12_15 mG_12_16 mG_1_5 (gG_c mG_12_17 gG_G)) rfl rfl rfl hd_X6_fy ⟨Nat.le_of_ble_eq_true rfl, Nat.le_of_ble_eq_true rfl⟩) (pPcV (ci := 10) (q0 := 0) hK hP rfl rfl) rfl rfl hl.1 rfl (lv_room (Nat.le_of_ble_eq_true rfl)) dX6_decidesTurn_32 ⟨Nat.le_of_ble_eq_true rfl, Nat.le_of_ble_eq_true rfl⟩) hP hS (fun H hP hS => ?_)
  refine lv_fsub hx hb dX6_decidesTurn_35 (mg_nn (mg_sub (mg_X6_fy hby) (mg_X6_fy hby) (by decide)) (by decide)) ?_
  refine lv_aload_n hx hb dX6_decidesTurn_36 rfl (lv_at hl 1 rfl) ?_
  refine lv_iload_n hx hb dX6_decidesTurn_37 rfl (lv_at hl 4 rfl) ?_
  refine cp_f (va_runV (As := [.int p3]) (rest := [.float (FP.fsub (f_X6_fy ys p2) (f_X6_fy ys p1))]) ⟨hx, hb, hml, hown, hts⟩ (c_X6_fx l dC dI a cI cJ xs ys pl lp lq lr v0 v1 v2 v3 v4 v5 v6 v7 p3 (by first | with_reducible assumption | exact in0_24 | exact in0_60 | decide) (by first | with_reducible assumption | exact in0_24 | exact in0_60 | decide)) (cwV 1 hts (gG_V mG_12_9 mG_12_10 mG_12_11 mG_1_5 (gG_c mG_12_12 gG_G)) rfl rfl rfl hd_X6_fx ⟨Nat.le_of_ble_eq_true rfl, Nat.le_of_ble_eq_true rfl⟩) (pPcV (ci := 10) (q0 := 0) hK hP rfl rfl) rfl rfl hl.1 rfl (lv_room (Nat.le_of_ble_eq_true rfl)) dX6_decidesTurn_38 ⟨Nat.le_of_ble_eq_true rfl, Nat.le_of_ble_eq_true rfl⟩) hP hS (fun H hP hS => ?_)
  refine lv_aload_n hx hb dX6_decidesTurn_41 rfl (lv_at hl 1 rfl) ?_
  refine lv_iload_n hx hb dX6_decidesTurn_42 rfl (lv_at hl 2 rfl) ?_
  refine cp_f (va_runV (As := [.int p1]) (rest := [.float (f_X6_fx xs p3), .float (FP.fsub (f_X6_fy ys p2) (f_X6_fy ys p1))]) ⟨hx, hb, hml, hown, hts⟩ (c_X6_fx l dC dI a cI cJ xs ys pl lp lq lr v0 v1 v2 v3 v4 v5 v6 v7 p1 (by first | with_reducible assumption | exact in0_24 | exact in0_60 | decide) (by first | with_reducible assumption | exact in0_24 | exact in0_60 | decide)) (cwV 1 hts (gG_V mG_12_9 mG_12_10 mG_12_11 mG_1_5 (gG_c mG_12_12 gG_G)) rfl rfl rfl hd_X6_fx ⟨Nat.le_of_ble_eq_true rfl, Nat.le_of_ble_eq_true rfl⟩) (pPcV (ci := 10) (q0 := 0) hK hP rfl rfl) rfl rfl hl.1 rfl (lv_room (Nat.le_of_ble_eq_true rfl)) dX6_decidesTurn_43 ⟨Nat.le_of_ble_eq_true rfl, Nat.le_of_ble_eq_true rfl⟩) hP hS (fun H hP hS => ?_)
  refine lv_fsub hx hb dX6_decidesTurn_46 (mg_nn (mg_sub (mg_X6_fx hbx) (mg_X6_fx hbx) (by decide)) (by decide)) ?_
  refine lv_fmul hx hb dX6_decidesTurn_47 (mg_nn (mg_mul (mg_sub (mg_X6_fy hby) (mg_X6_fy hby) (by decide)) (mg_sub (mg_X6_fx hbx) (mg_X6_fx hbx) (by decide)) (by decide) (by decide)) (by decide)) ?_
  refine lv_topf (fun y2 ey2 => ?_)
  refine lv_fstore (lv' := [(5, .float y2), (4, .float y1), (0, .ref (a 0)), (1, .int p1), (2, .int p2), (3, .int p3)]) hx hb dX6_decidesTurn_48 hl (by decide) rfl (fun ls hl => ?_)
  refine lv_fload hx hb dX6_decidesTurn_50 (lv_at hl 1 rfl) ?_
  refine lv_fload hx hb dX6_decidesTurn_52 (lv_at hl 0 rfl) ?_
  refine lv_fsub hx hb dX6_decidesTurn_54 (mg_nn (mg_sub (mg_eq ey1 (mg_mul (mg_sub (mg_X6_fx hbx) (mg_X6_fx hbx) (by decide)) (mg_sub (mg_X6_fy hby) (mg_X6_fy hby) (by decide)) (by decide) (by decide))) (mg_eq ey2 (mg_mul (mg_sub (mg_X6_fy hby) (mg_X6_fy hby) (by decide)) (mg_sub (mg_X6_fx hbx) (mg_X6_fx hbx) (by decide)) (by decide) (by decide))) (by decide)) (by decide)) ?_
  refine lv_topf (fun y3 ey3 => ?_)
  refine lv_fstore (lv' := [(6, .float y3), (5, .float y2), (4, .float y1), (0, .ref (a 0)), (1, .int p1), (2, .int p2), (3, .int p3)]) hx hb dX6_decidesTurn_55 hl (by decide) rfl (fun ls hl => ?_)
  refine lv_aload_n hx hb dX6_decidesTurn_57 rfl (lv_at hl 3 rfl) ?_
  refine lv_iload_n hx hb dX6_decidesTurn_58 rfl (lv_at hl 4 rfl) ?_
  refine lv_iload_n hx hb dX6_decidesTurn_59 rfl (lv_at hl 5 rfl) ?_
  refine lv_iload_n hx hb dX6_decidesTurn_60 rfl (lv_at hl 6 rfl) ?_
  refine cp_f (va_runV (As := [.int p1, .int p2, .int p3]) (rest := []) ⟨hx, hb, hml, hown, hts⟩ (c_X6_most l dC dI a cI cJ xs ys pl lp lq lr v0 v1 v2 v3 v4 v5 v6 v7 p1 p2 p3 (by first | with_reducible assumption | exact in0_24 | exact in0_60 | decide) (by first | with_reducible assumption | exact in0_24 | exact in0_60 | decide) (by first | with_reducible assumption | exact in0_24 | exact in0_60 | decide) (by first | with_reducible assumption | exact in0_24 | exact in0_60 | decide) (by first | with_reducible assumption | exact in0_24 | exact in0_60 | decide)) (cwV 3 hts (gG_V mG_12_18 mG_12_19 mG_12_20 mG_1_5 (gG_c mG_12_21 gG_G)) rfl rfl rfl hd_X6_most ⟨Nat.le_of_ble_eq_true rfl, Nat.le_of_ble_eq_true rfl⟩) (pPcV (ci := 10) (q0 := 0) hK hP rfl rfl) rfl rfl hl.1 rfl (lv_room (Nat.le_of_ble_eq_true rfl)) dX6_decidesTurn_61 ⟨Nat.le_of_ble_eq_true rfl, Nat.le_of_ble_eq_true rfl⟩) hP hS (fun H hP hS => ?_)
  refine lv_topf (fun y4 ey4 => ?_)
  refine lv_fstore (lv' := [(7, .float y4), (6, .float y3), (5, .float y2), (4, .float y1), (0, .ref (a 0)), (1, .int p1), (2, .int p2), (3, .int p3)]) hx hb dX6_decidesTurn_64 hl (by decide) rfl (fun ls hl => ?_)
  refine lv_fload hx hb dX6_decidesTurn_66 (lv_at hl 0 rfl) ?_
  refine lv_fload hx hb dX6_decidesTurn_68 (lv_at hl 0 rfl) ?_
  refine lv_fmul hx hb dX6_decidesTurn_70 (mg_nn (mg_mul (mg_eq ey4 (mg_X6_most hbx hby)) (mg_eq ey4 (mg_X6_most hbx hby)) (by decide) (by decide)) (by decide)) ?_
  refine lv_ldcf hx hb hown (hts _ mG_12_8) dX6_decidesTurn_71 ?_
  refine lv_fmul hx hb dX6_decidesTurn_73 (mg_nn (mg_mul (mg_mul (mg_eq ey4 (mg_X6_most hbx hby)) (mg_eq ey4 (mg_X6_most hbx hby)) (by decide) (by decide)) mg_c1 (by decide) (by decide)) (by decide)) ?_
  refine lv_topf (fun y5 ey5 => ?_)
  refine lv_fstore (lv' := [(8, .float y5), (7, .float y4), (6, .float y3), (5, .float y2), (4, .float y1), (0, .ref (a 0)), (1, .int p1), (2, .int p2), (3, .int p3)]) hx hb dX6_decidesTurn_74 hl (by decide) rfl (fun ls hl => ?_)
  refine lv_fload hx hb dX6_decidesTurn_76 (lv_at hl 2 rfl) ?_
  refine cp_f (va_runS (As := [.float y3]) (rest := []) ⟨hx, hb, hml, hown, hts⟩ (c_X6_size_ l y3 ) (va_cwS 1 hts (gG_S mG_12_22 mG_12_23 mG_1_5 (gG_c mG_13_0 gG_G)) rfl rfl rfl hs_X6_size_ ⟨Nat.le_of_ble_eq_true rfl, Nat.le_of_ble_eq_true rfl⟩) nPcS rfl rfl hl.1 rfl (lv_room (Nat.le_of_ble_eq_true rfl)) dX6_decidesTurn_78 ⟨Nat.le_of_ble_eq_true rfl, Nat.le_of_ble_eq_true rfl⟩) hP hS (fun H hP hS => ?_)
  refine lv_fload hx hb dX6_decidesTurn_81 (lv_at hl 0 rfl) ?_
  refine lv_fcmp hx hb dX6_decidesTurn_83 ?_
  refine lv_if_le (tgt := 91) hx hb dX6_decidesTurn_84 (by decide) (fun c6 => ?_) (fun c6 => ?_)
  · skip
    refine lv_iconst (v := (0 : Int32)) hx hb dX6_decidesTurn_91 (by decide) ?_
    exact rp_z hQ hx hb hr hlk hS (Eq.symm (by subst ey1; subst ey2; subst ey3; subst ey4; subst ey5; simp only [f_X6_decidesTurn, if_pos c6])) (by decide) dX6_decidesTurn_92
  · skip
    refine lv_iconst (v := (1 : Int32)) hx hb dX6_decidesTurn_87 (by decide) ?_
    refine lv_goto (tgt := 92) hx hb dX6_decidesTurn_88 (by decide) ?_
    exact rp_z hQ hx hb hr hlk hS (Eq.symm (by subst ey1; subst ey2; subst ey3; subst ey4; subst ey5; simp only [f_X6_decidesTurn, if_neg c6])) (by decide) dX6_decidesTurn_92
/-! X6_decidesRing -/
theorem hs_X6_decidesRing : yX6_decidesRing.cls ≠ "java/lang/invoke/MethodHandle" ∧ yX6_decidesRing.cls ≠ "java/lang/invoke/VarHandle" ∧ (parseMethodDescriptor yX6_decidesRing.desc).map (fun d => d.parameters.length) = some 4 := by decide +kernel
theorem hd_X6_decidesRing : yX6_decidesRing.cls = RX6 ∧ yX6_decidesRing.cls ≠ "java/lang/invoke/MethodHandle" ∧ yX6_decidesRing.cls ≠ "java/lang/invoke/VarHandle" ∧ (parseMethodDescriptor yX6_decidesRing.desc).map (fun d => d.parameters.length) = some 4 := ⟨rfl, hs_X6_decidesRing⟩
def f_X6_decidesRing (xs : Nat → Int32) (ys : Nat → Int32) (p1 : Int32) (p2 : Int32) (p3 : Int32) (p4 : Int32) : Int32 := (if (Op.cmpValue (FP.fcmp (f_X6_size_ (FP.fadd (FP.fadd (FP.fmul (FP.fadd (FP.fmul (FP.fsub (f_X6_fx xs p1) (f_X6_fx xs p4)) (FP.fsub (f_X6_fx xs p1) (f_X6_fx xs p4))) (FP.fmul (FP.fsub (f_X6_fy ys p1) (f_X6_fy ys p4)) (FP.fsub (f_X6_fy ys p1) (f_X6_fy ys p4)))) (FP.fsub (FP.fmul (FP.fsub (f_X6_fx xs p2) (f_X6_fx xs p4)) (FP.fsub (f_X6_fy ys p3) (f_X6_fy ys p4))) (FP.fmul (FP.fsub (f_X6_fy ys p2) (f_X6_fy ys p4)) (FP.fsub (f_X6_fx xs p3) (f_X6_fx xs p4))))) (FP.fmul (FP.fadd (FP.fmul (FP.fsub (f_X6_fx xs p2) (f_X6_fx xs p4)) (FP.fsub (f_X6_fx xs p2) (f_X6_fx xs p4))) (FP.fmul (FP.fsub (f_X6_fy ys p2) (f_X6_fy ys p4)) (FP.fsub (f_X6_fy ys p2) (f_X6_fy ys p4)))) (FP.fsub (FP.fmul (FP.fsub (f_X6_fx xs p3) (f_X6_fx xs p4)) (FP.fsub (f_X6_fy ys p1) (f_X6_fy ys p4))) (FP.fmul (FP.fsub (f_X6_fy ys p3) (f_X6_fy ys p4)) (FP.fsub (f_X6_fx xs p1) (f_X6_fx xs p4)))))) (FP.fmul (FP.fadd (FP.fmul (FP.fsub (f_X6_fx xs p3) (f_X6_fx xs p4)) (FP.fsub (f_X6_fx xs p3) (f_X6_fx xs p4))) (FP.fmul (FP.fsub (f_X6_fy ys p3) (f_X6_fy ys p4)) (FP.fsub (f_X6_fy ys p3) (f_X6_fy ys p4)))) (FP.fsub (FP.fmul (FP.fsub (f_X6_fx xs p1) (f_X6_fx xs p4)) (FP.fsub (f_X6_fy ys p2) (f_X6_fy ys p4))) (FP.fmul (FP.fsub (f_X6_fy ys p1) (f_X6_fy ys p4)) (FP.fsub (f_X6_fx xs p2) (f_X6_fx xs p4))))))) (FP.fmul (FP.fmul (FP.fmul (f_X6_greater (f_X6_most xs ys p1 p2 p3) (f_X6_greater (f_X6_size_ (f_X6_fx xs p4)) (f_X6_size_ (f_X6_fy ys p4)))) (f_X6_greater (f_X6_most xs ys p1 p2 p3) (f_X6_greater (f_X6_size_ (f_X6_fx xs p4)) (f_X6_size_ (f_X6_fy ys p4))))) (FP.fmul (f_X6_greater (f_X6_most xs ys p1 p2 p3) (f_X6_greater (f_X6_size_ (f_X6_fx xs p4)) (f_X6_size_ (f_X6_fy ys p4)))) (f_X6_greater (f_X6_most xs ys p1 p2 p3) (f_X6_greater (f_X6_size_ (f_X6_fx xs p4)) (f_X6_size_ (f_X6_fy ys p4)))))) (964689920 : UInt32))) CmpOp.l) ≤ 0 then (0 : Int32) else (1 : Int32))
abbrev rm_X6_decidesRing : Room := { frames := 2, cells := 0, slots := 0, locals := 44 }
set_option maxHeartbeats 8000000 in
set_option maxRecDepth 100000 in
theorem c_X6_decidesRing (l : Launch) (dC : Nat → ClassId) (dI : Nat → Nat → Nat) (a : Nat → Nat) (cI cJ : ClassId) (xs : Nat → Int32) (ys : Nat → Int32) (pl : Nat → Int32) (lp : Nat → Int64) (lq : Nat → Int64) (lr : Nat → Int64) (v0 : Int32) (v1 : Int32) (v2 : Int32) (v3 : Int32) (v4 : Int32) (v5 : Int32) (v6 : Int32) (v7 : Int32) (p1 : Int32) (p2 : Int32) (p3 : Int32) (p4 : Int32) (hi1 : vp_in p1 60) (hi2 : vp_in p2 60) (hi3 : vp_in p3 60) (hi4 : vp_in p4 60) (hbx : ∀ j : Nat, (xs j).toInt.natAbs ≤ 16384) (hby : ∀ j : Nat, (ys j).toInt.natAbs ≤ 16384) : Met l yX6_decidesRing (Cond.code yX6_decidesRing cX6_decidesRing 17 (some .boolean) :: lw_G) rm_X6_decidesRing (pPc (dC, dI) (tIJ cI cJ) (wM a cI cJ xs ys pl lp lq lr v0 v1 v2 v3 v4 v5 v6 v7) [.ref (a 0), .int p1, .int p2, .int p3, .int p4]) (pQi (f_X6_decidesRing xs ys p1 p2 p3 p4)) 0 0 pNo := by
  refine pm_of (by decide) (Nat.le_of_ble_eq_true rfl) ?_
  intro p e s m args below meth c Q ls hQ hx hb hr hlk hml hown hts hP hK hS hl
  have hown : s.vm.findClass RX6 = some m.cls := hown
  have hl : lv_has ls 17 [(0, .ref (a 0)), (1, .int p1), (2, .int p2), (3, .int p3), (4, .int p4)] := hl
  refine lv_aload_n hx hb dX6_decidesRing_0 rfl (lv_at hl 0 rfl) ?_
  refine lv_iload_n hx hb dX6_decidesRing_1 rfl (lv_at hl 1 rfl) ?_
  refine cp_f (va_runV (As := [.int p1]) (rest := []) ⟨hx, hb, hml, hown, hts⟩ (c_X6_fx l dC dI a cI cJ xs ys pl lp lq lr v0 v1 v2 v3 v4 v5 v6 v7 p1 (by first | with_reducible assumption | exact in0_24 | exact in0_60 | decide) (by first | with_reducible assumption | exact in0_24 | exact in0_60 | decide)) (cwV 1 hts (gG_V mG_12_9 mG_12_10 mG_12_11 mG_1_5 (gG_c mG_12_12 gG_G)) rfl rfl rfl hd_X6_fx ⟨Nat.le_of_ble_eq_true rfl, Nat.le_of_ble_eq_true rfl⟩) (pPcV (ci := 10) (q0 := 0) hK hP rfl rfl) rfl rfl hl.1 rfl (lv_room (Nat.le_of_ble_eq_true rfl)) dX6_decidesRing_2 ⟨Nat.le_of_ble_eq_true rfl, Nat.le_of_ble_eq_true rfl⟩) hP hS (fun H hP hS => ?_)
  refine lv_aload_n hx hb dX6_decidesRing_5 rfl (lv_at hl 0 rfl) ?_
  refine lv_iload hx hb dX6_decidesRing_6 (lv_at hl 4 rfl) ?_
  refine cp_f (va_runV (As := [.int p4]) (rest := [.float (f_X6_fx xs p1)]) ⟨hx, hb, hml, hown, hts⟩ (c_X6_fx l dC dI a cI cJ xs ys pl lp lq lr v0 v1 v2 v3 v4 v5 v6 v7 p4 (by first | with_reducible assumption | exact in0_24 | exact in0_60 | decide) (by first | with_reducible assumption | exact in0_24 | exact in0_60 | decide)) (cwV 1 hts (gG_V mG_12_9 mG_12_10 mG_12_11 mG_1_5 (gG_c mG_12_12 gG_G)) rfl rfl rfl hd_X6_fx ⟨Nat.le_of_ble_eq_true rfl, Nat.le_of_ble_eq_true rfl⟩) (pPcV (ci := 10) (q0 := 0) hK hP rfl rfl) rfl rfl hl.1 rfl (lv_room (Nat.le_of_ble_eq_true rfl)) dX6_decidesRing_8 ⟨Nat.le_of_ble_eq_true rfl, Nat.le_of_ble_eq_true rfl⟩) hP hS (fun H hP hS => ?_)
  refine lv_fsub hx hb dX6_decidesRing_11 (mg_nn (mg_sub (mg_X6_fx hbx) (mg_X6_fx hbx) (by decide)) (by decide)) ?_
  refine lv_topf (fun y1 ey1 => ?_)
  refine lv_fstore (lv' := [(5, .float y1), (0, .ref (a 0)), (1, .int p1), (2, .int p2), (3, .int p3), (4, .int p4)]) hx hb dX6_decidesRing_12 hl (by decide) rfl (fun ls hl => ?_)
  refine lv_aload_n hx hb dX6_decidesRing_14 rfl (lv_at hl 1 rfl) ?_
  refine lv_iload_n hx hb dX6_decidesRing_15 rfl (lv_at hl 2 rfl) ?_
  refine cp_f (va_runV (As := [.int p1]) (rest := []) ⟨hx, hb, hml, hown, hts⟩ (c_X6_fy l dC dI a cI cJ xs ys pl lp lq lr v0 v1 v2 v3 v4 v5 v6 v7 p1 (by first | with_reducible assumption | exact in0_24 | exact in0_60 | decide) (by first | with_reducible assumption | exact in0_24 | exact in0_60 | decide)) (cwV 1 hts (gG_V mG_12_14 mG_12_15 mG_12_16 mG_1_5 (gG_c mG_12_17 gG_G)) rfl rfl rfl hd_X6_fy ⟨Nat.le_of_ble_eq_true rfl, Nat.le_of_ble_eq_true rfl⟩) (pPcV (ci := 10) (q0 := 0) hK hP rfl rfl) rfl rfl hl.1 rfl (lv_room (Nat.le_of_ble_eq_true rfl)) dX6_decidesRing_16 ⟨Nat.le_of_ble_eq_true rfl, Nat.le_of_ble_eq_true rfl⟩) hP hS (fun H hP hS => ?_)
  refine lv_aload_n hx hb dX6_decidesRing_19 rfl (lv_at hl 1 rfl) ?_
  refine lv_iload hx hb dX6_decidesRing_20 (lv_at hl 5 rfl) ?_
  refine cp_f (va_runV (As := [.int p4]) (rest := [.float (f_X6_fy ys p1)]) ⟨hx, hb, hml, hown, hts⟩ (c_X6_fy l dC dI a cI cJ xs ys pl lp lq lr v0 v1 v2 v3 v4 v5 v6 v7 p4 (by first | with_reducible assumption | exact in0_24 | exact in0_60 | decide) (by first | with_reducible assumption | exact in0_24 | exact in0_60 | decide)) (cwV 1 hts (gG_V mG_12_14 mG_12_15 mG_12_16 mG_1_5 (gG_c mG_12_17 gG_G)) rfl rfl rfl hd_X6_fy ⟨Nat.le_of_ble_eq_true rfl, Nat.le_of_ble_eq_true rfl⟩) (pPcV (ci := 10) (q0 := 0) hK hP rfl rfl) rfl rfl hl.1 rfl (lv_room (Nat.le_of_ble_eq_true rfl)) dX6_decidesRing_22 ⟨Nat.le_of_ble_eq_true rfl, Nat.le_of_ble_eq_true rfl⟩) hP hS (fun H hP hS => ?_)
  refine lv_fsub hx hb dX6_decidesRing_25 (mg_nn (mg_sub (mg_X6_fy hby) (mg_X6_fy hby) (by decide)) (by decide)) ?_
  refine lv_topf (fun y2 ey2 => ?_)
  refine lv_fstore (lv' := [(6, .float y2), (5, .float y1), (0, .ref (a 0)), (1, .int p1), (2, .int p2), (3, .int p3), (4, .int p4)]) hx hb dX6_decidesRing_26 hl (by decide) rfl (fun ls hl => ?_)
  refine lv_aload_n hx hb dX6_decidesRing_28 rfl (lv_at hl 2 rfl) ?_
  refine lv_iload_n hx hb dX6_decidesRing_29 rfl (lv_at hl 4 rfl) ?_
  refine cp_f (va_runV (As := [.int p2]) (rest := []) ⟨hx, hb, hml, hown, hts⟩ (c_X6_fx l dC dI a cI cJ xs ys pl lp lq lr v0 v1 v2 v3 v4 v5 v6 v7 p2 (by first | with_reducible assumption | exact in0_24 | exact in0_60 | decide) (by first | with_reducible assumption | exact in0_24 | exact in0_60 | decide)) (cwV 1 hts (gG_V mG_12_9 mG_12_10 mG_12_11 mG_1_5 (gG_c mG_12_12 gG_G)) rfl rfl rfl hd_X6_fx ⟨Nat.le_of_ble_eq_true rfl, Nat.le_of_ble_eq_true rfl⟩) (pPcV (ci := 10) (q0 := 0) hK hP rfl rfl) rfl rfl hl.1 rfl (lv_room (Nat.le_of_ble_eq_true rfl)) dX6_decidesRing_30 ⟨Nat.le_of_ble_eq_true rfl, Nat.le_of_ble_eq_true rfl⟩) hP hS (fun H hP hS => ?_)
  refine lv_aload_n hx hb dX6_decidesRing_33 rfl (lv_at hl 2 rfl) ?_
  refine lv_iload hx hb dX6_decidesRing_34 (lv_at hl 6 rfl) ?_
  refine cp_f (va_runV (As := [.int p4]) (rest := [.float (f_X6_fx xs p2)]) ⟨hx, hb, hml, hown, hts⟩ (c_X6_fx l dC dI a cI cJ xs ys pl lp lq lr v0 v1 v2 v3 v4 v5 v6 v7 p4 (by first | with_reducible assumption | exact in0_24 | exact in0_60 | decide) (by first | with_reducible assumption | exact in0_24 | exact in0_60 | decide)) (cwV 1 hts (gG_V mG_12_9 mG_12_10 mG_12_11 mG_1_5 (gG_c mG_12_12 gG_G)) rfl rfl rfl hd_X6_fx ⟨Nat.le_of_ble_eq_true rfl, Nat.le_of_ble_eq_true rfl⟩) (pPcV (ci := 10) (q0 := 0) hK hP rfl rfl) rfl rfl hl.1 rfl (lv_room (Nat.le_of_ble_eq_true rfl)) dX6_decidesRing_36 ⟨Nat.le_of_ble_eq_true rfl, Nat.le_of_ble_eq_true rfl⟩) hP hS (fun H hP hS => ?_)
  refine lv_fsub hx hb dX6_decidesRing_39 (mg_nn (mg_sub (mg_X6_fx hbx) (mg_X6_fx hbx) (by decide)) (by decide)) ?_
  refine lv_topf (fun y3 ey3 => ?_)
  refine lv_fstore (lv' := [(7, .float y3), (6, .float y2), (5, .float y1), (0, .ref (a 0)), (1, .int p1), (2, .int p2), (3, .int p3), (4, .int p4)]) hx hb dX6_decidesRing_40 hl (by decide) rfl (fun ls hl => ?_)
  refine lv_aload_n hx hb dX6_decidesRing_42 rfl (lv_at hl 3 rfl) ?_
  refine lv_iload_n hx hb dX6_decidesRing_43 rfl (lv_at hl 5 rfl) ?_
  refine cp_f (va_runV (As := [.int p2]) (rest := []) ⟨hx, hb, hml, hown, hts⟩ (c_X6_fy l dC dI a cI cJ xs ys pl lp lq lr v0 v1 v2 v3 v4 v5 v6 v7 p2 (by first | with_reducible assumption | exact in0_24 | exact in0_60 | decide) (by first | with_reducible assumption | exact in0_24 | exact in0_60 | decide)) (cwV 1 hts (gG_V mG_12_14 mG_12_15 mG_12_16 mG_1_5 (gG_c mG_12_17 gG_G)) rfl rfl rfl hd_X6_fy ⟨Nat.le_of_ble_eq_true rfl, Nat.le_of_ble_eq_true rfl⟩) (pPcV (ci := 10) (q0 := 0) hK hP rfl rfl) rfl rfl hl.1 rfl (lv_room (Nat.le_of_ble_eq_true rfl)) dX6_decidesRing_44 ⟨Nat.le_of_ble_eq_true rfl, Nat.le_of_ble_eq_true rfl⟩) hP hS (fun H hP hS => ?_)
  refine lv_aload_n hx hb dX6_decidesRing_47 rfl (lv_at hl 3 rfl) ?_
  refine lv_iload hx hb dX6_decidesRing_48 (lv_at hl 7 rfl) ?_
  refine cp_f (va_runV (As := [.int p4]) (rest := [.float (f_X6_fy ys p2)]) ⟨hx, hb, hml, hown, hts⟩ (c_X6_fy l dC dI a cI cJ xs ys pl lp lq lr v0 v1 v2 v3 v4 v5 v6 v7 p4 (by first | with_reducible assumption | exact in0_24 | exact in0_60 | decide) (by first | with_reducible assumption | exact in0_24 | exact in0_60 | decide)) (cwV 1 hts (gG_V mG_12_14 mG_12_15 mG_12_16 mG_1_5 (gG_c mG_12_17 gG_G)) rfl rfl rfl hd_X6_fy ⟨Nat.le_of_ble_eq_true rfl, Nat.le_of_ble_eq_true rfl⟩) (pPcV (ci := 10) (q0 := 0) hK hP rfl rfl) rfl rfl hl.1 rfl (lv_room (Nat.le_of_ble_eq_true rfl)) dX6_decidesRing_50 ⟨Nat.le_of_ble_eq_true rfl, Nat.le_of_ble_eq_true rfl⟩) hP hS (fun H hP hS => ?_)
  refine lv_fsub hx hb dX6_decidesRing_53 (mg_nn (mg_sub (mg_X6_fy hby) (mg_X6_fy hby) (by decide)) (by decide)) ?_
  refine lv_topf (fun y4 ey4 => ?_)
  refine lv_fstore (lv' := [(8, .float y4), (7, .float y3), (6, .float y2), (5, .float y1), (0, .ref (a 0)), (1, .int p1), (2, .int p2), (3, .int p3), (4, .int p4)]) hx hb dX6_decidesRing_54 hl (by decide) rfl (fun ls hl => ?_)
  refine lv_aload_n hx hb dX6_decidesRing_56 rfl (lv_at hl 4 rfl) ?_
  refine lv_iload_n hx hb dX6_decidesRing_57 rfl (lv_at hl 7 rfl) ?_
  refine cp_f (va_runV (As := [.int p3]) (rest := []) ⟨hx, hb, hml, hown, hts⟩ (c_X6_fx l dC dI a cI cJ xs ys pl lp lq lr v0 v1 v2 v3 v4 v5 v6 v7 p3 (by first | with_reducible assumption | exact in0_24 | exact in0_60 | decide) (by first | with_reducible assumption | exact in0_24 | exact in0_60 | decide)) (cwV 1 hts (gG_V mG_12_9 mG_12_10 mG_12_11 mG_1_5 (gG_c mG_12_12 gG_G)) rfl rfl rfl hd_X6_fx ⟨Nat.le_of_ble_eq_true rfl, Nat.le_of_ble_eq_true rfl⟩) (pPcV (ci := 10) (q0 := 0) hK hP rfl rfl) rfl rfl hl.1 rfl (lv_room (Nat.le_of_ble_eq_true rfl)) dX6_decidesRing_58 ⟨Nat.le_of_ble_eq_true rfl, Nat.le_of_ble_eq_true rfl⟩) hP hS (fun H hP hS => ?_)
  refine lv_aload_n hx hb dX6_decidesRing_61 rfl (lv_at hl 4 rfl) ?_
  refine lv_iload hx hb dX6_decidesRing_62 (lv_at hl 8 rfl) ?_
  refine cp_f (va_runV (As := [.int p4]) (rest := [.float (f_X6_fx xs p3)]) ⟨hx, hb, hml, hown, hts⟩ (c_X6_fx l dC dI a cI cJ xs ys pl lp lq lr v0 v1 v2 v3 v4 v5 v6 v7 p4 (by first | with_reducible assumption | exact in0_24 | exact in0_60 | decide) (by first | with_reducible assumption | exact in0_24 | exact in0_60 | decide)) (cwV 1 hts (gG_V mG_12_9 mG_12_10 mG_12_11 mG_1_5 (gG_c mG_12_12 gG_G)) rfl rfl rfl hd_X6_fx ⟨Nat.le_of_ble_eq_true rfl, Nat.le_of_ble_eq_true rfl⟩) (pPcV (ci := 10) (q0 := 0) hK hP rfl rfl) rfl rfl hl.1 rfl (lv_room (Nat.le_of_ble_eq_true rfl)) dX6_decidesRing_64 ⟨Nat.le_of_ble_eq_true rfl, Nat.le_of_ble_eq_true rfl⟩) hP hS (fun H hP hS => ?_)
  refine lv_fsub hx hb dX6_decidesRing_67 (mg_nn (mg_sub (mg_X6_fx hbx) (mg_X6_fx hbx) (by decide)) (by decide)) ?_
  refine lv_topf (fun y5 ey5 => ?_)
  refine lv_fstore (lv' := [(9, .float y5), (8, .float y4), (7, .float y3), (6, .float y2), (5, .float y1), (0, .ref (a 0)), (1, .int p1), (2, .int p2), (3, .int p3), (4, .int p4)]) hx hb dX6_decidesRing_68 hl (by decide) rfl (fun ls hl => ?_)
  refine lv_aload_n hx hb dX6_decidesRing_70 rfl (lv_at hl 5 rfl) ?_
  refine lv_iload_n hx hb dX6_decidesRing_71 rfl (lv_at hl 8 rfl) ?_
  refine cp_f (va_runV (As := [.int p3]) (rest := []) ⟨hx, hb, hml, hown, hts⟩ (c_X6_fy l dC dI a cI cJ xs ys pl lp lq lr v0 v1 v2 v3 v4 v5 v6 v7 p3 (by first | with_reducible assumption | exact in0_24 | exact in0_60 | decide) (by first | with_reducible assumption | exact in0_24 | exact in0_60 | decide)) (cwV 1 hts (gG_V mG_12_14 mG_12_15 mG_12_16 mG_1_5 (gG_c mG_12_17 gG_G)) rfl rfl rfl hd_X6_fy ⟨Nat.le_of_ble_eq_true rfl, Nat.le_of_ble_eq_true rfl⟩) (pPcV (ci := 10) (q0 := 0) hK hP rfl rfl) rfl rfl hl.1 rfl (lv_room (Nat.le_of_ble_eq_true rfl)) dX6_decidesRing_72 ⟨Nat.le_of_ble_eq_true rfl, Nat.le_of_ble_eq_true rfl⟩) hP hS (fun H hP hS => ?_)
  refine lv_aload_n hx hb dX6_decidesRing_75 rfl (lv_at hl 5 rfl) ?_
  refine lv_iload hx hb dX6_decidesRing_76 (lv_at hl 9 rfl) ?_
  refine cp_f (va_runV (As := [.int p4]) (rest := [.float (f_X6_fy ys p3)]) ⟨hx, hb, hml, hown, hts⟩ (c_X6_fy l dC dI a cI cJ xs ys pl lp lq lr v0 v1 v2 v3 v4 v5 v6 v7 p4 (by first | with_reducible assumption | exact in0_24 | exact in0_60 | decide) (by first | with_reducible assumption | exact in0_24 | exact in0_60 | decide)) (cwV 1 hts (gG_V mG_12_14 mG_12_15 mG_12_16 mG_1_5 (gG_c mG_12_17 gG_G)) rfl rfl rfl hd_X6_fy ⟨Nat.le_of_ble_eq_true rfl, Nat.le_of_ble_eq_true rfl⟩) (pPcV (ci := 10) (q0 := 0) hK hP rfl rfl) rfl rfl hl.1 rfl (lv_room (Nat.le_of_ble_eq_true rfl)) dX6_decidesRing_78 ⟨Nat.le_of_ble_eq_true rfl, Nat.le_of_ble_eq_true rfl⟩) hP hS (fun H hP hS => ?_)
  refine lv_fsub hx hb dX6_decidesRing_81 (mg_nn (mg_sub (mg_X6_fy hby) (mg_X6_fy hby) (by decide)) (by decide)) ?_
  refine lv_topf (fun y6 ey6 => ?_)
  refine lv_fstore (lv' := [(10, .float y6), (9, .float y5), (8, .float y4), (7, .float y3), (6, .float y2), (5, .float y1), (0, .ref (a 0)), (1, .int p1), (2, .int p2), (3, .int p3), (4, .int p4)]) hx hb dX6_decidesRing_82 hl (by decide) rfl (fun ls hl => ?_)
  refine lv_fload hx hb dX6_decidesRing_84 (lv_at hl 5 rfl) ?_
  refine lv_fload hx hb dX6_decidesRing_86 (lv_at hl 5 rfl) ?_
  refine lv_fmul hx hb dX6_decidesRing_88 (mg_nn (mg_mul (mg_eq ey1 (mg_sub (mg_X6_fx hbx) (mg_X6_fx hbx) (by decide))) (mg_eq ey1 (mg_sub (mg_X6_fx hbx) (mg_X6_fx hbx) (by decide))) (by decide) (by decide)) (by decide)) ?_
  refine lv_fload hx hb dX6_decidesRing_89 (lv_at hl 4 rfl) ?_
  refine lv_fload hx hb dX6_decidesRing_91 (lv_at hl 4 rfl) ?_
  refine lv_fmul hx hb dX6_decidesRing_93 (mg_nn (mg_mul (mg_eq ey2 (mg_sub (mg_X6_fy hby) (mg_X6_fy hby) (by decide))) (mg_eq ey2 (mg_sub (mg_X6_fy hby) (mg_X6_fy hby) (by decide))) (by decide) (by decide)) (by decide)) ?_
  refine lv_fadd hx hb dX6_decidesRing_94 (mg_nn (mg_add (mg_mul (mg_eq ey1 (mg_sub (mg_X6_fx hbx) (mg_X6_fx hbx) (by decide))) (mg_eq ey1 (mg_sub (mg_X6_fx hbx) (mg_X6_fx hbx) (by decide))) (by decide) (by decide)) (mg_mul (mg_eq ey2 (mg_sub (mg_X6_fy hby) (mg_X6_fy hby) (by decide))) (mg_eq ey2 (mg_sub (mg_X6_fy hby) (mg_X6_fy hby) (by decide))) (by decide) (by decide)) (by decide)) (by decide)) ?_
  refine lv_topf (fun y7 ey7 => ?_)
  refine lv_fstore (lv' := [(11, .float y7), (10, .float y6), (9, .float y5), (8, .float y4), (7, .float y3), (6, .float y2), (5, .float y1), (0, .ref (a 0)), (1, .int p1), (2, .int p2), (3, .int p3), (4, .int p4)]) hx hb dX6_decidesRing_95 hl (by decide) rfl (fun ls hl => ?_)
  refine lv_fload hx hb dX6_decidesRing_97 (lv_at hl 4 rfl) ?_
  refine lv_fload hx hb dX6_decidesRing_99 (lv_at hl 4 rfl) ?_
  refine lv_fmul hx hb dX6_decidesRing_101 (mg_nn (mg_mul (mg_eq ey3 (mg_sub (mg_X6_fx hbx) (mg_X6_fx hbx) (by decide))) (mg_eq ey3 (mg_sub (mg_X6_fx hbx) (mg_X6_fx hbx) (by decide))) (by decide) (by decide)) (by decide)) ?_
  refine lv_fload hx hb dX6_decidesRing_102 (lv_at hl 3 rfl) ?_
  refine lv_fload hx hb dX6_decidesRing_104 (lv_at hl 3 rfl) ?_
  refine lv_fmul hx hb dX6_decidesRing_106 (mg_nn (mg_mul (mg_eq ey4 (mg_sub (mg_X6_fy hby) (mg_X6_fy hby) (by decide))) (mg_eq ey4 (mg_sub (mg_X6_fy hby) (mg_X6_fy hby) (by decide))) (by decide) (by decide)) (by decide)) ?_
  refine lv_fadd hx hb dX6_decidesRing_107 (mg_nn (mg_add (mg_mul (mg_eq ey3 (mg_sub (mg_X6_fx hbx) (mg_X6_fx hbx) (by decide))) (mg_eq ey3 (mg_sub (mg_X6_fx hbx) (mg_X6_fx hbx) (by decide))) (by decide) (by decide)) (mg_mul (mg_eq ey4 (mg_sub (mg_X6_fy hby) (mg_X6_fy hby) (by decide))) (mg_eq ey4 (mg_sub (mg_X6_fy hby) (mg_X6_fy hby) (by decide))) (by decide) (by decide)) (by decide)) (by decide)) ?_
  refine lv_topf (fun y8 ey8 => ?_)
  refine lv_fstore (lv' := [(12, .float y8), (11, .float y7), (10, .float y6), (9, .float y5), (8, .float y4), (7, .float y3), (6, .float y2), (5, .float y1), (0, .ref (a 0)), (1, .int p1), (2, .int p2), (3, .int p3), (4, .int p4)]) hx hb dX6_decidesRing_108 hl (by decide) rfl (fun ls hl => ?_)
  refine lv_fload hx hb dX6_decidesRing_110 (lv_at hl 3 rfl) ?_
  refine lv_fload hx hb dX6_decidesRing_112 (lv_at hl 3 rfl) ?_
  refine lv_fmul hx hb dX6_decidesRing_114 (mg_nn (mg_mul (mg_eq ey5 (mg_sub (mg_X6_fx hbx) (mg_X6_fx hbx) (by decide))) (mg_eq ey5 (mg_sub (mg_X6_fx hbx) (mg_X6_fx hbx) (by decide))) (by decide) (by decide)) (by decide)) ?_
  refine lv_fload hx hb dX6_decidesRing_115 (lv_at hl 2 rfl) ?_
  refine lv_fload hx hb dX6_decidesRing_117 (lv_at hl 2 rfl) ?_
  refine lv_fmul hx hb dX6_decidesRing_119 (mg_nn (mg_mul (mg_eq ey6 (mg_sub (mg_X6_fy hby) (mg_X6_fy hby) (by decide))) (mg_eq ey6 (mg_sub (mg_X6_fy hby) (mg_X6_fy hby) (by decide))) (by decide) (by decide)) (by decide)) ?_
  refine lv_fadd hx hb dX6_decidesRing_120 (mg_nn (mg_add (mg_mul (mg_eq ey5 (mg_sub (mg_X6_fx hbx) (mg_X6_fx hbx) (by decide))) (mg_eq ey5 (mg_sub (mg_X6_fx hbx) (mg_X6_fx hbx) (by decide))) (by decide) (by decide)) (mg_mul (mg_eq ey6 (mg_sub (mg_X6_fy hby) (mg_X6_fy hby) (by decide))) (mg_eq ey6 (mg_sub (mg_X6_fy hby) (mg_X6_fy hby) (by decide))) (by decide) (by decide)) (by decide)) (by decide)) ?_
  refine lv_topf (fun y9 ey9 => ?_)
  refine lv_fstore (lv' := [(13, .float y9), (12, .float y8), (11, .float y7), (10, .float y6), (9, .float y5), (8, .float y4), (7, .float y3), (6, .float y2), (5, .float y1), (0, .ref (a 0)), (1, .int p1), (2, .int p2), (3, .int p3), (4, .int p4)]) hx hb dX6_decidesRing_121 hl (by decide) rfl (fun ls hl => ?_)
  refine lv_fload hx hb dX6_decidesRing_123 (lv_at hl 2 rfl) ?_
  refine lv_fload hx hb dX6_decidesRing_125 (lv_at hl 6 rfl) ?_
  refine lv_fload hx hb dX6_decidesRing_127 (lv_at hl 3 rfl) ?_
  refine lv_fmul hx hb dX6_decidesRing_129 (mg_nn (mg_mul (mg_eq ey3 (mg_sub (mg_X6_fx hbx) (mg_X6_fx hbx) (by decide))) (mg_eq ey6 (mg_sub (mg_X6_fy hby) (mg_X6_fy hby) (by decide))) (by decide) (by decide)) (by decide)) ?_
  refine lv_fload hx hb dX6_decidesRing_130 (lv_at hl 5 rfl) ?_
  refine lv_fload hx hb dX6_decidesRing_132 (lv_at hl 4 rfl) ?_
  refine lv_fmul hx hb dX6_decidesRing_134 (mg_nn (mg_mul (mg_eq ey4 (mg_sub (mg_X6_fy hby) (mg_X6_fy hby) (by decide))) (mg_eq ey5 (mg_sub (mg_X6_fx hbx) (mg_X6_fx hbx) (by decide))) (by decide) (by decide)) (by decide)) ?_
  refine lv_fsub hx hb dX6_decidesRing_135 (mg_nn (mg_sub (mg_mul (mg_eq ey3 (mg_sub (mg_X6_fx hbx) (mg_X6_fx hbx) (by decide))) (mg_eq ey6 (mg_sub (mg_X6_fy hby) (mg_X6_fy hby) (by decide))) (by decide) (by decide)) (mg_mul (mg_eq ey4 (mg_sub (mg_X6_fy hby) (mg_X6_fy hby) (by decide))) (mg_eq ey5 (mg_sub (mg_X6_fx hbx) (mg_X6_fx hbx) (by decide))) (by decide) (by decide)) (by decide)) (by decide)) ?_
  refine lv_fmul hx hb dX6_decidesRing_136 (mg_nn (mg_mul (mg_eq ey7 (mg_add (mg_mul (mg_eq ey1 (mg_sub (mg_X6_fx hbx) (mg_X6_fx hbx) (by decide))) (mg_eq ey1 (mg_sub (mg_X6_fx hbx) (mg_X6_fx hbx) (by decide))) (by decide) (by decide)) (mg_mul (mg_eq ey2 (mg_sub (mg_X6_fy hby) (mg_X6_fy hby) (by decide))) (mg_eq ey2 (mg_sub (mg_X6_fy hby) (mg_X6_fy hby) (by decide))) (by decide) (by decide)) (by decide))) (mg_sub (mg_mul (mg_eq ey3 (mg_sub (mg_X6_fx hbx) (mg_X6_fx hbx) (by decide))) (mg_eq ey6 (mg_sub (mg_X6_fy hby) (mg_X6_fy hby) (by decide))) (by decide) (by decide)) (mg_mul (mg_eq ey4 (mg_sub (mg_X6_fy hby) (mg_X6_fy hby) (by decide))) (mg_eq ey5 (mg_sub (mg_X6_fx hbx) (mg_X6_fx hbx) (by decide))) (by decide) (by decide)) (by decide)) (by decide) (by decide)) (by decide)) ?_
  refine lv_fload hx hb dX6_decidesRing_137 (lv_at hl 1 rfl) ?_
  refine lv_fload hx hb dX6_decidesRing_139 (lv_at hl 4 rfl) ?_
  refine lv_fload hx hb dX6_decidesRing_141 (lv_at hl 7 rfl) ?_
  refine lv_fmul hx hb dX6_decidesRing_143 (mg_nn (mg_mul (mg_eq ey5 (mg_sub (mg_X6_fx hbx) (mg_X6_fx hbx) (by decide))) (mg_eq ey2 (mg_sub (mg_X6_fy hby) (mg_X6_fy hby) (by decide))) (by decide) (by decide)) (by decide)) ?_
  refine lv_fload hx hb dX6_decidesRing_144 (lv_at hl 3 rfl) ?_
  refine lv_fload hx hb dX6_decidesRing_146 (lv_at hl 8 rfl) ?_
  refine lv_fmul hx hb dX6_decidesRing_148 (mg_nn (mg_mul (mg_eq ey6 (mg_sub (mg_X6_fy hby) (mg_X6_fy hby) (by decide))) (mg_eq ey1 (mg_sub (mg_X6_fx hbx) (mg_X6_fx hbx) (by decide))) (by decide) (by decide)) (by decide)) ?_
  refine lv_fsub hx hb dX6_decidesRing_149 (mg_nn (mg_sub (mg_mul (mg_eq ey5 (mg_sub (mg_X6_fx hbx) (mg_X6_fx hbx) (by decide))) (mg_eq ey2 (mg_sub (mg_X6_fy hby) (mg_X6_fy hby) (by decide))) (by decide) (by decide)) (mg_mul (mg_eq ey6 (mg_sub (mg_X6_fy hby) (mg_X6_fy hby) (by decide))) (mg_eq ey1 (mg_sub (mg_X6_fx hbx) (mg_X6_fx hbx) (by decide))) (by decide) (by decide)) (by decide)) (by decide)) ?_
  refine lv_fmul hx hb dX6_decidesRing_150 (mg_nn (mg_mul (mg_eq ey8 (mg_add (mg_mul (mg_eq ey3 (mg_sub (mg_X6_fx hbx) (mg_X6_fx hbx) (by decide))) (mg_eq ey3 (mg_sub (mg_X6_fx hbx) (mg_X6_fx hbx) (by decide))) (by decide) (by decide)) (mg_mul (mg_eq ey4 (mg_sub (mg_X6_fy hby) (mg_X6_fy hby) (by decide))) (mg_eq ey4 (mg_sub (mg_X6_fy hby) (mg_X6_fy hby) (by decide))) (by decide) (by decide)) (by decide))) (mg_sub (mg_mul (mg_eq ey5 (mg_sub (mg_X6_fx hbx) (mg_X6_fx hbx) (by decide))) (mg_eq ey2 (mg_sub (mg_X6_fy hby) (mg_X6_fy hby) (by decide))) (by decide) (by decide)) (mg_mul (mg_eq ey6 (mg_sub (mg_X6_fy hby) (mg_X6_fy hby) (by decide))) (mg_eq ey1 (mg_sub (mg_X6_fx hbx) (mg_X6_fx hbx) (by decide))) (by decide) (by decide)) (by decide)) (by decide) (by decide)) (by decide)) ?_
  refine lv_fadd hx hb dX6_decidesRing_151 (mg_nn (mg_add (mg_mul (mg_eq ey7 (mg_add (mg_mul (mg_eq ey1 (mg_sub (mg_X6_fx hbx) (mg_X6_fx hbx) (by decide))) (mg_eq ey1 (mg_sub (mg_X6_fx hbx) (mg_X6_fx hbx) (by decide))) (by decide) (by decide)) (mg_mul (mg_eq ey2 (mg_sub (mg_X6_fy hby) (mg_X6_fy hby) (by decide))) (mg_eq ey2 (mg_sub (mg_X6_fy hby) (mg_X6_fy hby) (by decide))) (by decide) (by decide)) (by decide))) (mg_sub (mg_mul (mg_eq ey3 (mg_sub (mg_X6_fx hbx) (mg_X6_fx hbx) (by decide))) (mg_eq ey6 (mg_sub (mg_X6_fy hby) (mg_X6_fy hby) (by decide))) (by decide) (by decide)) (mg_mul (mg_eq ey4 (mg_sub (mg_X6_fy hby) (mg_X6_fy hby) (by decide))) (mg_eq ey5 (mg_sub (mg_X6_fx hbx) (mg_X6_fx hbx) (by decide))) (by decide) (by decide)) (by decide)) (by decide) (by decide)) (mg_mul (mg_eq ey8 (mg_add (mg_mul (mg_eq ey3 (mg_sub (mg_X6_fx hbx) (mg_X6_fx hbx) (by decide))) (mg_eq ey3 (mg_sub (mg_X6_fx hbx) (mg_X6_fx hbx) (by decide))) (by decide) (by decide)) (mg_mul (mg_eq ey4 (mg_sub (mg_X6_fy hby) (mg_X6_fy hby) (by decide))) (mg_eq ey4 (mg_sub (mg_X6_fy hby) (mg_X6_fy hby) (by decide))) (by decide) (by decide)) (by decide))) (mg_sub (mg_mul (mg_eq ey5 (mg_sub (mg_X6_fx hbx) (mg_X6_fx hbx) (by decide))) (mg_eq ey2 (mg_sub (mg_X6_fy hby) (mg_X6_fy hby) (by decide))) (by decide) (by decide)) (mg_mul (mg_eq ey6 (mg_sub (mg_X6_fy hby) (mg_X6_fy hby) (by decide))) (mg_eq ey1 (mg_sub (mg_X6_fx hbx) (mg_X6_fx hbx) (by decide))) (by decide) (by decide)) (by decide)) (by decide) (by decide)) (by decide)) (by decide)) ?_
  refine lv_fload hx hb dX6_decidesRing_152 (lv_at hl 0 rfl) ?_
  refine lv_fload hx hb dX6_decidesRing_154 (lv_at hl 8 rfl) ?_
  refine lv_fload hx hb dX6_decidesRing_156 (lv_at hl 5 rfl) ?_
  refine lv_fmul hx hb dX6_decidesRing_158 (mg_nn (mg_mul (mg_eq ey1 (mg_sub (mg_X6_fx hbx) (mg_X6_fx hbx) (by decide))) (mg_eq ey4 (mg_sub (mg_X6_fy hby) (mg_X6_fy hby) (by decide))) (by decide) (by decide)) (by decide)) ?_
  refine lv_fload hx hb dX6_decidesRing_159 (lv_at hl 7 rfl) ?_
  refine lv_fload hx hb dX6_decidesRing_161 (lv_at hl 6 rfl) ?_
  refine lv_fmul hx hb dX6_decidesRing_163 (mg_nn (mg_mul (mg_eq ey2 (mg_sub (mg_X6_fy hby) (mg_X6_fy hby) (by decide))) (mg_eq ey3 (mg_sub (mg_X6_fx hbx) (mg_X6_fx hbx) (by decide))) (by decide) (by decide)) (by decide)) ?_
  refine lv_fsub hx hb dX6_decidesRing_164 (mg_nn (mg_sub (mg_mul (mg_eq ey1 (mg_sub (mg_X6_fx hbx) (mg_X6_fx hbx) (by decide))) (mg_eq ey4 (mg_sub (mg_X6_fy hby) (mg_X6_fy hby) (by decide))) (by decide) (by decide)) (mg_mul (mg_eq ey2 (mg_sub (mg_X6_fy hby) (mg_X6_fy hby) (by decide))) (mg_eq ey3 (mg_sub (mg_X6_fx hbx) (mg_X6_fx hbx) (by decide))) (by decide) (by decide)) (by decide)) (by decide)) ?_
  refine lv_fmul hx hb dX6_decidesRing_165 (mg_nn (mg_mul (mg_eq ey9 (mg_add (mg_mul (mg_eq ey5 (mg_sub (mg_X6_fx hbx) (mg_X6_fx hbx) (by decide))) (mg_eq ey5 (mg_sub (mg_X6_fx hbx) (mg_X6_fx hbx) (by decide))) (by decide) (by decide)) (mg_mul (mg_eq ey6 (mg_sub (mg_X6_fy hby) (mg_X6_fy hby) (by decide))) (mg_eq ey6 (mg_sub (mg_X6_fy hby) (mg_X6_fy hby) (by decide))) (by decide) (by decide)) (by decide))) (mg_sub (mg_mul (mg_eq ey1 (mg_sub (mg_X6_fx hbx) (mg_X6_fx hbx) (by decide))) (mg_eq ey4 (mg_sub (mg_X6_fy hby) (mg_X6_fy hby) (by decide))) (by decide) (by decide)) (mg_mul (mg_eq ey2 (mg_sub (mg_X6_fy hby) (mg_X6_fy hby) (by decide))) (mg_eq ey3 (mg_sub (mg_X6_fx hbx) (mg_X6_fx hbx) (by decide))) (by decide) (by decide)) (by decide)) (by decide) (by decide)) (by decide)) ?_
  refine lv_fadd hx hb dX6_decidesRing_166 (mg_nn (mg_add (mg_add (mg_mul (mg_eq ey7 (mg_add (mg_mul (mg_eq ey1 (mg_sub (mg_X6_fx hbx) (mg_X6_fx hbx) (by decide))) (mg_eq ey1 (mg_sub (mg_X6_fx hbx) (mg_X6_fx hbx) (by decide))) (by decide) (by decide)) (mg_mul (mg_eq ey2 (mg_sub (mg_X6_fy hby) (mg_X6_fy hby) (by decide))) (mg_eq ey2 (mg_sub (mg_X6_fy hby) (mg_X6_fy hby) (by decide))) (by decide) (by decide)) (by decide))) (mg_sub (mg_mul (mg_eq ey3 (mg_sub (mg_X6_fx hbx) (mg_X6_fx hbx) (by decide))) (mg_eq ey6 (mg_sub (mg_X6_fy hby) (mg_X6_fy hby) (by decide))) (by decide) (by decide)) (mg_mul (mg_eq ey4 (mg_sub (mg_X6_fy hby) (mg_X6_fy hby) (by decide))) (mg_eq ey5 (mg_sub (mg_X6_fx hbx) (mg_X6_fx hbx) (by decide))) (by decide) (by decide)) (by decide)) (by decide) (by decide)) (mg_mul (mg_eq ey8 (mg_add (mg_mul (mg_eq ey3 (mg_sub (mg_X6_fx hbx) (mg_X6_fx hbx) (by decide))) (mg_eq ey3 (mg_sub (mg_X6_fx hbx) (mg_X6_fx hbx) (by decide))) (by decide) (by decide)) (mg_mul (mg_eq ey4 (mg_sub (mg_X6_fy hby) (mg_X6_fy hby) (by decide))) (mg_eq ey4 (mg_sub (mg_X6_fy hby) (mg_X6_fy hby) (by decide))) (by decide) (by decide)) (by decide))) (mg_sub (mg_mul (mg_eq ey5 (mg_sub (mg_X6_fx hbx) (mg_X6_fx hbx) (by decide))) (mg_eq ey2 (mg_sub (mg_X6_fy hby) (mg_X6_fy hby) (by decide))) (by decide) (by decide)) (mg_mul (mg_eq ey6 (mg_sub (mg_X6_fy hby) (mg_X6_fy hby) (by decide))) (mg_eq ey1 (mg_sub (mg_X6_fx hbx) (mg_X6_fx hbx) (by decide))) (by decide) (by decide)) (by decide)) (by decide) (by decide)) (by decide)) (mg_up (mg_mul (mg_eq ey9 (mg_add (mg_mul (mg_eq ey5 (mg_sub (mg_X6_fx hbx) (mg_X6_fx hbx) (by decide))) (mg_eq ey5 (mg_sub (mg_X6_fx hbx) (mg_X6_fx hbx) (by decide))) (by decide) (by decide)) (mg_mul (mg_eq ey6 (mg_sub (mg_X6_fy hby) (mg_X6_fy hby) (by decide))) (mg_eq ey6 (mg_sub (mg_X6_fy hby) (mg_X6_fy hby) (by decide))) (by decide) (by decide)) (by decide))) (mg_sub (mg_mul (mg_eq ey1 (mg_sub (mg_X6_fx hbx) (mg_X6_fx hbx) (by decide))) (mg_eq ey4 (mg_sub (mg_X6_fy hby) (mg_X6_fy hby) (by decide))) (by decide) (by decide)) (mg_mul (mg_eq ey2 (mg_sub (mg_X6_fy hby) (mg_X6_fy hby) (by decide))) (mg_eq ey3 (mg_sub (mg_X6_fx hbx) (mg_X6_fx hbx) (by decide))) (by decide) (by decide)) (by decide)) (by decide) (by decide)) (by decide)) (by decide)) (by decide)) ?_
  refine lv_topf (fun y10 ey10 => ?_)
  refine lv_fstore (lv' := [(14, .float y10), (13, .float y9), (12, .float y8), (11, .float y7), (10, .float y6), (9, .float y5), (8, .float y4), (7, .float y3), (6, .float y2), (5, .float y1), (0, .ref (a 0)), (1, .int p1), (2, .int p2), (3, .int p3), (4, .int p4)]) hx hb dX6_decidesRing_167 hl (by decide) rfl (fun ls hl => ?_)
  refine lv_aload_n hx hb dX6_decidesRing_169 rfl (lv_at hl 10 rfl) ?_
  refine lv_iload_n hx hb dX6_decidesRing_170 rfl (lv_at hl 11 rfl) ?_
  refine lv_iload_n hx hb dX6_decidesRing_171 rfl (lv_at hl 12 rfl) ?_
  refine lv_iload_n hx hb dX6_decidesRing_172 rfl (lv_at hl 13 rfl) ?_
  refine cp_f (va_runV (As := [.int p1, .int p2, .int p3]) (rest := []) ⟨hx, hb, hml, hown, hts⟩ (c_X6_most l dC dI a cI cJ xs ys pl lp lq lr v0 v1 v2 v3 v4 v5 v6 v7 p1 p2 p3 (by first | with_reducible assumption | exact in0_24 | exact in0_60 | decide) (by first | with_reducible assumption | exact in0_24 | exact in0_60 | decide) (by first | with_reducible assumption | exact in0_24 | exact in0_60 | decide) (by first | with_reducible assumption | exact in0_24 | exact in0_60 | decide) (by first | with_reducible assumption | exact in0_24 | exact in0_60 | decide)) (cwV 3 hts (gG_V mG_12_18 mG_12_19 mG_12_20 mG_1_5 (gG_c mG_12_21 gG_G)) rfl rfl rfl hd_X6_most ⟨Nat.le_of_ble_eq_true rfl, Nat.le_of_ble_eq_true rfl⟩) (pPcV (ci := 10) (q0 := 0) hK hP rfl rfl) rfl rfl hl.1 rfl (lv_room (Nat.le_of_ble_eq_true rfl)) dX6_decidesRing_173 ⟨Nat.le_of_ble_eq_true rfl, Nat.le_of_ble_eq_true rfl⟩) hP hS (fun H hP hS => ?_)
  refine lv_aload_n hx hb dX6_decidesRing_176 rfl (lv_at hl 10 rfl) ?_
  refine lv_iload hx hb dX6_decidesRing_177 (lv_at hl 14 rfl) ?_
  refine cp_f (va_runV (As := [.int p4]) (rest := [.float (f_X6_most xs ys p1 p2 p3)]) ⟨hx, hb, hml, hown, hts⟩ (c_X6_fx l dC dI a cI cJ xs ys pl lp lq lr v0 v1 v2 v3 v4 v5 v6 v7 p4 (by first | with_reducible assumption | exact in0_24 | exact in0_60 | decide) (by first | with_reducible assumption | exact in0_24 | exact in0_60 | decide)) (cwV 1 hts (gG_V mG_12_9 mG_12_10 mG_12_11 mG_1_5 (gG_c mG_12_12 gG_G)) rfl rfl rfl hd_X6_fx ⟨Nat.le_of_ble_eq_true rfl, Nat.le_of_ble_eq_true rfl⟩) (pPcV (ci := 10) (q0 := 0) hK hP rfl rfl) rfl rfl hl.1 rfl (lv_room (Nat.le_of_ble_eq_true rfl)) dX6_decidesRing_179 ⟨Nat.le_of_ble_eq_true rfl, Nat.le_of_ble_eq_true rfl⟩) hP hS (fun H hP hS => ?_)
  refine cp_f (va_runS (As := [.float (f_X6_fx xs p4)]) (rest := [.float (f_X6_most xs ys p1 p2 p3)]) ⟨hx, hb, hml, hown, hts⟩ (c_X6_size_ l (f_X6_fx xs p4) ) (va_cwS 1 hts (gG_S mG_12_22 mG_12_23 mG_1_5 (gG_c mG_13_0 gG_G)) rfl rfl rfl hs_X6_size_ ⟨Nat.le_of_ble_eq_true rfl, Nat.le_of_ble_eq_true rfl⟩) nPcS rfl rfl hl.1 rfl (lv_room (Nat.le_of_ble_eq_true rfl)) dX6_decidesRing_182 ⟨Nat.le_of_ble_eq_true rfl, Nat.le_of_ble_eq_true rfl⟩) hP hS (fun H hP hS => ?_)
  refine lv_aload_n hx hb dX6_decidesRing_185 rfl (lv_at hl 10 rfl) ?_
  refine lv_iload hx hb dX6_decidesRing_186 (lv_at hl 14 rfl) ?_
  refine cp_f (va_runV (As := [.int p4]) (rest := [.float (f_X6_size_ (f_X6_fx xs p4)), .float (f_X6_most xs ys p1 p2 p3)]) ⟨hx, hb, hml, hown, hts⟩ (c_X6_fy l dC dI a cI cJ xs ys pl lp lq lr v0 v1 v2 v3 v4 v5 v6 v7 p4 (by first | with_reducible assumption | exact in0_24 | exact in0_60 | decide) (by first | with_reducible assumption | exact in0_24 | exact in0_60 | decide)) (cwV 1 hts (gG_V mG_12_14 mG_12_15 mG_12_16 mG_1_5 (gG_c mG_12_17 gG_G)) rfl rfl rfl hd_X6_fy ⟨Nat.le_of_ble_eq_true rfl, Nat.le_of_ble_eq_true rfl⟩) (pPcV (ci := 10) (q0 := 0) hK hP rfl rfl) rfl rfl hl.1 rfl (lv_room (Nat.le_of_ble_eq_true rfl)) dX6_decidesRing_188 ⟨Nat.le_of_ble_eq_true rfl, Nat.le_of_ble_eq_true rfl⟩) hP hS (fun H hP hS => ?_)
  refine cp_f (va_runS (As := [.float (f_X6_fy ys p4)]) (rest := [.float (f_X6_size_ (f_X6_fx xs p4)), .float (f_X6_most xs ys p1 p2 p3)]) ⟨hx, hb, hml, hown, hts⟩ (c_X6_size_ l (f_X6_fy ys p4) ) (va_cwS 1 hts (gG_S mG_12_22 mG_12_23 mG_1_5 (gG_c mG_13_0 gG_G)) rfl rfl rfl hs_X6_size_ ⟨Nat.le_of_ble_eq_true rfl, Nat.le_of_ble_eq_true rfl⟩) nPcS rfl rfl hl.1 rfl (lv_room (Nat.le_of_ble_eq_true rfl)) dX6_decidesRing_191 ⟨Nat.le_of_ble_eq_true rfl, Nat.le_of_ble_eq_true rfl⟩) hP hS (fun H hP hS => ?_)
  refine cp_f (va_runS (As := [.float (f_X6_size_ (f_X6_fx xs p4)), .float (f_X6_size_ (f_X6_fy ys p4))]) (rest := [.float (f_X6_most xs ys p1 p2 p3)]) ⟨hx, hb, hml, hown, hts⟩ (c_X6_greater l (f_X6_size_ (f_X6_fx xs p4)) (f_X6_size_ (f_X6_fy ys p4)) ) (va_cwS 2 hts (gG_S mG_13_1 mG_13_2 mG_1_5 (gG_c mG_13_3 gG_G)) rfl rfl rfl hs_X6_greater ⟨Nat.le_of_ble_eq_true rfl, Nat.le_of_ble_eq_true rfl⟩) nPcS rfl rfl hl.1 rfl (lv_room (Nat.le_of_ble_eq_true rfl)) dX6_decidesRing_194 ⟨Nat.le_of_ble_eq_true rfl, Nat.le_of_ble_eq_true rfl⟩) hP hS (fun H hP hS => ?_)
  refine cp_f (va_runS (As := [.float (f_X6_most xs ys p1 p2 p3), .float (f_X6_greater (f_X6_size_ (f_X6_fx xs p4)) (f_X6_size_ (f_X6_fy ys p4)))]) (rest := []) ⟨hx, hb, hml, hown, hts⟩ (c_X6_greater l (f_X6_most xs ys p1 p2 p3) (f_X6_greater (f_X6_size_ (f_X6_fx xs p4)) (f_X6_size_ (f_X6_fy ys p4))) ) (va_cwS 2 hts (gG_S mG_13_1 mG_13_2 mG_1_5 (gG_c mG_13_3 gG_G)) rfl rfl rfl hs_X6_greater ⟨Nat.le_of_ble_eq_true rfl, Nat.le_of_ble_eq_true rfl⟩) nPcS rfl rfl hl.1 rfl (lv_room (Nat.le_of_ble_eq_true rfl)) dX6_decidesRing_197 ⟨Nat.le_of_ble_eq_true rfl, Nat.le_of_ble_eq_true rfl⟩) hP hS (fun H hP hS => ?_)
  refine lv_topf (fun y11 ey11 => ?_)
  refine lv_fstore (lv' := [(15, .float y11), (14, .float y10), (13, .float y9), (12, .float y8), (11, .float y7), (10, .float y6), (9, .float y5), (8, .float y4), (7, .float y3), (6, .float y2), (5, .float y1), (0, .ref (a 0)), (1, .int p1), (2, .int p2), (3, .int p3), (4, .int p4)]) hx hb dX6_decidesRing_200 hl (by decide) rfl (fun ls hl => ?_)
  refine lv_fload hx hb dX6_decidesRing_202 (lv_at hl 0 rfl) ?_
  refine lv_fload hx hb dX6_decidesRing_204 (lv_at hl 0 rfl) ?_
  refine lv_fmul hx hb dX6_decidesRing_206 (mg_nn (mg_mul (mg_eq ey11 (mg_X6_greater (mg_X6_most hbx hby) (mg_X6_greater (mg_X6_size_ (mg_X6_fx hbx)) (mg_X6_size_ (mg_X6_fy hby))))) (mg_eq ey11 (mg_X6_greater (mg_X6_most hbx hby) (mg_X6_greater (mg_X6_size_ (mg_X6_fx hbx)) (mg_X6_size_ (mg_X6_fy hby))))) (by decide) (by decide)) (by decide)) ?_
  refine lv_fload hx hb dX6_decidesRing_207 (lv_at hl 0 rfl) ?_
  refine lv_fload hx hb dX6_decidesRing_209 (lv_at hl 0 rfl) ?_
  refine lv_fmul hx hb dX6_decidesRing_211 (mg_nn (mg_mul (mg_eq ey11 (mg_X6_greater (mg_X6_most hbx hby) (mg_X6_greater (mg_X6_size_ (mg_X6_fx hbx)) (mg_X6_size_ (mg_X6_fy hby))))) (mg_eq ey11 (mg_X6_greater (mg_X6_most hbx hby) (mg_X6_greater (mg_X6_size_ (mg_X6_fx hbx)) (mg_X6_size_ (mg_X6_fy hby))))) (by decide) (by decide)) (by decide)) ?_
  refine lv_fmul hx hb dX6_decidesRing_212 (mg_nn (mg_mul (mg_mul (mg_eq ey11 (mg_X6_greater (mg_X6_most hbx hby) (mg_X6_greater (mg_X6_size_ (mg_X6_fx hbx)) (mg_X6_size_ (mg_X6_fy hby))))) (mg_eq ey11 (mg_X6_greater (mg_X6_most hbx hby) (mg_X6_greater (mg_X6_size_ (mg_X6_fx hbx)) (mg_X6_size_ (mg_X6_fy hby))))) (by decide) (by decide)) (mg_mul (mg_eq ey11 (mg_X6_greater (mg_X6_most hbx hby) (mg_X6_greater (mg_X6_size_ (mg_X6_fx hbx)) (mg_X6_size_ (mg_X6_fy hby))))) (mg_eq ey11 (mg_X6_greater (mg_X6_most hbx hby) (mg_X6_greater (mg_X6_size_ (mg_X6_fx hbx)) (mg_X6_size_ (mg_X6_fy hby))))) (by decide) (by decide)) (by decide) (by decide)) (by decide)) ?_
  refine lv_ldcf hx hb hown (hts _ mG_14_16) dX6_decidesRing_213 ?_
  refine lv_fmul hx hb dX6_decidesRing_215 (mg_nn (mg_mul (mg_mul (mg_mul (mg_eq ey11 (mg_X6_greater (mg_X6_most hbx hby) (mg_X6_greater (mg_X6_size_ (mg_X6_fx hbx)) (mg_X6_size_ (mg_X6_fy hby))))) (mg_eq ey11 (mg_X6_greater (mg_X6_most hbx hby) (mg_X6_greater (mg_X6_size_ (mg_X6_fx hbx)) (mg_X6_size_ (mg_X6_fy hby))))) (by decide) (by decide)) (mg_mul (mg_eq ey11 (mg_X6_greater (mg_X6_most hbx hby) (mg_X6_greater (mg_X6_size_ (mg_X6_fx hbx)) (mg_X6_size_ (mg_X6_fy hby))))) (mg_eq ey11 (mg_X6_greater (mg_X6_most hbx hby) (mg_X6_greater (mg_X6_size_ (mg_X6_fx hbx)) (mg_X6_size_ (mg_X6_fy hby))))) (by decide) (by decide)) (by decide) (by decide)) mg_c2 (by decide) (by decide)) (by decide)) ?_
  refine lv_topf (fun y12 ey12 => ?_)
  refine lv_fstore (lv' := [(16, .float y12), (15, .float y11), (14, .float y10), (13, .float y9), (12, .float y8), (11, .float y7), (10, .float y6), (9, .float y5), (8, .float y4), (7, .float y3), (6, .float y2), (5, .float y1), (0, .ref (a 0)), (1, .int p1), (2, .int p2), (3, .int p3), (4, .int p4)]) hx hb dX6_decidesRing_216 hl (by decide) rfl (fun ls hl => ?_)
  refine lv_fload hx hb dX6_decidesRing_218 (lv_at hl 2 rfl) ?_
  refine cp_f (va_runS (As := [.float y10]) (rest := []) ⟨hx, hb, hml, hown, hts⟩ (c_X6_size_ l y10 ) (va_cwS 1 hts (gG_S mG_12_22 mG_12_23 mG_1_5 (gG_c mG_13_0 gG_G)) rfl rfl rfl hs_X6_size_ ⟨Nat.le_of_ble_eq_true rfl, Nat.le_of_ble_eq_true rfl⟩) nPcS rfl rfl hl.1 rfl (lv_room (Nat.le_of_ble_eq_true rfl)) dX6_decidesRing_220 ⟨Nat.le_of_ble_eq_true rfl, Nat.le_of_ble_eq_true rfl⟩) hP hS (fun H hP hS => ?_)
  refine lv_fload hx hb dX6_decidesRing_223 (lv_at hl 0 rfl) ?_
  refine lv_fcmp hx hb dX6_decidesRing_225 ?_
  refine lv_if_le (tgt := 233) hx hb dX6_decidesRing_226 (by decide) (fun c13 => ?_) (fun c13 => ?_)
  · skip
    refine lv_iconst (v := (0 : Int32)) hx hb dX6_decidesRing_233 (by decide) ?_
    exact rp_z hQ hx hb hr hlk hS (Eq.symm (by subst ey1; subst ey2; subst ey3; subst ey4; subst ey5; subst ey6; subst ey7; subst ey8; subst ey9; subst ey10; subst ey11; subst ey12; simp only [f_X6_decidesRing, if_pos c13])) (by decide) dX6_decidesRing_234
  · skip
    refine lv_iconst (v := (1 : Int32)) hx hb dX6_decidesRing_229 (by decide) ?_
    refine lv_goto (tgt := 234) hx hb dX6_decidesRing_230 (by decide) ?_
    exact rp_z hQ hx hb hr hlk hS (Eq.symm (by subst ey1; subst ey2; subst ey3; subst ey4; subst ey5; subst ey6; subst ey7; subst ey8; subst ey9; subst ey10; subst ey11; subst ey12; simp only [f_X6_decidesRing, if_neg c13])) (by decide) dX6_decidesRing_234
/-! X6_counted -/
theorem hs_X6_counted : yX6_counted.cls ≠ "java/lang/invoke/MethodHandle" ∧ yX6_counted.cls ≠ "java/lang/invoke/VarHandle" ∧ (parseMethodDescriptor yX6_counted.desc).map (fun d => d.parameters.length) = some 2 := by decide +kernel
theorem hd_X6_counted : yX6_counted.cls = RX6 ∧ yX6_counted.cls ≠ "java/lang/invoke/MethodHandle" ∧ yX6_counted.cls ≠ "java/lang/invoke/VarHandle" ∧ (parseMethodDescriptor yX6_counted.desc).map (fun d => d.parameters.length) = some 2 := ⟨rfl, hs_X6_counted⟩
def f_X6_counted (v3 : Int32) (v4 : Int32) (v5 : Int32) (v6 : Int32) (p1 : Int32) (p2 : Int32) : Int32 × Int32 × Int32 × Int32 := (if v3 = 0 then (if p2 = 0 then (p2, (v4 + (0 : Int32)), (v5 + (1 : Int32)), (v6 + (1 : Int32))) else (p2, (v4 + (0 : Int32)), (v5 + (1 : Int32)), (v6 + (0 : Int32)))) else (if p1 = 0 then (if p2 = 0 then (p2, (v4 + (0 : Int32)), (v5 + (1 : Int32)), (v6 + (1 : Int32))) else (p2, (v4 + (0 : Int32)), (v5 + (1 : Int32)), (v6 + (0 : Int32)))) else (if p2 = 0 then (p2, (v4 + (1 : Int32)), (v5 + (0 : Int32)), (v6 + (1 : Int32))) else (p2, (v4 + (1 : Int32)), (v5 + (0 : Int32)), (v6 + (0 : Int32))))))
abbrev rm_X6_counted : Room := { frames := 0, cells := 0, slots := 0, locals := 0 }
set_option maxHeartbeats 8000000 in
set_option maxRecDepth 100000 in
theorem c_X6_counted (l : Launch) (dC : Nat → ClassId) (dI : Nat → Nat → Nat) (a : Nat → Nat) (cI cJ : ClassId) (xs : Nat → Int32) (ys : Nat → Int32) (pl : Nat → Int32) (lp : Nat → Int64) (lq : Nat → Int64) (lr : Nat → Int64) (v0 : Int32) (v1 : Int32) (v2 : Int32) (v3 : Int32) (v4 : Int32) (v5 : Int32) (v6 : Int32) (v7 : Int32) (p1 : Int32) (p2 : Int32) : Met l yX6_counted (Cond.code yX6_counted cX6_counted 3 (some .int) :: lw_G) rm_X6_counted (wPc (dC, dI) (tIJ cI cJ) (wM a cI cJ xs ys pl lp lq lr v0 v1 v2 v3 v4 v5 v6 v7) [.ref (a 0), .int p1, .int p2]) (wQi (dC, dI) (wA (wM a cI cJ xs ys pl lp lq lr v0 v1 v2 v3 v4 v5 v6 v7)) (wM a cI cJ xs ys pl lp lq lr v0 v1 v2 v3 ((f_X6_counted v3 v4 v5 v6 p1 p2).2.1) ((f_X6_counted v3 v4 v5 v6 p1 p2).2.2.1) ((f_X6_counted v3 v4 v5 v6 p1 p2).2.2.2) v7) (f_X6_counted v3 v4 v5 v6 p1 p2).1) 0 0 (wA (wM a cI cJ xs ys pl lp lq lr v0 v1 v2 v3 v4 v5 v6 v7)) := by
  refine wm_of (by decide) (Nat.le_of_ble_eq_true rfl) ?_
  intro p e s m args below meth c Q ls hQ hx hb hr hlk hml hown hts hP hK hD hS hl
  have hown : s.vm.findClass RX6 = some m.cls := hown
  have hl : lv_has ls 3 [(0, .ref (a 0)), (1, .int p1), (2, .int p2)] := hl
  generalize hAe : wA (wM a cI cJ xs ys pl lp lq lr v0 v1 v2 v3 v4 v5 v6 v7) = A at hQ hD hS
  refine lv_aload_n hx hb dX6_counted_0 rfl (lv_at hl 0 rfl) ?_
  refine lv_dup hx hb dX6_counted_1 rfl ?_
  refine va_get (D := (dC, dI)) (ci := 10) (v := .int v4) (C := RX6) (T := TX6) (N := 14) hx hb hts (fun _ h => gI_wsX60 h) hown hK.1 hP 0 rfl rfl 7 (by decide) (hts _ mG_13_15) (fun _ h9 => h9) rfl dX6_counted_2 ?_
  refine lv_aload_n hx hb dX6_counted_5 rfl (lv_at hl 0 rfl) ?_
  refine va_get (D := (dC, dI)) (ci := 10) (v := .int v3) (C := RX6) (T := TX6) (N := 14) hx hb hts (fun _ h => gI_wsX60 h) hown hK.1 hP 0 rfl rfl 6 (by decide) (hts _ mG_4_11) (fun _ h9 => h9) rfl dX6_counted_6 ?_
  refine lv_if_eq (tgt := 20) hx hb dX6_counted_9 (by decide) (fun c1 => ?_) (fun c1 => ?_)
  · skip
    refine lv_iconst (v := (0 : Int32)) hx hb dX6_counted_20 (by decide) ?_
    refine lv_iadd hx hb dX6_counted_21 ?_
    refine lv_topi (fun y2 ey2 => ?_)
    refine va_put (D := (dC, dI)) (ci := 10) (v := .int y2) (ty := .int) (C := RX6) (T := TX6) (N := 14) hx hb hts (fun _ h => gI_wsX60 h) tyX6 tyX6_ok nmX6 hown hK.1 hP hD hS 0 rfl rfl 7 (by decide) (hts _ mG_13_15) (fun _ h9 => h9) rfl (by decide +kernel) rfl rfl (Nat.le_of_ble_eq_true rfl) dX6_counted_22 (fun H locs hP hD hS => ?_)
    have hP : va_P (dC, dI) vwCl (wM a cI cJ xs ys pl lp lq lr v0 v1 v2 v3 y2 v5 v6 v7) H := hP
    have hD : va_D A (wM a cI cJ xs ys pl lp lq lr v0 v1 v2 v3 y2 v5 v6 v7) := hD
    refine lv_aload_n hx hb dX6_counted_25 rfl (lv_at hl 0 rfl) ?_
    refine lv_dup hx hb dX6_counted_26 rfl ?_
    refine va_get (D := (dC, dI)) (ci := 10) (v := .int v5) (C := RX6) (T := TX6) (N := 14) hx hb hts (fun _ h => gI_wsX60 h) hown hK.1 hP 0 rfl rfl 8 (by decide) (hts _ mG_13_16) (fun _ h9 => h9) rfl dX6_counted_27 ?_
    refine lv_aload_n hx hb dX6_counted_30 rfl (lv_at hl 0 rfl) ?_
    refine va_get (D := (dC, dI)) (ci := 10) (v := .int v3) (C := RX6) (T := TX6) (N := 14) hx hb hts (fun _ h => gI_wsX60 h) hown hK.1 hP 0 rfl rfl 6 (by decide) (hts _ mG_4_11) (fun _ h9 => h9) rfl dX6_counted_31 ?_
    refine lv_if_eq (tgt := 45) hx hb dX6_counted_34 (by decide) (fun _ => ?_) (fun c3 => by subst ey2; exact absurd c1 c3)
    refine lv_iconst (v := (1 : Int32)) hx hb dX6_counted_45 (by decide) ?_
    refine lv_iadd hx hb dX6_counted_46 ?_
    refine lv_topi (fun y4 ey4 => ?_)
    refine va_put (D := (dC, dI)) (ci := 10) (v := .int y4) (ty := .int) (C := RX6) (T := TX6) (N := 14) hx hb hts (fun _ h => gI_wsX60 h) tyX6 tyX6_ok nmX6 hown hK.1 hP hD hS 0 rfl rfl 8 (by decide) (hts _ mG_13_16) (fun _ h9 => h9) rfl (by decide +kernel) rfl rfl (Nat.le_of_ble_eq_true rfl) dX6_counted_47 (fun H locs hP hD hS => ?_)
    have hP : va_P (dC, dI) vwCl (wM a cI cJ xs ys pl lp lq lr v0 v1 v2 v3 y2 y4 v6 v7) H := hP
    have hD : va_D A (wM a cI cJ xs ys pl lp lq lr v0 v1 v2 v3 y2 y4 v6 v7) := hD
    refine lv_aload_n hx hb dX6_counted_50 rfl (lv_at hl 0 rfl) ?_
    refine lv_dup hx hb dX6_counted_51 rfl ?_
    refine va_get (D := (dC, dI)) (ci := 10) (v := .int v6) (C := RX6) (T := TX6) (N := 14) hx hb hts (fun _ h => gI_wsX60 h) hown hK.1 hP 0 rfl rfl 9 (by decide) (hts _ mG_13_17) (fun _ h9 => h9) rfl dX6_counted_52 ?_
    refine lv_iload_n hx hb dX6_counted_55 rfl (lv_at hl 2 rfl) ?_
    refine lv_if_ne (tgt := 63) hx hb dX6_counted_56 (by decide) (fun c5 => ?_) (fun c5 => ?_)
    · skip
      refine lv_iconst (v := (0 : Int32)) hx hb dX6_counted_63 (by decide) ?_
      refine lv_iadd hx hb dX6_counted_64 ?_
      refine lv_topi (fun y6 ey6 => ?_)
      refine va_put (D := (dC, dI)) (ci := 10) (v := .int y6) (ty := .int) (C := RX6) (T := TX6) (N := 14) hx hb hts (fun _ h => gI_wsX60 h) tyX6 tyX6_ok nmX6 hown hK.1 hP hD hS 0 rfl rfl 9 (by decide) (hts _ mG_13_17) (fun _ h9 => h9) rfl (by decide +kernel) rfl rfl (Nat.le_of_ble_eq_true rfl) dX6_counted_65 (fun H locs hP hD hS => ?_)
      have hP : va_P (dC, dI) vwCl (wM a cI cJ xs ys pl lp lq lr v0 v1 v2 v3 y2 y4 y6 v7) H := hP
      have hD : va_D A (wM a cI cJ xs ys pl lp lq lr v0 v1 v2 v3 y2 y4 y6 v7) := hD
      refine lv_iload_n hx hb dX6_counted_68 rfl (lv_at hl 2 rfl) ?_
      have hE : (f_X6_counted v3 v4 v5 v6 p1 p2) = (p2, y2, y4, y6) := (by subst ey2; subst ey4; subst ey6; simp only [f_X6_counted, if_pos c1, if_neg c5])
      exact rw_i hQ hx hb hr hlk (by rw [hE]; exact hP) hS (by rw [hE]) dX6_counted_69
    · skip
      refine lv_iconst (v := (1 : Int32)) hx hb dX6_counted_59 (by decide) ?_
      refine lv_goto (tgt := 64) hx hb dX6_counted_60 (by decide) ?_
      refine lv_iadd hx hb dX6_counted_64 ?_
      refine lv_topi (fun y7 ey7 => ?_)
      refine va_put (D := (dC, dI)) (ci := 10) (v := .int y7) (ty := .int) (C := RX6) (T := TX6) (N := 14) hx hb hts (fun _ h => gI_wsX60 h) tyX6 tyX6_ok nmX6 hown hK.1 hP hD hS 0 rfl rfl 9 (by decide) (hts _ mG_13_17) (fun _ h9 => h9) rfl (by decide +kernel) rfl rfl (Nat.le_of_ble_eq_true rfl) dX6_counted_65 (fun H locs hP hD hS => ?_)
      have hP : va_P (dC, dI) vwCl (wM a cI cJ xs ys pl lp lq lr v0 v1 v2 v3 y2 y4 y7 v7) H := hP
      have hD : va_D A (wM a cI cJ xs ys pl lp lq lr v0 v1 v2 v3 y2 y4 y7 v7) := hD
      refine lv_iload_n hx hb dX6_counted_68 rfl (lv_at hl 2 rfl) ?_
      have hE : (f_X6_counted v3 v4 v5 v6 p1 p2) = (p2, y2, y4, y7) := (by subst ey2; subst ey4; subst ey7; simp only [f_X6_counted, if_pos c1, if_pos c5])
      exact rw_i hQ hx hb hr hlk (by rw [hE]; exact hP) hS (by rw [hE]) dX6_counted_69
  · skip
    refine lv_iload_n hx hb dX6_counted_12 rfl (lv_at hl 1 rfl) ?_
    refine lv_if_eq (tgt := 20) hx hb dX6_counted_13 (by decide) (fun c8 => ?_) (fun c8 => ?_)
    · skip
      refine lv_iconst (v := (0 : Int32)) hx hb dX6_counted_20 (by decide) ?_
      refine lv_iadd hx hb dX6_counted_21 ?_
      refine lv_topi (fun y9 ey9 => ?_)
      refine va_put (D := (dC, dI)) (ci := 10) (v := .int y9) (ty := .int) (C := RX6) (T := TX6) (N := 14) hx hb hts (fun _ h => gI_wsX60 h) tyX6 tyX6_ok nmX6 hown hK.1 hP hD hS 0 rfl rfl 7 (by decide) (hts _ mG_13_15) (fun _ h9 => h9) rfl (by decide +kernel) rfl rfl (Nat.le_of_ble_eq_true rfl) dX6_counted_22 (fun H locs hP hD hS => ?_)
      have hP : va_P (dC, dI) vwCl (wM a cI cJ xs ys pl lp lq lr v0 v1 v2 v3 y9 v5 v6 v7) H := hP
      have hD : va_D A (wM a cI cJ xs ys pl lp lq lr v0 v1 v2 v3 y9 v5 v6 v7) := hD
      refine lv_aload_n hx hb dX6_counted_25 rfl (lv_at hl 0 rfl) ?_
      refine lv_dup hx hb dX6_counted_26 rfl ?_
      refine va_get (D := (dC, dI)) (ci := 10) (v := .int v5) (C := RX6) (T := TX6) (N := 14) hx hb hts (fun _ h => gI_wsX60 h) hown hK.1 hP 0 rfl rfl 8 (by decide) (hts _ mG_13_16) (fun _ h9 => h9) rfl dX6_counted_27 ?_
      refine lv_aload_n hx hb dX6_counted_30 rfl (lv_at hl 0 rfl) ?_
      refine va_get (D := (dC, dI)) (ci := 10) (v := .int v3) (C := RX6) (T := TX6) (N := 14) hx hb hts (fun _ h => gI_wsX60 h) hown hK.1 hP 0 rfl rfl 6 (by decide) (hts _ mG_4_11) (fun _ h9 => h9) rfl dX6_counted_31 ?_
      refine lv_if_eq (tgt := 45) hx hb dX6_counted_34 (by decide) (fun c10 => by subst ey9; exact absurd c10 c1) (fun _ => ?_)
      refine lv_iload_n hx hb dX6_counted_37 rfl (lv_at hl 1 rfl) ?_
      refine lv_if_eq (tgt := 45) hx hb dX6_counted_38 (by decide) (fun _ => ?_) (fun c11 => by subst ey9; exact absurd c8 c11)
      refine lv_iconst (v := (1 : Int32)) hx hb dX6_counted_45 (by decide) ?_
      refine lv_iadd hx hb dX6_counted_46 ?_
      refine lv_topi (fun y12 ey12 => ?_)
      refine va_put (D := (dC, dI)) (ci := 10) (v := .int y12) (ty := .int) (C := RX6) (T := TX6) (N := 14) hx hb hts (fun _ h => gI_wsX60 h) tyX6 tyX6_ok nmX6 hown hK.1 hP hD hS 0 rfl rfl 8 (by decide) (hts _ mG_13_16) (fun _ h9 => h9) rfl (by decide +kernel) rfl rfl (Nat.le_of_ble_eq_true rfl) dX6_counted_47 (fun H locs hP hD hS => ?_)
      have hP : va_P (dC, dI) vwCl (wM a cI cJ xs ys pl lp lq lr v0 v1 v2 v3 y9 y12 v6 v7) H := hP
      have hD : va_D A (wM a cI cJ xs ys pl lp lq lr v0 v1 v2 v3 y9 y12 v6 v7) := hD
      refine lv_aload_n hx hb dX6_counted_50 rfl (lv_at hl 0 rfl) ?_
      refine lv_dup hx hb dX6_counted_51 rfl ?_
      refine va_get (D := (dC, dI)) (ci := 10) (v := .int v6) (C := RX6) (T := TX6) (N := 14) hx hb hts (fun _ h => gI_wsX60 h) hown hK.1 hP 0 rfl rfl 9 (by decide) (hts _ mG_13_17) (fun _ h9 => h9) rfl dX6_counted_52 ?_
      refine lv_iload_n hx hb dX6_counted_55 rfl (lv_at hl 2 rfl) ?_
      refine lv_if_ne (tgt := 63) hx hb dX6_counted_56 (by decide) (fun c13 => ?_) (fun c13 => ?_)
      · skip
        refine lv_iconst (v := (0 : Int32)) hx hb dX6_counted_63 (by decide) ?_
        refine lv_iadd hx hb dX6_counted_64 ?_
        refine lv_topi (fun y14 ey14 => ?_)
        refine va_put (D := (dC, dI)) (ci := 10) (v := .int y14) (ty := .int) (C := RX6) (T := TX6) (N := 14) hx hb hts (fun _ h => gI_wsX60 h) tyX6 tyX6_ok nmX6 hown hK.1 hP hD hS 0 rfl rfl 9 (by decide) (hts _ mG_13_17) (fun _ h9 => h9) rfl (by decide +kernel) rfl rfl (Nat.le_of_ble_eq_true rfl) dX6_counted_65 (fun H locs hP hD hS => ?_)
        have hP : va_P (dC, dI) vwCl (wM a cI cJ xs ys pl lp lq lr v0 v1 v2 v3 y9 y12 y14 v7) H := hP
        have hD : va_D A (wM a cI cJ xs ys pl lp lq lr v0 v1 v2 v3 y9 y12 y14 v7) := hD
        refine lv_iload_n hx hb dX6_counted_68 rfl (lv_at hl 2 rfl) ?_
        have hE : (f_X6_counted v3 v4 v5 v6 p1 p2) = (p2, y9, y12, y14) := (by subst ey9; subst ey12; subst ey14; simp only [f_X6_counted, if_neg c1, if_pos c8, if_neg c13])
        exact rw_i hQ hx hb hr hlk (by rw [hE]; exact hP) hS (by rw [hE]) dX6_counted_69
      · skip
        refine lv_iconst (v := (1 : Int32)) hx hb dX6_counted_59 (by decide) ?_
        refine lv_goto (tgt := 64) hx hb dX6_counted_60 (by decide) ?_
        refine lv_iadd hx hb dX6_counted_64 ?_
        refine lv_topi (fun y15 ey15 => ?_)
        refine va_put (D := (dC, dI)) (ci := 10) (v := .int y15) (ty := .int) (C := RX6) (T := TX6) (N := 14) hx hb hts (fun _ h => gI_wsX60 h) tyX6 tyX6_ok nmX6 hown hK.1 hP hD hS 0 rfl rfl 9 (by decide) (hts _ mG_13_17) (fun _ h9 => h9) rfl (by decide +kernel) rfl rfl (Nat.le_of_ble_eq_true rfl) dX6_counted_65 (fun H locs hP hD hS => ?_)
        have hP : va_P (dC, dI) vwCl (wM a cI cJ xs ys pl lp lq lr v0 v1 v2 v3 y9 y12 y15 v7) H := hP
        have hD : va_D A (wM a cI cJ xs ys pl lp lq lr v0 v1 v2 v3 y9 y12 y15 v7) := hD
        refine lv_iload_n hx hb dX6_counted_68 rfl (lv_at hl 2 rfl) ?_
        have hE : (f_X6_counted v3 v4 v5 v6 p1 p2) = (p2, y9, y12, y15) := (by subst ey9; subst ey12; subst ey15; simp only [f_X6_counted, if_neg c1, if_pos c8, if_pos c13])
        exact rw_i hQ hx hb hr hlk (by rw [hE]; exact hP) hS (by rw [hE]) dX6_counted_69
    · skip
      refine lv_iconst (v := (1 : Int32)) hx hb dX6_counted_16 (by decide) ?_
      refine lv_goto (tgt := 21) hx hb dX6_counted_17 (by decide) ?_
      refine lv_iadd hx hb dX6_counted_21 ?_
      refine lv_topi (fun y16 ey16 => ?_)
      refine va_put (D := (dC, dI)) (ci := 10) (v := .int y16) (ty := .int) (C := RX6) (T := TX6) (N := 14) hx hb hts (fun _ h => gI_wsX60 h) tyX6 tyX6_ok nmX6 hown hK.1 hP hD hS 0 rfl rfl 7 (by decide) (hts _ mG_13_15) (fun _ h9 => h9) rfl (by decide +kernel) rfl rfl (Nat.le_of_ble_eq_true rfl) dX6_counted_22 (fun H locs hP hD hS => ?_)
      have hP : va_P (dC, dI) vwCl (wM a cI cJ xs ys pl lp lq lr v0 v1 v2 v3 y16 v5 v6 v7) H := hP
      have hD : va_D A (wM a cI cJ xs ys pl lp lq lr v0 v1 v2 v3 y16 v5 v6 v7) := hD
      refine lv_aload_n hx hb dX6_counted_25 rfl (lv_at hl 0 rfl) ?_
      refine lv_dup hx hb dX6_counted_26 rfl ?_
      refine va_get (D := (dC, dI)) (ci := 10) (v := .int v5) (C := RX6) (T := TX6) (N := 14) hx hb hts (fun _ h => gI_wsX60 h) hown hK.1 hP 0 rfl rfl 8 (by decide) (hts _ mG_13_16) (fun _ h9 => h9) rfl dX6_counted_27 ?_
      refine lv_aload_n hx hb dX6_counted_30 rfl (lv_at hl 0 rfl) ?_
      refine va_get (D := (dC, dI)) (ci := 10) (v := .int v3) (C := RX6) (T := TX6) (N := 14) hx hb hts (fun _ h => gI_wsX60 h) hown hK.1 hP 0 rfl rfl 6 (by decide) (hts _ mG_4_11) (fun _ h9 => h9) rfl dX6_counted_31 ?_
      refine lv_if_eq (tgt := 45) hx hb dX6_counted_34 (by decide) (fun c17 => by subst ey16; exact absurd c17 c1) (fun _ => ?_)
      refine lv_iload_n hx hb dX6_counted_37 rfl (lv_at hl 1 rfl) ?_
      refine lv_if_eq (tgt := 45) hx hb dX6_counted_38 (by decide) (fun c18 => by subst ey16; exact absurd c18 c8) (fun _ => ?_)
      refine lv_iconst (v := (0 : Int32)) hx hb dX6_counted_41 (by decide) ?_
      refine lv_goto (tgt := 46) hx hb dX6_counted_42 (by decide) ?_
      refine lv_iadd hx hb dX6_counted_46 ?_
      refine lv_topi (fun y19 ey19 => ?_)
      refine va_put (D := (dC, dI)) (ci := 10) (v := .int y19) (ty := .int) (C := RX6) (T := TX6) (N := 14) hx hb hts (fun _ h => gI_wsX60 h) tyX6 tyX6_ok nmX6 hown hK.1 hP hD hS 0 rfl rfl 8 (by decide) (hts _ mG_13_16) (fun _ h9 => h9) rfl (by decide +kernel) rfl rfl (Nat.le_of_ble_eq_true rfl) dX6_counted_47 (fun H locs hP hD hS => ?_)
      have hP : va_P (dC, dI) vwCl (wM a cI cJ xs ys pl lp lq lr v0 v1 v2 v3 y16 y19 v6 v7) H := hP
      have hD : va_D A (wM a cI cJ xs ys pl lp lq lr v0 v1 v2 v3 y16 y19 v6 v7) := hD
      refine lv_aload_n hx hb dX6_counted_50 rfl (lv_at hl 0 rfl) ?_
      refine lv_dup hx hb dX6_counted_51 rfl ?_
      refine va_get (D := (dC, dI)) (ci := 10) (v := .int v6) (C := RX6) (T := TX6) (N := 14) hx hb hts (fun _ h => gI_wsX60 h) hown hK.1 hP 0 rfl rfl 9 (by decide) (hts _ mG_13_17) (fun _ h9 => h9) rfl dX6_counted_52 ?_
      refine lv_iload_n hx hb dX6_counted_55 rfl (lv_at hl 2 rfl) ?_
      refine lv_if_ne (tgt := 63) hx hb dX6_counted_56 (by decide) (fun c20 => ?_) (fun c20 => ?_)
      · skip
        refine lv_iconst (v := (0 : Int32)) hx hb dX6_counted_63 (by decide) ?_
        refine lv_iadd hx hb dX6_counted_64 ?_
        refine lv_topi (fun y21 ey21 => ?_)
        refine va_put (D := (dC, dI)) (ci := 10) (v := .int y21) (ty := .int) (C := RX6) (T := TX6) (N := 14) hx hb hts (fun _ h => gI_wsX60 h) tyX6 tyX6_ok nmX6 hown hK.1 hP hD hS 0 rfl rfl 9 (by decide) (hts _ mG_13_17) (fun _ h9 => h9) rfl (by decide +kernel) rfl rfl (Nat.le_of_ble_eq_true rfl) dX6_counted_65 (fun H locs hP hD hS => ?_)
        have hP : va_P (dC, dI) vwCl (wM a cI cJ xs ys pl lp lq lr v0 v1 v2 v3 y16 y19 y21 v7) H := hP
        have hD : va_D A (wM a cI cJ xs ys pl lp lq lr v0 v1 v2 v3 y16 y19 y21 v7) := hD
        refine lv_iload_n hx hb dX6_counted_68 rfl (lv_at hl 2 rfl) ?_
        have hE : (f_X6_counted v3 v4 v5 v6 p1 p2) = (p2, y16, y19, y21) := (by subst ey16; subst ey19; subst ey21; simp only [f_X6_counted, if_neg c1, if_neg c8, if_neg c20])
        exact rw_i hQ hx hb hr hlk (by rw [hE]; exact hP) hS (by rw [hE]) dX6_counted_69
      · skip
        refine lv_iconst (v := (1 : Int32)) hx hb dX6_counted_59 (by decide) ?_
        refine lv_goto (tgt := 64) hx hb dX6_counted_60 (by decide) ?_
        refine lv_iadd hx hb dX6_counted_64 ?_
        refine lv_topi (fun y22 ey22 => ?_)
        refine va_put (D := (dC, dI)) (ci := 10) (v := .int y22) (ty := .int) (C := RX6) (T := TX6) (N := 14) hx hb hts (fun _ h => gI_wsX60 h) tyX6 tyX6_ok nmX6 hown hK.1 hP hD hS 0 rfl rfl 9 (by decide) (hts _ mG_13_17) (fun _ h9 => h9) rfl (by decide +kernel) rfl rfl (Nat.le_of_ble_eq_true rfl) dX6_counted_65 (fun H locs hP hD hS => ?_)
        have hP : va_P (dC, dI) vwCl (wM a cI cJ xs ys pl lp lq lr v0 v1 v2 v3 y16 y19 y22 v7) H := hP
        have hD : va_D A (wM a cI cJ xs ys pl lp lq lr v0 v1 v2 v3 y16 y19 y22 v7) := hD
        refine lv_iload_n hx hb dX6_counted_68 rfl (lv_at hl 2 rfl) ?_
        have hE : (f_X6_counted v3 v4 v5 v6 p1 p2) = (p2, y16, y19, y22) := (by subst ey16; subst ey19; subst ey22; simp only [f_X6_counted, if_neg c1, if_neg c8, if_pos c20])
        exact rw_i hQ hx hb hr hlk (by rw [hE]; exact hP) hS (by rw [hE]) dX6_counted_69
/-! X6_side -/
theorem hs_X6_side : yX6_side.cls ≠ "java/lang/invoke/MethodHandle" ∧ yX6_side.cls ≠ "java/lang/invoke/VarHandle" ∧ (parseMethodDescriptor yX6_side.desc).map (fun d => d.parameters.length) = some 3 := by decide +kernel
theorem hd_X6_side : yX6_side.cls = RX6 ∧ yX6_side.cls ≠ "java/lang/invoke/MethodHandle" ∧ yX6_side.cls ≠ "java/lang/invoke/VarHandle" ∧ (parseMethodDescriptor yX6_side.desc).map (fun d => d.parameters.length) = some 3 := ⟨rfl, hs_X6_side⟩
def f_X6_side (xs : Nat → Int32) (ys : Nat → Int32) (v0 : Int32) (v1 : Int32) (v3 : Int32) (v4 : Int32) (v5 : Int32) (v6 : Int32) (p1 : Int32) (p2 : Int32) (p3 : Int32) : Int32 × Int32 × Int32 × Int32 × Int32 := (if (f_X6_isPoint v1 p1) = 0 then ((-2 : Int32), (0 : Int32), v4, v5, v6) else (if (f_X6_isPoint v1 p2) = 0 then ((-2 : Int32), (0 : Int32), v4, v5, v6) else (if (f_X6_isPoint v1 p3) = 0 then ((-2 : Int32), (0 : Int32), v4, v5, v6) else (if (f_X6_areEqual xs ys p1 p2) = 0 then (((f_X6_counted v3 v4 v5 v6 (f_X6_decidesTurn xs ys p1 p2 p3) (f_X6_turn xs ys p1 p2 p3)).1), (0 : Int32), ((f_X6_counted v3 v4 v5 v6 (f_X6_decidesTurn xs ys p1 p2 p3) (f_X6_turn xs ys p1 p2 p3)).2.1), ((f_X6_counted v3 v4 v5 v6 (f_X6_decidesTurn xs ys p1 p2 p3) (f_X6_turn xs ys p1 p2 p3)).2.2.1), ((f_X6_counted v3 v4 v5 v6 (f_X6_decidesTurn xs ys p1 p2 p3) (f_X6_turn xs ys p1 p2 p3)).2.2.2)) else ((-4 : Int32), (0 : Int32), v4, v5, v6)))))
abbrev rm_X6_side : Room := { frames := 3, cells := 0, slots := 0, locals := 72 }
set_option maxHeartbeats 8000000 in
set_option maxRecDepth 100000 in
theorem c_X6_side (l : Launch) (dC : Nat → ClassId) (dI : Nat → Nat → Nat) (a : Nat → Nat) (cI cJ : ClassId) (xs : Nat → Int32) (ys : Nat → Int32) (pl : Nat → Int32) (lp : Nat → Int64) (lq : Nat → Int64) (lr : Nat → Int64) (v0 : Int32) (v1 : Int32) (v2 : Int32) (v3 : Int32) (v4 : Int32) (v5 : Int32) (v6 : Int32) (v7 : Int32) (p1 : Int32) (p2 : Int32) (p3 : Int32) (hv1 : v1 ≤ 60) (hbx : ∀ j : Nat, (xs j).toInt.natAbs ≤ 16384) (hby : ∀ j : Nat, (ys j).toInt.natAbs ≤ 16384) : Met l yX6_side (Cond.code yX6_side cX6_side 4 (some .int) :: lw_G) rm_X6_side (wPc (dC, dI) (tIJ cI cJ) (wM a cI cJ xs ys pl lp lq lr v0 v1 v2 v3 v4 v5 v6 v7) [.ref (a 0), .int p1, .int p2, .int p3]) (wQi (dC, dI) (wA (wM a cI cJ xs ys pl lp lq lr v0 v1 v2 v3 v4 v5 v6 v7)) (wM a cI cJ xs ys pl lp lq lr ((f_X6_side xs ys v0 v1 v3 v4 v5 v6 p1 p2 p3).2.1) v1 v2 v3 ((f_X6_side xs ys v0 v1 v3 v4 v5 v6 p1 p2 p3).2.2.1) ((f_X6_side xs ys v0 v1 v3 v4 v5 v6 p1 p2 p3).2.2.2.1) ((f_X6_side xs ys v0 v1 v3 v4 v5 v6 p1 p2 p3).2.2.2.2) v7) (f_X6_side xs ys v0 v1 v3 v4 v5 v6 p1 p2 p3).1) 0 0 (wA (wM a cI cJ xs ys pl lp lq lr v0 v1 v2 v3 v4 v5 v6 v7)) := by
  refine wm_of (by decide) (Nat.le_of_ble_eq_true rfl) ?_
  intro p e s m args below meth c Q ls hQ hx hb hr hlk hml hown hts hP hK hD hS hl
  have hown : s.vm.findClass RX6 = some m.cls := hown
  have hl : lv_has ls 4 [(0, .ref (a 0)), (1, .int p1), (2, .int p2), (3, .int p3)] := hl
  generalize hAe : wA (wM a cI cJ xs ys pl lp lq lr v0 v1 v2 v3 v4 v5 v6 v7) = A at hQ hD hS
  refine lv_aload_n hx hb dX6_side_0 rfl (lv_at hl 0 rfl) ?_
  refine lv_iconst (v := (0 : Int32)) hx hb dX6_side_1 (by decide) ?_
  refine va_put (D := (dC, dI)) (ci := 10) (v := .int (0 : Int32)) (ty := .int) (C := RX6) (T := TX6) (N := 14) hx hb hts (fun _ h => gI_wsX60 h) tyX6 tyX6_ok nmX6 hown hK.1 hP hD hS 0 rfl rfl 0 (by decide) (hts _ mG_5_12) (fun _ h9 => h9) rfl (by decide +kernel) rfl rfl (Nat.le_of_ble_eq_true rfl) dX6_side_2 (fun H locs hP hD hS => ?_)
  have hP : va_P (dC, dI) vwCl (wM a cI cJ xs ys pl lp lq lr (0 : Int32) v1 v2 v3 v4 v5 v6 v7) H := hP
  have hD : va_D A (wM a cI cJ xs ys pl lp lq lr (0 : Int32) v1 v2 v3 v4 v5 v6 v7) := hD
  refine lv_aload_n hx hb dX6_side_5 rfl (lv_at hl 0 rfl) ?_
  refine lv_iload_n hx hb dX6_side_6 rfl (lv_at hl 1 rfl) ?_
  refine cp_i (va_runV (As := [.int p1]) (rest := []) ⟨hx, hb, hml, hown, hts⟩ (c_X6_isPoint l dC dI a cI cJ xs ys pl lp lq lr (0 : Int32) v1 v2 v3 v4 v5 v6 v7 p1 ) (cwV 1 hts (gG_V mG_8_5 mG_8_6 mG_8_7 mG_1_5 (gG_c mG_8_8 gG_G)) rfl rfl rfl hd_X6_isPoint ⟨Nat.le_of_ble_eq_true rfl, Nat.le_of_ble_eq_true rfl⟩) (pPcV (ci := 10) (q0 := 0) hK hP rfl rfl) rfl rfl hl.1 rfl (lv_room (Nat.le_of_ble_eq_true rfl)) dX6_side_7 ⟨Nat.le_of_ble_eq_true rfl, Nat.le_of_ble_eq_true rfl⟩) hP hS (fun H hP hS => ?_)
  refine lv_if_eq (tgt := 29) hx hb dX6_side_10 (by decide) (fun c1 => ?_) (fun c1 => ?_)
  · skip
    refine lv_bipush (v := (-2 : Int32)) hx hb dX6_side_29 (by decide) ?_
    have hE : (f_X6_side xs ys v0 v1 v3 v4 v5 v6 p1 p2 p3) = ((-2 : Int32), (0 : Int32), v4, v5, v6) := (by simp only [f_X6_side, if_pos c1])
    exact rw_i hQ hx hb hr hlk (by rw [hE]; exact hP) hS (by rw [hE]) dX6_side_31
  · skip
    have hi1 : vp_in p1 60 := in_isPoint hv1 c1
    refine lv_aload_n hx hb dX6_side_13 rfl (lv_at hl 0 rfl) ?_
    refine lv_iload_n hx hb dX6_side_14 rfl (lv_at hl 2 rfl) ?_
    refine cp_i (va_runV (As := [.int p2]) (rest := []) ⟨hx, hb, hml, hown, hts⟩ (c_X6_isPoint l dC dI a cI cJ xs ys pl lp lq lr (0 : Int32) v1 v2 v3 v4 v5 v6 v7 p2 ) (cwV 1 hts (gG_V mG_8_5 mG_8_6 mG_8_7 mG_1_5 (gG_c mG_8_8 gG_G)) rfl rfl rfl hd_X6_isPoint ⟨Nat.le_of_ble_eq_true rfl, Nat.le_of_ble_eq_true rfl⟩) (pPcV (ci := 10) (q0 := 0) hK hP rfl rfl) rfl rfl hl.1 rfl (lv_room (Nat.le_of_ble_eq_true rfl)) dX6_side_15 ⟨Nat.le_of_ble_eq_true rfl, Nat.le_of_ble_eq_true rfl⟩) hP hS (fun H hP hS => ?_)
    refine lv_if_eq (tgt := 29) hx hb dX6_side_18 (by decide) (fun c2 => ?_) (fun c2 => ?_)
    · skip
      refine lv_bipush (v := (-2 : Int32)) hx hb dX6_side_29 (by decide) ?_
      have hE : (f_X6_side xs ys v0 v1 v3 v4 v5 v6 p1 p2 p3) = ((-2 : Int32), (0 : Int32), v4, v5, v6) := (by simp only [f_X6_side, if_neg c1, if_pos c2])
      exact rw_i hQ hx hb hr hlk (by rw [hE]; exact hP) hS (by rw [hE]) dX6_side_31
    · skip
      have hi2 : vp_in p2 60 := in_isPoint hv1 c2
      refine lv_aload_n hx hb dX6_side_21 rfl (lv_at hl 0 rfl) ?_
      refine lv_iload_n hx hb dX6_side_22 rfl (lv_at hl 3 rfl) ?_
      refine cp_i (va_runV (As := [.int p3]) (rest := []) ⟨hx, hb, hml, hown, hts⟩ (c_X6_isPoint l dC dI a cI cJ xs ys pl lp lq lr (0 : Int32) v1 v2 v3 v4 v5 v6 v7 p3 ) (cwV 1 hts (gG_V mG_8_5 mG_8_6 mG_8_7 mG_1_5 (gG_c mG_8_8 gG_G)) rfl rfl rfl hd_X6_isPoint ⟨Nat.le_of_ble_eq_true rfl, Nat.le_of_ble_eq_true rfl⟩) (pPcV (ci := 10) (q0 := 0) hK hP rfl rfl) rfl rfl hl.1 rfl (lv_room (Nat.le_of_ble_eq_true rfl)) dX6_side_23 ⟨Nat.le_of_ble_eq_true rfl, Nat.le_of_ble_eq_true rfl⟩) hP hS (fun H hP hS => ?_)
      refine lv_if_ne (tgt := 32) hx hb dX6_side_26 (by decide) (fun c3 => ?_) (fun c3 => ?_)
      · skip
        have hi3 : vp_in p3 60 := in_isPoint hv1 c3
        refine lv_aload_n hx hb dX6_side_32 rfl (lv_at hl 0 rfl) ?_
        refine lv_iload_n hx hb dX6_side_33 rfl (lv_at hl 1 rfl) ?_
        refine lv_iload_n hx hb dX6_side_34 rfl (lv_at hl 2 rfl) ?_
        refine cp_i (va_runV (As := [.int p1, .int p2]) (rest := []) ⟨hx, hb, hml, hown, hts⟩ (c_X6_areEqual l dC dI a cI cJ xs ys pl lp lq lr (0 : Int32) v1 v2 v3 v4 v5 v6 v7 p1 p2 (by first | with_reducible assumption | exact in0_24 | exact in0_60 | decide) (by first | with_reducible assumption | exact in0_24 | exact in0_60 | decide)) (cwV 2 hts (gG_V mG_12_0 mG_12_1 mG_12_2 mG_1_5 (gG_c mG_12_3 gG_G)) rfl rfl rfl hd_X6_areEqual ⟨Nat.le_of_ble_eq_true rfl, Nat.le_of_ble_eq_true rfl⟩) (pPcV (ci := 10) (q0 := 0) hK hP rfl rfl) rfl rfl hl.1 rfl (lv_room (Nat.le_of_ble_eq_true rfl)) dX6_side_35 ⟨Nat.le_of_ble_eq_true rfl, Nat.le_of_ble_eq_true rfl⟩) hP hS (fun H hP hS => ?_)
        refine lv_if_eq (tgt := 46) hx hb dX6_side_38 (by decide) (fun c4 => ?_) (fun c4 => ?_)
        · skip
          refine lv_aload_n hx hb dX6_side_46 rfl (lv_at hl 0 rfl) ?_
          refine lv_aload_n hx hb dX6_side_47 rfl (lv_at hl 0 rfl) ?_
          refine lv_iload_n hx hb dX6_side_48 rfl (lv_at hl 1 rfl) ?_
          refine lv_iload_n hx hb dX6_side_49 rfl (lv_at hl 2 rfl) ?_
          refine lv_iload_n hx hb dX6_side_50 rfl (lv_at hl 3 rfl) ?_
          refine cp_i (va_runV (As := [.int p1, .int p2, .int p3]) (rest := [.ref (a 0)]) ⟨hx, hb, hml, hown, hts⟩ (c_X6_decidesTurn l dC dI a cI cJ xs ys pl lp lq lr (0 : Int32) v1 v2 v3 v4 v5 v6 v7 p1 p2 p3 (by first | with_reducible assumption | exact in0_24 | exact in0_60 | decide) (by first | with_reducible assumption | exact in0_24 | exact in0_60 | decide) (by first | with_reducible assumption | exact in0_24 | exact in0_60 | decide) (by first | with_reducible assumption | exact in0_24 | exact in0_60 | decide) (by first | with_reducible assumption | exact in0_24 | exact in0_60 | decide)) (cwV 3 hts (gG_V mG_12_4 mG_12_5 mG_12_6 mG_1_5 (gG_c mG_12_7 gG_G)) rfl rfl rfl hd_X6_decidesTurn ⟨Nat.le_of_ble_eq_true rfl, Nat.le_of_ble_eq_true rfl⟩) (pPcV (ci := 10) (q0 := 0) hK hP rfl rfl) rfl rfl hl.1 rfl (lv_room (Nat.le_of_ble_eq_true rfl)) dX6_side_51 ⟨Nat.le_of_ble_eq_true rfl, Nat.le_of_ble_eq_true rfl⟩) hP hS (fun H hP hS => ?_)
          refine lv_aload_n hx hb dX6_side_54 rfl (lv_at hl 0 rfl) ?_
          refine lv_iload_n hx hb dX6_side_55 rfl (lv_at hl 1 rfl) ?_
          refine lv_iload_n hx hb dX6_side_56 rfl (lv_at hl 2 rfl) ?_
          refine lv_iload_n hx hb dX6_side_57 rfl (lv_at hl 3 rfl) ?_
          refine cp_i (va_runV (As := [.int p1, .int p2, .int p3]) (rest := [.int (f_X6_decidesTurn xs ys p1 p2 p3), .ref (a 0)]) ⟨hx, hb, hml, hown, hts⟩ (c_X6_turn l dC dI a cI cJ xs ys pl lp lq lr (0 : Int32) v1 v2 v3 v4 v5 v6 v7 p1 p2 p3 (by first | with_reducible assumption | exact in0_24 | exact in0_60 | decide) (by first | with_reducible assumption | exact in0_24 | exact in0_60 | decide) (by first | with_reducible assumption | exact in0_24 | exact in0_60 | decide)) (cwV 3 hts (gG_V mG_13_4 mG_13_5 mG_13_6 mG_1_5 (gG_c mG_13_7 gG_G)) rfl rfl rfl hd_X6_turn ⟨Nat.le_of_ble_eq_true rfl, Nat.le_of_ble_eq_true rfl⟩) (pPcV (ci := 10) (q0 := 0) hK hP rfl rfl) rfl rfl hl.1 rfl (lv_room (Nat.le_of_ble_eq_true rfl)) dX6_side_58 ⟨Nat.le_of_ble_eq_true rfl, Nat.le_of_ble_eq_true rfl⟩) hP hS (fun H hP hS => ?_)
          refine cw_i (va_runV (As := [.int (f_X6_decidesTurn xs ys p1 p2 p3), .int (f_X6_turn xs ys p1 p2 p3)]) (rest := []) ⟨hx, hb, hml, hown, hts⟩ (c_X6_counted l dC dI a cI cJ xs ys pl lp lq lr (0 : Int32) v1 v2 v3 v4 v5 v6 v7 (f_X6_decidesTurn xs ys p1 p2 p3) (f_X6_turn xs ys p1 p2 p3) ) (cwV 2 hts (gG_V mG_13_11 mG_13_12 mG_13_13 mG_1_5 (gG_c mG_13_14 gG_G)) rfl rfl rfl hd_X6_counted ⟨Nat.le_of_ble_eq_true rfl, Nat.le_of_ble_eq_true rfl⟩) (wPcV (ci := 10) (q0 := 0) hK hP hD rfl rfl) rfl rfl hl.1 rfl (lv_room (Nat.le_of_ble_eq_true rfl)) dX6_side_61 ⟨Nat.le_of_ble_eq_true rfl, Nat.le_of_ble_eq_true rfl⟩) (wA.sub hD) hS (fun H locs hP hk1 hS => ?_)
          have hD := hD.addr (w1 := (wM a cI cJ xs ys pl lp lq lr (0 : Int32) v1 v2 v3 ((f_X6_counted v3 v4 v5 v6 (f_X6_decidesTurn xs ys p1 p2 p3) (f_X6_turn xs ys p1 p2 p3)).2.1) ((f_X6_counted v3 v4 v5 v6 (f_X6_decidesTurn xs ys p1 p2 p3) (f_X6_turn xs ys p1 p2 p3)).2.2.1) ((f_X6_counted v3 v4 v5 v6 (f_X6_decidesTurn xs ys p1 p2 p3) (f_X6_turn xs ys p1 p2 p3)).2.2.2) v7)) rfl
          have hE : (f_X6_side xs ys v0 v1 v3 v4 v5 v6 p1 p2 p3) = (((f_X6_counted v3 v4 v5 v6 (f_X6_decidesTurn xs ys p1 p2 p3) (f_X6_turn xs ys p1 p2 p3)).1), (0 : Int32), ((f_X6_counted v3 v4 v5 v6 (f_X6_decidesTurn xs ys p1 p2 p3) (f_X6_turn xs ys p1 p2 p3)).2.1), ((f_X6_counted v3 v4 v5 v6 (f_X6_decidesTurn xs ys p1 p2 p3) (f_X6_turn xs ys p1 p2 p3)).2.2.1), ((f_X6_counted v3 v4 v5 v6 (f_X6_decidesTurn xs ys p1 p2 p3) (f_X6_turn xs ys p1 p2 p3)).2.2.2)) := (by simp only [f_X6_side, if_neg c1, if_neg c2, if_neg c3, if_pos c4])
          exact rw_i hQ hx hb hr hlk (by rw [hE]; exact hP) hS (by rw [hE]) dX6_side_64
        · skip
          refine lv_bipush (v := (-4 : Int32)) hx hb dX6_side_41 (by decide) ?_
          refine lv_goto (tgt := 64) hx hb dX6_side_43 (by decide) ?_
          have hE : (f_X6_side xs ys v0 v1 v3 v4 v5 v6 p1 p2 p3) = ((-4 : Int32), (0 : Int32), v4, v5, v6) := (by simp only [f_X6_side, if_neg c1, if_neg c2, if_neg c3, if_neg c4])
          exact rw_i hQ hx hb hr hlk (by rw [hE]; exact hP) hS (by rw [hE]) dX6_side_64
      · skip
        refine lv_bipush (v := (-2 : Int32)) hx hb dX6_side_29 (by decide) ?_
        have hE : (f_X6_side xs ys v0 v1 v3 v4 v5 v6 p1 p2 p3) = ((-2 : Int32), (0 : Int32), v4, v5, v6) := (by simp only [f_X6_side, if_neg c1, if_neg c2, if_pos c3])
        exact rw_i hQ hx hb hr hlk (by rw [hE]; exact hP) hS (by rw [hE]) dX6_side_31
/-! X6_circle -/
theorem hs_X6_circle : yX6_circle.cls ≠ "java/lang/invoke/MethodHandle" ∧ yX6_circle.cls ≠ "java/lang/invoke/VarHandle" ∧ (parseMethodDescriptor yX6_circle.desc).map (fun d => d.parameters.length) = some 4 := by decide +kernel
theorem hd_X6_circle : yX6_circle.cls = RX6 ∧ yX6_circle.cls ≠ "java/lang/invoke/MethodHandle" ∧ yX6_circle.cls ≠ "java/lang/invoke/VarHandle" ∧ (parseMethodDescriptor yX6_circle.desc).map (fun d => d.parameters.length) = some 4 := ⟨rfl, hs_X6_circle⟩
def f_X6_circle (xs : Nat → Int32) (ys : Nat → Int32) (v0 : Int32) (v1 : Int32) (v3 : Int32) (v4 : Int32) (v5 : Int32) (v6 : Int32) (p1 : Int32) (p2 : Int32) (p3 : Int32) (p4 : Int32) : Int32 × Int32 × Int32 × Int32 × Int32 := (if (f_X6_isPoint v1 p1) = 0 then ((-2 : Int32), (0 : Int32), v4, v5, v6) else (if (f_X6_isPoint v1 p2) = 0 then ((-2 : Int32), (0 : Int32), v4, v5, v6) else (if (f_X6_isPoint v1 p3) = 0 then ((-2 : Int32), (0 : Int32), v4, v5, v6) else (if (f_X6_isPoint v1 p4) = 0 then ((-2 : Int32), (0 : Int32), v4, v5, v6) else (if (f_X6_turn xs ys p1 p2 p3) = 0 then ((-4 : Int32), (0 : Int32), v4, v5, v6) else (((f_X6_counted v3 v4 v5 v6 (f_X6_decidesRing xs ys p1 p2 p3 p4) (f_X6_ring xs ys p1 p2 p3 p4)).1), (0 : Int32), ((f_X6_counted v3 v4 v5 v6 (f_X6_decidesRing xs ys p1 p2 p3 p4) (f_X6_ring xs ys p1 p2 p3 p4)).2.1), ((f_X6_counted v3 v4 v5 v6 (f_X6_decidesRing xs ys p1 p2 p3 p4) (f_X6_ring xs ys p1 p2 p3 p4)).2.2.1), ((f_X6_counted v3 v4 v5 v6 (f_X6_decidesRing xs ys p1 p2 p3 p4) (f_X6_ring xs ys p1 p2 p3 p4)).2.2.2)))))))
abbrev rm_X6_circle : Room := { frames := 3, cells := 0, slots := 0, locals := 86 }
set_option maxHeartbeats 8000000 in
set_option maxRecDepth 100000 in
theorem c_X6_circle (l : Launch) (dC : Nat → ClassId) (dI : Nat → Nat → Nat) (a : Nat → Nat) (cI cJ : ClassId) (xs : Nat → Int32) (ys : Nat → Int32) (pl : Nat → Int32) (lp : Nat → Int64) (lq : Nat → Int64) (lr : Nat → Int64) (v0 : Int32) (v1 : Int32) (v2 : Int32) (v3 : Int32) (v4 : Int32) (v5 : Int32) (v6 : Int32) (v7 : Int32) (p1 : Int32) (p2 : Int32) (p3 : Int32) (p4 : Int32) (hv1 : v1 ≤ 60) (hbx : ∀ j : Nat, (xs j).toInt.natAbs ≤ 16384) (hby : ∀ j : Nat, (ys j).toInt.natAbs ≤ 16384) : Met l yX6_circle (Cond.code yX6_circle cX6_circle 5 (some .int) :: lw_G) rm_X6_circle (wPc (dC, dI) (tIJ cI cJ) (wM a cI cJ xs ys pl lp lq lr v0 v1 v2 v3 v4 v5 v6 v7) [.ref (a 0), .int p1, .int p2, .int p3, .int p4]) (wQi (dC, dI) (wA (wM a cI cJ xs ys pl lp lq lr v0 v1 v2 v3 v4 v5 v6 v7)) (wM a cI cJ xs ys pl lp lq lr ((f_X6_circle xs ys v0 v1 v3 v4 v5 v6 p1 p2 p3 p4).2.1) v1 v2 v3 ((f_X6_circle xs ys v0 v1 v3 v4 v5 v6 p1 p2 p3 p4).2.2.1) ((f_X6_circle xs ys v0 v1 v3 v4 v5 v6 p1 p2 p3 p4).2.2.2.1) ((f_X6_circle xs ys v0 v1 v3 v4 v5 v6 p1 p2 p3 p4).2.2.2.2) v7) (f_X6_circle xs ys v0 v1 v3 v4 v5 v6 p1 p2 p3 p4).1) 0 0 (wA (wM a cI cJ xs ys pl lp lq lr v0 v1 v2 v3 v4 v5 v6 v7)) := by
  refine wm_of (by decide) (Nat.le_of_ble_eq_true rfl) ?_
  intro p e s m args below meth c Q ls hQ hx hb hr hlk hml hown hts hP hK hD hS hl
  have hown : s.vm.findClass RX6 = some m.cls := hown
  have hl : lv_has ls 5 [(0, .ref (a 0)), (1, .int p1), (2, .int p2), (3, .int p3), (4, .int p4)] := hl
  generalize hAe : wA (wM a cI cJ xs ys pl lp lq lr v0 v1 v2 v3 v4 v5 v6 v7) = A at hQ hD hS
  refine lv_aload_n hx hb dX6_circle_0 rfl (lv_at hl 0 rfl) ?_
  refine lv_iconst (v := (0 : Int32)) hx hb dX6_circle_1 (by decide) ?_
  refine va_put (D := (dC, dI)) (ci := 10) (v := .int (0 : Int32)) (ty := .int) (C := RX6) (T := TX6) (N := 14) hx hb hts (fun _ h => gI_wsX60 h) tyX6 tyX6_ok nmX6 hown hK.1 hP hD hS 0 rfl rfl 0 (by decide) (hts _ mG_5_12) (fun _ h9 => h9) rfl (by decide +kernel) rfl rfl (Nat.le_of_ble_eq_true rfl) dX6_circle_2 (fun H locs hP hD hS => ?_)
  have hP : va_P (dC, dI) vwCl (wM a cI cJ xs ys pl lp lq lr (0 : Int32) v1 v2 v3 v4 v5 v6 v7) H := hP
  have hD : va_D A (wM a cI cJ xs ys pl lp lq lr (0 : Int32) v1 v2 v3 v4 v5 v6 v7) := hD
  refine lv_aload_n hx hb dX6_circle_5 rfl (lv_at hl 0 rfl) ?_
  refine lv_iload_n hx hb dX6_circle_6 rfl (lv_at hl 1 rfl) ?_
  refine cp_i (va_runV (As := [.int p1]) (rest := []) ⟨hx, hb, hml, hown, hts⟩ (c_X6_isPoint l dC dI a cI cJ xs ys pl lp lq lr (0 : Int32) v1 v2 v3 v4 v5 v6 v7 p1 ) (cwV 1 hts (gG_V mG_8_5 mG_8_6 mG_8_7 mG_1_5 (gG_c mG_8_8 gG_G)) rfl rfl rfl hd_X6_isPoint ⟨Nat.le_of_ble_eq_true rfl, Nat.le_of_ble_eq_true rfl⟩) (pPcV (ci := 10) (q0 := 0) hK hP rfl rfl) rfl rfl hl.1 rfl (lv_room (Nat.le_of_ble_eq_true rfl)) dX6_circle_7 ⟨Nat.le_of_ble_eq_true rfl, Nat.le_of_ble_eq_true rfl⟩) hP hS (fun H hP hS => ?_)
  refine lv_if_eq (tgt := 38) hx hb dX6_circle_10 (by decide) (fun c1 => ?_) (fun c1 => ?_)
  · skip
    refine lv_bipush (v := (-2 : Int32)) hx hb dX6_circle_38 (by decide) ?_
    have hE : (f_X6_circle xs ys v0 v1 v3 v4 v5 v6 p1 p2 p3 p4) = ((-2 : Int32), (0 : Int32), v4, v5, v6) := (by simp only [f_X6_circle, if_pos c1])
    exact rw_i hQ hx hb hr hlk (by rw [hE]; exact hP) hS (by rw [hE]) dX6_circle_40
  · skip
    have hi1 : vp_in p1 60 := in_isPoint hv1 c1
    refine lv_aload_n hx hb dX6_circle_13 rfl (lv_at hl 0 rfl) ?_
    refine lv_iload_n hx hb dX6_circle_14 rfl (lv_at hl 2 rfl) ?_
    refine cp_i (va_runV (As := [.int p2]) (rest := []) ⟨hx, hb, hml, hown, hts⟩ (c_X6_isPoint l dC dI a cI cJ xs ys pl lp lq lr (0 : Int32) v1 v2 v3 v4 v5 v6 v7 p2 ) (cwV 1 hts (gG_V mG_8_5 mG_8_6 mG_8_7 mG_1_5 (gG_c mG_8_8 gG_G)) rfl rfl rfl hd_X6_isPoint ⟨Nat.le_of_ble_eq_true rfl, Nat.le_of_ble_eq_true rfl⟩) (pPcV (ci := 10) (q0 := 0) hK hP rfl rfl) rfl rfl hl.1 rfl (lv_room (Nat.le_of_ble_eq_true rfl)) dX6_circle_15 ⟨Nat.le_of_ble_eq_true rfl, Nat.le_of_ble_eq_true rfl⟩) hP hS (fun H hP hS => ?_)
    refine lv_if_eq (tgt := 38) hx hb dX6_circle_18 (by decide) (fun c2 => ?_) (fun c2 => ?_)
    · skip
      refine lv_bipush (v := (-2 : Int32)) hx hb dX6_circle_38 (by decide) ?_
      have hE : (f_X6_circle xs ys v0 v1 v3 v4 v5 v6 p1 p2 p3 p4) = ((-2 : Int32), (0 : Int32), v4, v5, v6) := (by simp only [f_X6_circle, if_neg c1, if_pos c2])
      exact rw_i hQ hx hb hr hlk (by rw [hE]; exact hP) hS (by rw [hE]) dX6_circle_40
    · skip
      have hi2 : vp_in p2 60 := in_isPoint hv1 c2
      refine lv_aload_n hx hb dX6_circle_21 rfl (lv_at hl 0 rfl) ?_
      refine lv_iload_n hx hb dX6_circle_22 rfl (lv_at hl 3 rfl) ?_
      refine cp_i (va_runV (As := [.int p3]) (rest := []) ⟨hx, hb, hml, hown, hts⟩ (c_X6_isPoint l dC dI a cI cJ xs ys pl lp lq lr (0 : Int32) v1 v2 v3 v4 v5 v6 v7 p3 ) (cwV 1 hts (gG_V mG_8_5 mG_8_6 mG_8_7 mG_1_5 (gG_c mG_8_8 gG_G)) rfl rfl rfl hd_X6_isPoint ⟨Nat.le_of_ble_eq_true rfl, Nat.le_of_ble_eq_true rfl⟩) (pPcV (ci := 10) (q0 := 0) hK hP rfl rfl) rfl rfl hl.1 rfl (lv_room (Nat.le_of_ble_eq_true rfl)) dX6_circle_23 ⟨Nat.le_of_ble_eq_true rfl, Nat.le_of_ble_eq_true rfl⟩) hP hS (fun H hP hS => ?_)
      refine lv_if_eq (tgt := 38) hx hb dX6_circle_26 (by decide) (fun c3 => ?_) (fun c3 => ?_)
      · skip
        refine lv_bipush (v := (-2 : Int32)) hx hb dX6_circle_38 (by decide) ?_
        have hE : (f_X6_circle xs ys v0 v1 v3 v4 v5 v6 p1 p2 p3 p4) = ((-2 : Int32), (0 : Int32), v4, v5, v6) := (by simp only [f_X6_circle, if_neg c1, if_neg c2, if_pos c3])
        exact rw_i hQ hx hb hr hlk (by rw [hE]; exact hP) hS (by rw [hE]) dX6_circle_40
      · skip
        have hi3 : vp_in p3 60 := in_isPoint hv1 c3
        refine lv_aload_n hx hb dX6_circle_29 rfl (lv_at hl 0 rfl) ?_
        refine lv_iload hx hb dX6_circle_30 (lv_at hl 4 rfl) ?_
        refine cp_i (va_runV (As := [.int p4]) (rest := []) ⟨hx, hb, hml, hown, hts⟩ (c_X6_isPoint l dC dI a cI cJ xs ys pl lp lq lr (0 : Int32) v1 v2 v3 v4 v5 v6 v7 p4 ) (cwV 1 hts (gG_V mG_8_5 mG_8_6 mG_8_7 mG_1_5 (gG_c mG_8_8 gG_G)) rfl rfl rfl hd_X6_isPoint ⟨Nat.le_of_ble_eq_true rfl, Nat.le_of_ble_eq_true rfl⟩) (pPcV (ci := 10) (q0 := 0) hK hP rfl rfl) rfl rfl hl.1 rfl (lv_room (Nat.le_of_ble_eq_true rfl)) dX6_circle_32 ⟨Nat.le_of_ble_eq_true rfl, Nat.le_of_ble_eq_true rfl⟩) hP hS (fun H hP hS => ?_)
        refine lv_if_ne (tgt := 41) hx hb dX6_circle_35 (by decide) (fun c4 => ?_) (fun c4 => ?_)
        · skip
          have hi4 : vp_in p4 60 := in_isPoint hv1 c4
          refine lv_aload_n hx hb dX6_circle_41 rfl (lv_at hl 0 rfl) ?_
          refine lv_iload_n hx hb dX6_circle_42 rfl (lv_at hl 1 rfl) ?_
          refine lv_iload_n hx hb dX6_circle_43 rfl (lv_at hl 2 rfl) ?_
          refine lv_iload_n hx hb dX6_circle_44 rfl (lv_at hl 3 rfl) ?_
          refine cp_i (va_runV (As := [.int p1, .int p2, .int p3]) (rest := []) ⟨hx, hb, hml, hown, hts⟩ (c_X6_turn l dC dI a cI cJ xs ys pl lp lq lr (0 : Int32) v1 v2 v3 v4 v5 v6 v7 p1 p2 p3 (by first | with_reducible assumption | exact in0_24 | exact in0_60 | decide) (by first | with_reducible assumption | exact in0_24 | exact in0_60 | decide) (by first | with_reducible assumption | exact in0_24 | exact in0_60 | decide)) (cwV 3 hts (gG_V mG_13_4 mG_13_5 mG_13_6 mG_1_5 (gG_c mG_13_7 gG_G)) rfl rfl rfl hd_X6_turn ⟨Nat.le_of_ble_eq_true rfl, Nat.le_of_ble_eq_true rfl⟩) (pPcV (ci := 10) (q0 := 0) hK hP rfl rfl) rfl rfl hl.1 rfl (lv_room (Nat.le_of_ble_eq_true rfl)) dX6_circle_45 ⟨Nat.le_of_ble_eq_true rfl, Nat.le_of_ble_eq_true rfl⟩) hP hS (fun H hP hS => ?_)
          refine lv_if_ne (tgt := 56) hx hb dX6_circle_48 (by decide) (fun c5 => ?_) (fun c5 => ?_)
          · skip
            refine lv_aload_n hx hb dX6_circle_56 rfl (lv_at hl 0 rfl) ?_
            refine lv_aload_n hx hb dX6_circle_57 rfl (lv_at hl 0 rfl) ?_
            refine lv_iload_n hx hb dX6_circle_58 rfl (lv_at hl 1 rfl) ?_
            refine lv_iload_n hx hb dX6_circle_59 rfl (lv_at hl 2 rfl) ?_
            refine lv_iload_n hx hb dX6_circle_60 rfl (lv_at hl 3 rfl) ?_
            refine lv_iload hx hb dX6_circle_61 (lv_at hl 4 rfl) ?_
            refine cp_i (va_runV (As := [.int p1, .int p2, .int p3, .int p4]) (rest := [.ref (a 0)]) ⟨hx, hb, hml, hown, hts⟩ (c_X6_decidesRing l dC dI a cI cJ xs ys pl lp lq lr (0 : Int32) v1 v2 v3 v4 v5 v6 v7 p1 p2 p3 p4 (by first | with_reducible assumption | exact in0_24 | exact in0_60 | decide) (by first | with_reducible assumption | exact in0_24 | exact in0_60 | decide) (by first | with_reducible assumption | exact in0_24 | exact in0_60 | decide) (by first | with_reducible assumption | exact in0_24 | exact in0_60 | decide) (by first | with_reducible assumption | exact in0_24 | exact in0_60 | decide) (by first | with_reducible assumption | exact in0_24 | exact in0_60 | decide)) (cwV 4 hts (gG_V mG_14_12 mG_14_13 mG_14_14 mG_1_5 (gG_c mG_14_15 gG_G)) rfl rfl rfl hd_X6_decidesRing ⟨Nat.le_of_ble_eq_true rfl, Nat.le_of_ble_eq_true rfl⟩) (pPcV (ci := 10) (q0 := 0) hK hP rfl rfl) rfl rfl hl.1 rfl (lv_room (Nat.le_of_ble_eq_true rfl)) dX6_circle_63 ⟨Nat.le_of_ble_eq_true rfl, Nat.le_of_ble_eq_true rfl⟩) hP hS (fun H hP hS => ?_)
            refine lv_aload_n hx hb dX6_circle_66 rfl (lv_at hl 0 rfl) ?_
            refine lv_iload_n hx hb dX6_circle_67 rfl (lv_at hl 1 rfl) ?_
            refine lv_iload_n hx hb dX6_circle_68 rfl (lv_at hl 2 rfl) ?_
            refine lv_iload_n hx hb dX6_circle_69 rfl (lv_at hl 3 rfl) ?_
            refine lv_iload hx hb dX6_circle_70 (lv_at hl 4 rfl) ?_
            refine cp_i (va_runV (As := [.int p1, .int p2, .int p3, .int p4]) (rest := [.int (f_X6_decidesRing xs ys p1 p2 p3 p4), .ref (a 0)]) ⟨hx, hb, hml, hown, hts⟩ (c_X6_ring l dC dI a cI cJ xs ys pl lp lq lr (0 : Int32) v1 v2 v3 v4 v5 v6 v7 p1 p2 p3 p4 (by first | with_reducible assumption | exact in0_24 | exact in0_60 | decide) (by first | with_reducible assumption | exact in0_24 | exact in0_60 | decide) (by first | with_reducible assumption | exact in0_24 | exact in0_60 | decide) (by first | with_reducible assumption | exact in0_24 | exact in0_60 | decide)) (cwV 4 hts (gG_V mG_14_17 mG_14_18 mG_14_19 mG_1_5 (gG_c mG_14_20 gG_G)) rfl rfl rfl hd_X6_ring ⟨Nat.le_of_ble_eq_true rfl, Nat.le_of_ble_eq_true rfl⟩) (pPcV (ci := 10) (q0 := 0) hK hP rfl rfl) rfl rfl hl.1 rfl (lv_room (Nat.le_of_ble_eq_true rfl)) dX6_circle_72 ⟨Nat.le_of_ble_eq_true rfl, Nat.le_of_ble_eq_true rfl⟩) hP hS (fun H hP hS => ?_)
            refine cw_i (va_runV (As := [.int (f_X6_decidesRing xs ys p1 p2 p3 p4), .int (f_X6_ring xs ys p1 p2 p3 p4)]) (rest := []) ⟨hx, hb, hml, hown, hts⟩ (c_X6_counted l dC dI a cI cJ xs ys pl lp lq lr (0 : Int32) v1 v2 v3 v4 v5 v6 v7 (f_X6_decidesRing xs ys p1 p2 p3 p4) (f_X6_ring xs ys p1 p2 p3 p4) ) (cwV 2 hts (gG_V mG_13_11 mG_13_12 mG_13_13 mG_1_5 (gG_c mG_13_14 gG_G)) rfl rfl rfl hd_X6_counted ⟨Nat.le_of_ble_eq_true rfl, Nat.le_of_ble_eq_true rfl⟩) (wPcV (ci := 10) (q0 := 0) hK hP hD rfl rfl) rfl rfl hl.1 rfl (lv_room (Nat.le_of_ble_eq_true rfl)) dX6_circle_75 ⟨Nat.le_of_ble_eq_true rfl, Nat.le_of_ble_eq_true rfl⟩) (wA.sub hD) hS (fun H locs hP hk1 hS => ?_)
            have hD := hD.addr (w1 := (wM a cI cJ xs ys pl lp lq lr (0 : Int32) v1 v2 v3 ((f_X6_counted v3 v4 v5 v6 (f_X6_decidesRing xs ys p1 p2 p3 p4) (f_X6_ring xs ys p1 p2 p3 p4)).2.1) ((f_X6_counted v3 v4 v5 v6 (f_X6_decidesRing xs ys p1 p2 p3 p4) (f_X6_ring xs ys p1 p2 p3 p4)).2.2.1) ((f_X6_counted v3 v4 v5 v6 (f_X6_decidesRing xs ys p1 p2 p3 p4) (f_X6_ring xs ys p1 p2 p3 p4)).2.2.2) v7)) rfl
            have hE : (f_X6_circle xs ys v0 v1 v3 v4 v5 v6 p1 p2 p3 p4) = (((f_X6_counted v3 v4 v5 v6 (f_X6_decidesRing xs ys p1 p2 p3 p4) (f_X6_ring xs ys p1 p2 p3 p4)).1), (0 : Int32), ((f_X6_counted v3 v4 v5 v6 (f_X6_decidesRing xs ys p1 p2 p3 p4) (f_X6_ring xs ys p1 p2 p3 p4)).2.1), ((f_X6_counted v3 v4 v5 v6 (f_X6_decidesRing xs ys p1 p2 p3 p4) (f_X6_ring xs ys p1 p2 p3 p4)).2.2.1), ((f_X6_counted v3 v4 v5 v6 (f_X6_decidesRing xs ys p1 p2 p3 p4) (f_X6_ring xs ys p1 p2 p3 p4)).2.2.2)) := (by simp only [f_X6_circle, if_neg c1, if_neg c2, if_neg c3, if_neg c4, if_neg c5])
            exact rw_i hQ hx hb hr hlk (by rw [hE]; exact hP) hS (by rw [hE]) dX6_circle_78
          · skip
            refine lv_bipush (v := (-4 : Int32)) hx hb dX6_circle_51 (by decide) ?_
            refine lv_goto (tgt := 78) hx hb dX6_circle_53 (by decide) ?_
            have hE : (f_X6_circle xs ys v0 v1 v3 v4 v5 v6 p1 p2 p3 p4) = ((-4 : Int32), (0 : Int32), v4, v5, v6) := (by simp only [f_X6_circle, if_neg c1, if_neg c2, if_neg c3, if_neg c4, if_pos c5])
            exact rw_i hQ hx hb hr hlk (by rw [hE]; exact hP) hS (by rw [hE]) dX6_circle_78
        · skip
          refine lv_bipush (v := (-2 : Int32)) hx hb dX6_circle_38 (by decide) ?_
          have hE : (f_X6_circle xs ys v0 v1 v3 v4 v5 v6 p1 p2 p3 p4) = ((-2 : Int32), (0 : Int32), v4, v5, v6) := (by simp only [f_X6_circle, if_neg c1, if_neg c2, if_neg c3, if_pos c4])
          exact rw_i hQ hx hb hr hlk (by rw [hE]; exact hP) hS (by rw [hE]) dX6_circle_40
