/-! X1_slant -/
theorem hs_X1_slant : yX1_slant.cls ≠ "java/lang/invoke/MethodHandle" ∧ yX1_slant.cls ≠ "java/lang/invoke/VarHandle" ∧ (parseMethodDescriptor yX1_slant.desc).map (fun d => d.parameters.length) = some 2 := by decide +kernel
theorem hd_X1_slant : yX1_slant.cls = RX1 ∧ yX1_slant.cls ≠ "java/lang/invoke/MethodHandle" ∧ yX1_slant.cls ≠ "java/lang/invoke/VarHandle" ∧ (parseMethodDescriptor yX1_slant.desc).map (fun d => d.parameters.length) = some 2 := ⟨rfl, hs_X1_slant⟩
def f_X1_slant (lp : Nat → Int64) (lq : Nat → Int64) (p1 : Int32) (p2 : Int32) : Int64 := (((lp (Int32.toNatClampNeg p1)) * (lq (Int32.toNatClampNeg p2))) - ((lp (Int32.toNatClampNeg p2)) * (lq (Int32.toNatClampNeg p1))))
abbrev rm_X1_slant : Room := { frames := 0, cells := 0, slots := 0, locals := 0 }
set_option maxHeartbeats 8000000 in
set_option maxRecDepth 100000 in
theorem c_X1_slant (l : Launch) (dC : Nat → ClassId) (dI : Nat → Nat → Nat) (a : Nat → Nat) (cI cJ : ClassId) (xs : Nat → Int32) (ys : Nat → Int32) (pl : Nat → Int32) (kp : Nat → Int32) (lp : Nat → Int64) (lq : Nat → Int64) (lr : Nat → Int64) (v0 : Int32) (v1 : Int32) (v2 : Int32) (v3 : Int32) (v4 : Int32) (v5 : Int32) (v6 : Int32) (v7 : Int32) (v8 : Int32) (v9 : Int32) (v10 : Int32) (p1 : Int32) (p2 : Int32) (hi1 : vp_in p1 12) (hi2 : vp_in p2 12) : Met l yX1_slant (Cond.code yX1_slant cX1_slant 3 (some .long) :: lw_G) rm_X1_slant (pPc (dC, dI) (tIJ cI cJ) (wC a cI cJ xs ys pl kp lp lq lr v0 v1 v2 v3 v4 v5 v6 v7 v8 v9 v10) [.ref (a 8), .int p1, .int p2]) (pQl (f_X1_slant lp lq p1 p2)) 0 0 pNo := by
  refine pm_of (by decide) (Nat.le_of_ble_eq_true rfl) ?_
  intro p e s m args below meth c Q ls hQ hx hb hr hlk hml hown hts hP hK hS hl
  have hown : s.vm.findClass RX1 = some m.cls := hown
  have hl : lv_has ls 3 [(0, .ref (a 8)), (1, .int p1), (2, .int p2)] := hl
  refine lv_aload_n hx hb dX1_slant_0 rfl (lv_at hl 0 rfl) ?_
  refine va_get (D := (dC, dI)) (ci := 5) (v := .ref (a 9)) (C := RX1) (T := TX1) (N := 10) hx hb hts (fun _ h => gI_wsX10 h) hown hK.1 hP 8 rfl rfl 1 (by decide) (hts _ mG_3_18) (fun _ h9 => h9) rfl dX1_slant_1 ?_
  refine lv_iload_n hx hb dX1_slant_4 rfl (lv_at hl 1 rfl) ?_
  refine va_lald hx hb hK.1 hP 9 1 rfl rfl (by first | with_reducible assumption | exact in0_24 | exact in0_60 | decide) dX1_slant_5 ?_
  refine lv_aload_n hx hb dX1_slant_6 rfl (lv_at hl 0 rfl) ?_
  refine va_get (D := (dC, dI)) (ci := 5) (v := .ref (a 10)) (C := RX1) (T := TX1) (N := 10) hx hb hts (fun _ h => gI_wsX10 h) hown hK.1 hP 8 rfl rfl 2 (by decide) (hts _ mG_3_19) (fun _ h9 => h9) rfl dX1_slant_7 ?_
  refine lv_iload_n hx hb dX1_slant_10 rfl (lv_at hl 2 rfl) ?_
  refine va_lald hx hb hK.1 hP 10 1 rfl rfl (by first | with_reducible assumption | exact in0_24 | exact in0_60 | decide) dX1_slant_11 ?_
  refine lv_lmul hx hb dX1_slant_12 ?_
  refine lv_aload_n hx hb dX1_slant_13 rfl (lv_at hl 0 rfl) ?_
  refine va_get (D := (dC, dI)) (ci := 5) (v := .ref (a 9)) (C := RX1) (T := TX1) (N := 10) hx hb hts (fun _ h => gI_wsX10 h) hown hK.1 hP 8 rfl rfl 1 (by decide) (hts _ mG_3_18) (fun _ h9 => h9) rfl dX1_slant_14 ?_
  refine lv_iload_n hx hb dX1_slant_17 rfl (lv_at hl 2 rfl) ?_
  refine va_lald hx hb hK.1 hP 9 1 rfl rfl (by first | with_reducible assumption | exact in0_24 | exact in0_60 | decide) dX1_slant_18 ?_
  refine lv_aload_n hx hb dX1_slant_19 rfl (lv_at hl 0 rfl) ?_
  refine va_get (D := (dC, dI)) (ci := 5) (v := .ref (a 10)) (C := RX1) (T := TX1) (N := 10) hx hb hts (fun _ h => gI_wsX10 h) hown hK.1 hP 8 rfl rfl 2 (by decide) (hts _ mG_3_19) (fun _ h9 => h9) rfl dX1_slant_20 ?_
  refine lv_iload_n hx hb dX1_slant_23 rfl (lv_at hl 1 rfl) ?_
  refine va_lald hx hb hK.1 hP 10 1 rfl rfl (by first | with_reducible assumption | exact in0_24 | exact in0_60 | decide) dX1_slant_24 ?_
  refine lv_lmul hx hb dX1_slant_25 ?_
  refine lv_lsub hx hb dX1_slant_26 ?_
  exact rp_l hQ hx hb hr hlk hS (Eq.symm (by simp only [f_X1_slant])) dX1_slant_27
/-! X1_same -/
theorem hs_X1_same : yX1_same.cls ≠ "java/lang/invoke/MethodHandle" ∧ yX1_same.cls ≠ "java/lang/invoke/VarHandle" ∧ (parseMethodDescriptor yX1_same.desc).map (fun d => d.parameters.length) = some 2 := by decide +kernel
theorem hd_X1_same : yX1_same.cls = RX1 ∧ yX1_same.cls ≠ "java/lang/invoke/MethodHandle" ∧ yX1_same.cls ≠ "java/lang/invoke/VarHandle" ∧ (parseMethodDescriptor yX1_same.desc).map (fun d => d.parameters.length) = some 2 := ⟨rfl, hs_X1_same⟩
def f_X1_same (lp : Nat → Int64) (lq : Nat → Int64) (lr : Nat → Int64) (p1 : Int32) (p2 : Int32) : Int32 := (if (lg_cmp (f_X1_slant lp lq p1 p2) (0 : Int64)) = 0 then (if (lg_cmp ((lp (Int32.toNatClampNeg p1)) * (lr (Int32.toNatClampNeg p2))) ((lp (Int32.toNatClampNeg p2)) * (lr (Int32.toNatClampNeg p1)))) = 0 then (if (lg_cmp ((lq (Int32.toNatClampNeg p1)) * (lr (Int32.toNatClampNeg p2))) ((lq (Int32.toNatClampNeg p2)) * (lr (Int32.toNatClampNeg p1)))) = 0 then (1 : Int32) else (0 : Int32)) else (0 : Int32)) else (0 : Int32))
abbrev rm_X1_same : Room := { frames := 1, cells := 0, slots := 0, locals := 22 }
set_option maxHeartbeats 8000000 in
set_option maxRecDepth 100000 in
theorem c_X1_same (l : Launch) (dC : Nat → ClassId) (dI : Nat → Nat → Nat) (a : Nat → Nat) (cI cJ : ClassId) (xs : Nat → Int32) (ys : Nat → Int32) (pl : Nat → Int32) (kp : Nat → Int32) (lp : Nat → Int64) (lq : Nat → Int64) (lr : Nat → Int64) (v0 : Int32) (v1 : Int32) (v2 : Int32) (v3 : Int32) (v4 : Int32) (v5 : Int32) (v6 : Int32) (v7 : Int32) (v8 : Int32) (v9 : Int32) (v10 : Int32) (p1 : Int32) (p2 : Int32) (hi1 : vp_in p1 12) (hi2 : vp_in p2 12) : Met l yX1_same (Cond.code yX1_same cX1_same 3 (some .boolean) :: lw_G) rm_X1_same (pPc (dC, dI) (tIJ cI cJ) (wC a cI cJ xs ys pl kp lp lq lr v0 v1 v2 v3 v4 v5 v6 v7 v8 v9 v10) [.ref (a 8), .int p1, .int p2]) (pQi (f_X1_same lp lq lr p1 p2)) 0 0 pNo := by
  refine pm_of (by decide) (Nat.le_of_ble_eq_true rfl) ?_
  intro p e s m args below meth c Q ls hQ hx hb hr hlk hml hown hts hP hK hS hl
  have hown : s.vm.findClass RX1 = some m.cls := hown
  have hl : lv_has ls 3 [(0, .ref (a 8)), (1, .int p1), (2, .int p2)] := hl
  refine lv_aload_n hx hb dX1_same_0 rfl (lv_at hl 0 rfl) ?_
  refine lv_iload_n hx hb dX1_same_1 rfl (lv_at hl 1 rfl) ?_
  refine lv_iload_n hx hb dX1_same_2 rfl (lv_at hl 2 rfl) ?_
  refine cp_l (va_runV (As := [.int p1, .int p2]) (rest := []) ⟨hx, hb, hml, hown, hts⟩ (c_X1_slant l dC dI a cI cJ xs ys pl kp lp lq lr v0 v1 v2 v3 v4 v5 v6 v7 v8 v9 v10 p1 p2 (by first | with_reducible assumption | exact in0_24 | exact in0_60 | decide) (by first | with_reducible assumption | exact in0_24 | exact in0_60 | decide)) (cwV 2 hts (gG_V mG_29_0 mG_29_1 mG_29_2 mG_2_8 (gG_c mG_29_3 gG_G)) rfl rfl rfl hd_X1_slant ⟨Nat.le_of_ble_eq_true rfl, Nat.le_of_ble_eq_true rfl⟩) (pPcV (ci := 5) (q0 := 8) hK hP rfl rfl) rfl rfl hl.1 rfl (lv_room (Nat.le_of_ble_eq_true rfl)) dX1_same_3 ⟨Nat.le_of_ble_eq_true rfl, Nat.le_of_ble_eq_true rfl⟩) hP hS (fun H hP hS => ?_)
  refine lv_lconst (v := (0 : Int64)) hx hb dX1_same_6 (by decide) ?_
  refine W.lcmp hx hb dX1_same_7 ?_
  refine lv_if_ne (tgt := 75) hx hb dX1_same_8 (by decide) (fun c1 => ?_) (fun c1 => ?_)
  · skip
    refine lv_iconst (v := (0 : Int32)) hx hb dX1_same_75 (by decide) ?_
    exact rp_z hQ hx hb hr hlk hS (Eq.symm (by simp only [f_X1_same, if_neg c1])) (by decide) dX1_same_76
  · skip
    refine lv_aload_n hx hb dX1_same_11 rfl (lv_at hl 0 rfl) ?_
    refine va_get (D := (dC, dI)) (ci := 5) (v := .ref (a 9)) (C := RX1) (T := TX1) (N := 10) hx hb hts (fun _ h => gI_wsX10 h) hown hK.1 hP 8 rfl rfl 1 (by decide) (hts _ mG_3_18) (fun _ h9 => h9) rfl dX1_same_12 ?_
    refine lv_iload_n hx hb dX1_same_15 rfl (lv_at hl 1 rfl) ?_
    refine va_lald hx hb hK.1 hP 9 1 rfl rfl (by first | with_reducible assumption | exact in0_24 | exact in0_60 | decide) dX1_same_16 ?_
    refine lv_aload_n hx hb dX1_same_17 rfl (lv_at hl 0 rfl) ?_
    refine va_get (D := (dC, dI)) (ci := 5) (v := .ref (a 11)) (C := RX1) (T := TX1) (N := 10) hx hb hts (fun _ h => gI_wsX10 h) hown hK.1 hP 8 rfl rfl 3 (by decide) (hts _ mG_3_20) (fun _ h9 => h9) rfl dX1_same_18 ?_
    refine lv_iload_n hx hb dX1_same_21 rfl (lv_at hl 2 rfl) ?_
    refine va_lald hx hb hK.1 hP 11 1 rfl rfl (by first | with_reducible assumption | exact in0_24 | exact in0_60 | decide) dX1_same_22 ?_
    refine lv_lmul hx hb dX1_same_23 ?_
    refine lv_aload_n hx hb dX1_same_24 rfl (lv_at hl 0 rfl) ?_
    refine va_get (D := (dC, dI)) (ci := 5) (v := .ref (a 9)) (C := RX1) (T := TX1) (N := 10) hx hb hts (fun _ h => gI_wsX10 h) hown hK.1 hP 8 rfl rfl 1 (by decide) (hts _ mG_3_18) (fun _ h9 => h9) rfl dX1_same_25 ?_
    refine lv_iload_n hx hb dX1_same_28 rfl (lv_at hl 2 rfl) ?_
    refine va_lald hx hb hK.1 hP 9 1 rfl rfl (by first | with_reducible assumption | exact in0_24 | exact in0_60 | decide) dX1_same_29 ?_
    refine lv_aload_n hx hb dX1_same_30 rfl (lv_at hl 0 rfl) ?_
    refine va_get (D := (dC, dI)) (ci := 5) (v := .ref (a 11)) (C := RX1) (T := TX1) (N := 10) hx hb hts (fun _ h => gI_wsX10 h) hown hK.1 hP 8 rfl rfl 3 (by decide) (hts _ mG_3_20) (fun _ h9 => h9) rfl dX1_same_31 ?_
    refine lv_iload_n hx hb dX1_same_34 rfl (lv_at hl 1 rfl) ?_
    refine va_lald hx hb hK.1 hP 11 1 rfl rfl (by first | with_reducible assumption | exact in0_24 | exact in0_60 | decide) dX1_same_35 ?_
    refine lv_lmul hx hb dX1_same_36 ?_
    refine W.lcmp hx hb dX1_same_37 ?_
    refine lv_if_ne (tgt := 75) hx hb dX1_same_38 (by decide) (fun c2 => ?_) (fun c2 => ?_)
    · skip
      refine lv_iconst (v := (0 : Int32)) hx hb dX1_same_75 (by decide) ?_
      exact rp_z hQ hx hb hr hlk hS (Eq.symm (by simp only [f_X1_same, if_pos c1, if_neg c2])) (by decide) dX1_same_76
    · skip
      refine lv_aload_n hx hb dX1_same_41 rfl (lv_at hl 0 rfl) ?_
      refine va_get (D := (dC, dI)) (ci := 5) (v := .ref (a 10)) (C := RX1) (T := TX1) (N := 10) hx hb hts (fun _ h => gI_wsX10 h) hown hK.1 hP 8 rfl rfl 2 (by decide) (hts _ mG_3_19) (fun _ h9 => h9) rfl dX1_same_42 ?_
      refine lv_iload_n hx hb dX1_same_45 rfl (lv_at hl 1 rfl) ?_
      refine va_lald hx hb hK.1 hP 10 1 rfl rfl (by first | with_reducible assumption | exact in0_24 | exact in0_60 | decide) dX1_same_46 ?_
      refine lv_aload_n hx hb dX1_same_47 rfl (lv_at hl 0 rfl) ?_
      refine va_get (D := (dC, dI)) (ci := 5) (v := .ref (a 11)) (C := RX1) (T := TX1) (N := 10) hx hb hts (fun _ h => gI_wsX10 h) hown hK.1 hP 8 rfl rfl 3 (by decide) (hts _ mG_3_20) (fun _ h9 => h9) rfl dX1_same_48 ?_
      refine lv_iload_n hx hb dX1_same_51 rfl (lv_at hl 2 rfl) ?_
      refine va_lald hx hb hK.1 hP 11 1 rfl rfl (by first | with_reducible assumption | exact in0_24 | exact in0_60 | decide) dX1_same_52 ?_
      refine lv_lmul hx hb dX1_same_53 ?_
      refine lv_aload_n hx hb dX1_same_54 rfl (lv_at hl 0 rfl) ?_
      refine va_get (D := (dC, dI)) (ci := 5) (v := .ref (a 10)) (C := RX1) (T := TX1) (N := 10) hx hb hts (fun _ h => gI_wsX10 h) hown hK.1 hP 8 rfl rfl 2 (by decide) (hts _ mG_3_19) (fun _ h9 => h9) rfl dX1_same_55 ?_
      refine lv_iload_n hx hb dX1_same_58 rfl (lv_at hl 2 rfl) ?_
      refine va_lald hx hb hK.1 hP 10 1 rfl rfl (by first | with_reducible assumption | exact in0_24 | exact in0_60 | decide) dX1_same_59 ?_
      refine lv_aload_n hx hb dX1_same_60 rfl (lv_at hl 0 rfl) ?_
      refine va_get (D := (dC, dI)) (ci := 5) (v := .ref (a 11)) (C := RX1) (T := TX1) (N := 10) hx hb hts (fun _ h => gI_wsX10 h) hown hK.1 hP 8 rfl rfl 3 (by decide) (hts _ mG_3_20) (fun _ h9 => h9) rfl dX1_same_61 ?_
      refine lv_iload_n hx hb dX1_same_64 rfl (lv_at hl 1 rfl) ?_
      refine va_lald hx hb hK.1 hP 11 1 rfl rfl (by first | with_reducible assumption | exact in0_24 | exact in0_60 | decide) dX1_same_65 ?_
      refine lv_lmul hx hb dX1_same_66 ?_
      refine W.lcmp hx hb dX1_same_67 ?_
      refine lv_if_ne (tgt := 75) hx hb dX1_same_68 (by decide) (fun c3 => ?_) (fun c3 => ?_)
      · skip
        refine lv_iconst (v := (0 : Int32)) hx hb dX1_same_75 (by decide) ?_
        exact rp_z hQ hx hb hr hlk hS (Eq.symm (by simp only [f_X1_same, if_pos c1, if_pos c2, if_neg c3])) (by decide) dX1_same_76
      · skip
        refine lv_iconst (v := (1 : Int32)) hx hb dX1_same_71 (by decide) ?_
        refine lv_goto (tgt := 76) hx hb dX1_same_72 (by decide) ?_
        exact rp_z hQ hx hb hr hlk hS (Eq.symm (by simp only [f_X1_same, if_pos c1, if_pos c2, if_pos c3])) (by decide) dX1_same_76
/-! X1_concurrent -/
theorem hs_X1_concurrent : yX1_concurrent.cls ≠ "java/lang/invoke/MethodHandle" ∧ yX1_concurrent.cls ≠ "java/lang/invoke/VarHandle" ∧ (parseMethodDescriptor yX1_concurrent.desc).map (fun d => d.parameters.length) = some 3 := by decide +kernel
theorem hd_X1_concurrent : yX1_concurrent.cls = RX1 ∧ yX1_concurrent.cls ≠ "java/lang/invoke/MethodHandle" ∧ yX1_concurrent.cls ≠ "java/lang/invoke/VarHandle" ∧ (parseMethodDescriptor yX1_concurrent.desc).map (fun d => d.parameters.length) = some 3 := ⟨rfl, hs_X1_concurrent⟩
def f_X1_concurrent (lp : Nat → Int64) (lq : Nat → Int64) (lr : Nat → Int64) (p1 : Int32) (p2 : Int32) (p3 : Int32) : Int32 := (if (lg_cmp (((lp (Int32.toNatClampNeg p3)) * (((lr (Int32.toNatClampNeg p1)) * (lq (Int32.toNatClampNeg p2))) - ((lr (Int32.toNatClampNeg p2)) * (lq (Int32.toNatClampNeg p1))))) + ((lq (Int32.toNatClampNeg p3)) * (((lp (Int32.toNatClampNeg p1)) * (lr (Int32.toNatClampNeg p2))) - ((lp (Int32.toNatClampNeg p2)) * (lr (Int32.toNatClampNeg p1)))))) ((lr (Int32.toNatClampNeg p3)) * (f_X1_slant lp lq p1 p2))) = 0 then (1 : Int32) else (0 : Int32))
abbrev rm_X1_concurrent : Room := { frames := 1, cells := 0, slots := 0, locals := 22 }
set_option maxHeartbeats 8000000 in
set_option maxRecDepth 100000 in
theorem c_X1_concurrent (l : Launch) (dC : Nat → ClassId) (dI : Nat → Nat → Nat) (a : Nat → Nat) (cI cJ : ClassId) (xs : Nat → Int32) (ys : Nat → Int32) (pl : Nat → Int32) (kp : Nat → Int32) (lp : Nat → Int64) (lq : Nat → Int64) (lr : Nat → Int64) (v0 : Int32) (v1 : Int32) (v2 : Int32) (v3 : Int32) (v4 : Int32) (v5 : Int32) (v6 : Int32) (v7 : Int32) (v8 : Int32) (v9 : Int32) (v10 : Int32) (p1 : Int32) (p2 : Int32) (p3 : Int32) (hi1 : vp_in p1 12) (hi2 : vp_in p2 12) (hi3 : vp_in p3 12) : Met l yX1_concurrent (Cond.code yX1_concurrent cX1_concurrent 8 (some .boolean) :: lw_G) rm_X1_concurrent (pPc (dC, dI) (tIJ cI cJ) (wC a cI cJ xs ys pl kp lp lq lr v0 v1 v2 v3 v4 v5 v6 v7 v8 v9 v10) [.ref (a 8), .int p1, .int p2, .int p3]) (pQi (f_X1_concurrent lp lq lr p1 p2 p3)) 0 0 pNo := by
  refine pm_of (by decide) (Nat.le_of_ble_eq_true rfl) ?_
  intro p e s m args below meth c Q ls hQ hx hb hr hlk hml hown hts hP hK hS hl
  have hown : s.vm.findClass RX1 = some m.cls := hown
  have hl : lv_has ls 8 [(0, .ref (a 8)), (1, .int p1), (2, .int p2), (3, .int p3)] := hl
  refine lv_aload_n hx hb dX1_concurrent_0 rfl (lv_at hl 0 rfl) ?_
  refine va_get (D := (dC, dI)) (ci := 5) (v := .ref (a 11)) (C := RX1) (T := TX1) (N := 10) hx hb hts (fun _ h => gI_wsX10 h) hown hK.1 hP 8 rfl rfl 3 (by decide) (hts _ mG_3_20) (fun _ h9 => h9) rfl dX1_concurrent_1 ?_
  refine lv_iload_n hx hb dX1_concurrent_4 rfl (lv_at hl 1 rfl) ?_
  refine va_lald hx hb hK.1 hP 11 1 rfl rfl (by first | with_reducible assumption | exact in0_24 | exact in0_60 | decide) dX1_concurrent_5 ?_
  refine lv_aload_n hx hb dX1_concurrent_6 rfl (lv_at hl 0 rfl) ?_
  refine va_get (D := (dC, dI)) (ci := 5) (v := .ref (a 10)) (C := RX1) (T := TX1) (N := 10) hx hb hts (fun _ h => gI_wsX10 h) hown hK.1 hP 8 rfl rfl 2 (by decide) (hts _ mG_3_19) (fun _ h9 => h9) rfl dX1_concurrent_7 ?_
  refine lv_iload_n hx hb dX1_concurrent_10 rfl (lv_at hl 2 rfl) ?_
  refine va_lald hx hb hK.1 hP 10 1 rfl rfl (by first | with_reducible assumption | exact in0_24 | exact in0_60 | decide) dX1_concurrent_11 ?_
  refine lv_lmul hx hb dX1_concurrent_12 ?_
  refine lv_aload_n hx hb dX1_concurrent_13 rfl (lv_at hl 0 rfl) ?_
  refine va_get (D := (dC, dI)) (ci := 5) (v := .ref (a 11)) (C := RX1) (T := TX1) (N := 10) hx hb hts (fun _ h => gI_wsX10 h) hown hK.1 hP 8 rfl rfl 3 (by decide) (hts _ mG_3_20) (fun _ h9 => h9) rfl dX1_concurrent_14 ?_
  refine lv_iload_n hx hb dX1_concurrent_17 rfl (lv_at hl 2 rfl) ?_
  refine va_lald hx hb hK.1 hP 11 1 rfl rfl (by first | with_reducible assumption | exact in0_24 | exact in0_60 | decide) dX1_concurrent_18 ?_
  refine lv_aload_n hx hb dX1_concurrent_19 rfl (lv_at hl 0 rfl) ?_
  refine va_get (D := (dC, dI)) (ci := 5) (v := .ref (a 10)) (C := RX1) (T := TX1) (N := 10) hx hb hts (fun _ h => gI_wsX10 h) hown hK.1 hP 8 rfl rfl 2 (by decide) (hts _ mG_3_19) (fun _ h9 => h9) rfl dX1_concurrent_20 ?_
  refine lv_iload_n hx hb dX1_concurrent_23 rfl (lv_at hl 1 rfl) ?_
  refine va_lald hx hb hK.1 hP 10 1 rfl rfl (by first | with_reducible assumption | exact in0_24 | exact in0_60 | decide) dX1_concurrent_24 ?_
  refine lv_lmul hx hb dX1_concurrent_25 ?_
  refine lv_lsub hx hb dX1_concurrent_26 ?_
  refine lv_topl (fun y1 ey1 => ?_)
  refine lv_lstore (lv' := [(4, .long y1), (0, .ref (a 8)), (1, .int p1), (2, .int p2), (3, .int p3)]) hx hb dX1_concurrent_27 hl (by decide) rfl (fun ls hl => ?_)
  refine lv_aload_n hx hb dX1_concurrent_29 rfl (lv_at hl 1 rfl) ?_
  refine va_get (D := (dC, dI)) (ci := 5) (v := .ref (a 9)) (C := RX1) (T := TX1) (N := 10) hx hb hts (fun _ h => gI_wsX10 h) hown hK.1 hP 8 rfl rfl 1 (by decide) (hts _ mG_3_18) (fun _ h9 => h9) rfl dX1_concurrent_30 ?_
  refine lv_iload_n hx hb dX1_concurrent_33 rfl (lv_at hl 2 rfl) ?_
  refine va_lald hx hb hK.1 hP 9 1 rfl rfl (by first | with_reducible assumption | exact in0_24 | exact in0_60 | decide) dX1_concurrent_34 ?_
  refine lv_aload_n hx hb dX1_concurrent_35 rfl (lv_at hl 1 rfl) ?_
  refine va_get (D := (dC, dI)) (ci := 5) (v := .ref (a 11)) (C := RX1) (T := TX1) (N := 10) hx hb hts (fun _ h => gI_wsX10 h) hown hK.1 hP 8 rfl rfl 3 (by decide) (hts _ mG_3_20) (fun _ h9 => h9) rfl dX1_concurrent_36 ?_
  refine lv_iload_n hx hb dX1_concurrent_39 rfl (lv_at hl 3 rfl) ?_
  refine va_lald hx hb hK.1 hP 11 1 rfl rfl (by first | with_reducible assumption | exact in0_24 | exact in0_60 | decide) dX1_concurrent_40 ?_
  refine lv_lmul hx hb dX1_concurrent_41 ?_
  refine lv_aload_n hx hb dX1_concurrent_42 rfl (lv_at hl 1 rfl) ?_
  refine va_get (D := (dC, dI)) (ci := 5) (v := .ref (a 9)) (C := RX1) (T := TX1) (N := 10) hx hb hts (fun _ h => gI_wsX10 h) hown hK.1 hP 8 rfl rfl 1 (by decide) (hts _ mG_3_18) (fun _ h9 => h9) rfl dX1_concurrent_43 ?_
  refine lv_iload_n hx hb dX1_concurrent_46 rfl (lv_at hl 3 rfl) ?_
  refine va_lald hx hb hK.1 hP 9 1 rfl rfl (by first | with_reducible assumption | exact in0_24 | exact in0_60 | decide) dX1_concurrent_47 ?_
  refine lv_aload_n hx hb dX1_concurrent_48 rfl (lv_at hl 1 rfl) ?_
  refine va_get (D := (dC, dI)) (ci := 5) (v := .ref (a 11)) (C := RX1) (T := TX1) (N := 10) hx hb hts (fun _ h => gI_wsX10 h) hown hK.1 hP 8 rfl rfl 3 (by decide) (hts _ mG_3_20) (fun _ h9 => h9) rfl dX1_concurrent_49 ?_
  refine lv_iload_n hx hb dX1_concurrent_52 rfl (lv_at hl 2 rfl) ?_
  refine va_lald hx hb hK.1 hP 11 1 rfl rfl (by first | with_reducible assumption | exact in0_24 | exact in0_60 | decide) dX1_concurrent_53 ?_
  refine lv_lmul hx hb dX1_concurrent_54 ?_
  refine lv_lsub hx hb dX1_concurrent_55 ?_
  refine lv_topl (fun y2 ey2 => ?_)
  refine lv_lstore (lv' := [(6, .long y2), (4, .long y1), (0, .ref (a 8)), (1, .int p1), (2, .int p2), (3, .int p3)]) hx hb dX1_concurrent_56 hl (by decide) rfl (fun ls hl => ?_)
  refine lv_aload_n hx hb dX1_concurrent_58 rfl (lv_at hl 2 rfl) ?_
  refine va_get (D := (dC, dI)) (ci := 5) (v := .ref (a 9)) (C := RX1) (T := TX1) (N := 10) hx hb hts (fun _ h => gI_wsX10 h) hown hK.1 hP 8 rfl rfl 1 (by decide) (hts _ mG_3_18) (fun _ h9 => h9) rfl dX1_concurrent_59 ?_
  refine lv_iload_n hx hb dX1_concurrent_62 rfl (lv_at hl 5 rfl) ?_
  refine va_lald hx hb hK.1 hP 9 1 rfl rfl (by first | with_reducible assumption | exact in0_24 | exact in0_60 | decide) dX1_concurrent_63 ?_
  refine lv_lload hx hb dX1_concurrent_64 (lv_at hl 1 rfl) ?_
  refine lv_lmul hx hb dX1_concurrent_66 ?_
  refine lv_aload_n hx hb dX1_concurrent_67 rfl (lv_at hl 2 rfl) ?_
  refine va_get (D := (dC, dI)) (ci := 5) (v := .ref (a 10)) (C := RX1) (T := TX1) (N := 10) hx hb hts (fun _ h => gI_wsX10 h) hown hK.1 hP 8 rfl rfl 2 (by decide) (hts _ mG_3_19) (fun _ h9 => h9) rfl dX1_concurrent_68 ?_
  refine lv_iload_n hx hb dX1_concurrent_71 rfl (lv_at hl 5 rfl) ?_
  refine va_lald hx hb hK.1 hP 10 1 rfl rfl (by first | with_reducible assumption | exact in0_24 | exact in0_60 | decide) dX1_concurrent_72 ?_
  refine lv_lload hx hb dX1_concurrent_73 (lv_at hl 0 rfl) ?_
  refine lv_lmul hx hb dX1_concurrent_75 ?_
  refine lv_ladd hx hb dX1_concurrent_76 ?_
  refine lv_aload_n hx hb dX1_concurrent_77 rfl (lv_at hl 2 rfl) ?_
  refine va_get (D := (dC, dI)) (ci := 5) (v := .ref (a 11)) (C := RX1) (T := TX1) (N := 10) hx hb hts (fun _ h => gI_wsX10 h) hown hK.1 hP 8 rfl rfl 3 (by decide) (hts _ mG_3_20) (fun _ h9 => h9) rfl dX1_concurrent_78 ?_
  refine lv_iload_n hx hb dX1_concurrent_81 rfl (lv_at hl 5 rfl) ?_
  refine va_lald hx hb hK.1 hP 11 1 rfl rfl (by first | with_reducible assumption | exact in0_24 | exact in0_60 | decide) dX1_concurrent_82 ?_
  refine lv_aload_n hx hb dX1_concurrent_83 rfl (lv_at hl 2 rfl) ?_
  refine lv_iload_n hx hb dX1_concurrent_84 rfl (lv_at hl 3 rfl) ?_
  refine lv_iload_n hx hb dX1_concurrent_85 rfl (lv_at hl 4 rfl) ?_
  refine cp_l (va_runV (As := [.int p1, .int p2]) (rest := [.long (lr (Int32.toNatClampNeg p3)), .long (((lp (Int32.toNatClampNeg p3)) * y1) + ((lq (Int32.toNatClampNeg p3)) * y2))]) ⟨hx, hb, hml, hown, hts⟩ (c_X1_slant l dC dI a cI cJ xs ys pl kp lp lq lr v0 v1 v2 v3 v4 v5 v6 v7 v8 v9 v10 p1 p2 (by first | with_reducible assumption | exact in0_24 | exact in0_60 | decide) (by first | with_reducible assumption | exact in0_24 | exact in0_60 | decide)) (cwV 2 hts (gG_V mG_29_0 mG_29_1 mG_29_2 mG_2_8 (gG_c mG_29_3 gG_G)) rfl rfl rfl hd_X1_slant ⟨Nat.le_of_ble_eq_true rfl, Nat.le_of_ble_eq_true rfl⟩) (pPcV (ci := 5) (q0 := 8) hK hP rfl rfl) rfl rfl hl.1 rfl (lv_room (Nat.le_of_ble_eq_true rfl)) dX1_concurrent_86 ⟨Nat.le_of_ble_eq_true rfl, Nat.le_of_ble_eq_true rfl⟩) hP hS (fun H hP hS => ?_)
  refine lv_lmul hx hb dX1_concurrent_89 ?_
  refine W.lcmp hx hb dX1_concurrent_90 ?_
  refine lv_if_ne (tgt := 98) hx hb dX1_concurrent_91 (by decide) (fun c3 => ?_) (fun c3 => ?_)
  · skip
    refine lv_iconst (v := (0 : Int32)) hx hb dX1_concurrent_98 (by decide) ?_
    exact rp_z hQ hx hb hr hlk hS (Eq.symm (by subst ey1; subst ey2; simp only [f_X1_concurrent, if_neg c3])) (by decide) dX1_concurrent_99
  · skip
    refine lv_iconst (v := (1 : Int32)) hx hb dX1_concurrent_94 (by decide) ?_
    refine lv_goto (tgt := 99) hx hb dX1_concurrent_95 (by decide) ?_
    exact rp_z hQ hx hb hr hlk hS (Eq.symm (by subst ey1; subst ey2; simp only [f_X1_concurrent, if_pos c3])) (by decide) dX1_concurrent_99
/-! X1_cells -/
theorem hs_X1_cells : yX1_cells.cls ≠ "java/lang/invoke/MethodHandle" ∧ yX1_cells.cls ≠ "java/lang/invoke/VarHandle" ∧ (parseMethodDescriptor yX1_cells.desc).map (fun d => d.parameters.length) = some 0 := by decide +kernel
theorem hd_X1_cells : yX1_cells.cls = RX1 ∧ yX1_cells.cls ≠ "java/lang/invoke/MethodHandle" ∧ yX1_cells.cls ≠ "java/lang/invoke/VarHandle" ∧ (parseMethodDescriptor yX1_cells.desc).map (fun d => d.parameters.length) = some 0 := ⟨rfl, hs_X1_cells⟩
def f_X1_cells (v7 : Int32) (v8 : Int32) (v10 : Int32)  : Int32 := ((((1 : Int32) + v7) + v10) - v8)
abbrev rm_X1_cells : Room := { frames := 0, cells := 0, slots := 0, locals := 0 }
set_option maxHeartbeats 8000000 in
set_option maxRecDepth 100000 in
theorem c_X1_cells (l : Launch) (dC : Nat → ClassId) (dI : Nat → Nat → Nat) (a : Nat → Nat) (cI cJ : ClassId) (xs : Nat → Int32) (ys : Nat → Int32) (pl : Nat → Int32) (kp : Nat → Int32) (lp : Nat → Int64) (lq : Nat → Int64) (lr : Nat → Int64) (v0 : Int32) (v1 : Int32) (v2 : Int32) (v3 : Int32) (v4 : Int32) (v5 : Int32) (v6 : Int32) (v7 : Int32) (v8 : Int32) (v9 : Int32) (v10 : Int32) : Met l yX1_cells (Cond.code yX1_cells cX1_cells 1 (some .int) :: lw_G) rm_X1_cells (pPc (dC, dI) (tIJ cI cJ) (wC a cI cJ xs ys pl kp lp lq lr v0 v1 v2 v3 v4 v5 v6 v7 v8 v9 v10) [.ref (a 8)]) (pQi (f_X1_cells v7 v8 v10)) 0 0 pNo := by
  refine pm_of (by decide) (Nat.le_of_ble_eq_true rfl) ?_
  intro p e s m args below meth c Q ls hQ hx hb hr hlk hml hown hts hP hK hS hl
  have hown : s.vm.findClass RX1 = some m.cls := hown
  have hl : lv_has ls 1 [(0, .ref (a 8))] := hl
  refine lv_iconst (v := (1 : Int32)) hx hb dX1_cells_0 (by decide) ?_
  refine lv_aload_n hx hb dX1_cells_1 rfl (lv_at hl 0 rfl) ?_
  refine va_get (D := (dC, dI)) (ci := 5) (v := .int v7) (C := RX1) (T := TX1) (N := 10) hx hb hts (fun _ h => gI_wsX10 h) hown hK.1 hP 8 rfl rfl 6 (by decide) (hts _ mG_3_23) (fun _ h9 => h9) rfl dX1_cells_2 ?_
  refine lv_iadd hx hb dX1_cells_5 ?_
  refine lv_aload_n hx hb dX1_cells_6 rfl (lv_at hl 0 rfl) ?_
  refine va_get (D := (dC, dI)) (ci := 5) (v := .int v10) (C := RX1) (T := TX1) (N := 10) hx hb hts (fun _ h => gI_wsX10 h) hown hK.1 hP 8 rfl rfl 9 (by decide) (hts _ mG_4_2) (fun _ h9 => h9) rfl dX1_cells_7 ?_
  refine lv_iadd hx hb dX1_cells_10 ?_
  refine lv_aload_n hx hb dX1_cells_11 rfl (lv_at hl 0 rfl) ?_
  refine va_get (D := (dC, dI)) (ci := 5) (v := .int v8) (C := RX1) (T := TX1) (N := 10) hx hb hts (fun _ h => gI_wsX10 h) hown hK.1 hP 8 rfl rfl 7 (by decide) (hts _ mG_4_0) (fun _ h9 => h9) rfl dX1_cells_12 ?_
  refine lv_isub hx hb dX1_cells_15 ?_
  exact rp_i hQ hx hb hr hlk hS (Eq.symm (by simp only [f_X1_cells])) dX1_cells_16
/-! X1_pieces -/
theorem hs_X1_pieces : yX1_pieces.cls ≠ "java/lang/invoke/MethodHandle" ∧ yX1_pieces.cls ≠ "java/lang/invoke/VarHandle" ∧ (parseMethodDescriptor yX1_pieces.desc).map (fun d => d.parameters.length) = some 0 := by decide +kernel
theorem hd_X1_pieces : yX1_pieces.cls = RX1 ∧ yX1_pieces.cls ≠ "java/lang/invoke/MethodHandle" ∧ yX1_pieces.cls ≠ "java/lang/invoke/VarHandle" ∧ (parseMethodDescriptor yX1_pieces.desc).map (fun d => d.parameters.length) = some 0 := ⟨rfl, hs_X1_pieces⟩
def f_X1_pieces (v7 : Int32) (v10 : Int32)  : Int32 := (v7 + v10)
abbrev rm_X1_pieces : Room := { frames := 0, cells := 0, slots := 0, locals := 0 }
set_option maxHeartbeats 8000000 in
set_option maxRecDepth 100000 in
theorem c_X1_pieces (l : Launch) (dC : Nat → ClassId) (dI : Nat → Nat → Nat) (a : Nat → Nat) (cI cJ : ClassId) (xs : Nat → Int32) (ys : Nat → Int32) (pl : Nat → Int32) (kp : Nat → Int32) (lp : Nat → Int64) (lq : Nat → Int64) (lr : Nat → Int64) (v0 : Int32) (v1 : Int32) (v2 : Int32) (v3 : Int32) (v4 : Int32) (v5 : Int32) (v6 : Int32) (v7 : Int32) (v8 : Int32) (v9 : Int32) (v10 : Int32) : Met l yX1_pieces (Cond.code yX1_pieces cX1_pieces 1 (some .int) :: lw_G) rm_X1_pieces (pPc (dC, dI) (tIJ cI cJ) (wC a cI cJ xs ys pl kp lp lq lr v0 v1 v2 v3 v4 v5 v6 v7 v8 v9 v10) [.ref (a 8)]) (pQi (f_X1_pieces v7 v10)) 0 0 pNo := by
  refine pm_of (by decide) (Nat.le_of_ble_eq_true rfl) ?_
  intro p e s m args below meth c Q ls hQ hx hb hr hlk hml hown hts hP hK hS hl
  have hown : s.vm.findClass RX1 = some m.cls := hown
  have hl : lv_has ls 1 [(0, .ref (a 8))] := hl
  refine lv_aload_n hx hb dX1_pieces_0 rfl (lv_at hl 0 rfl) ?_
  refine va_get (D := (dC, dI)) (ci := 5) (v := .int v7) (C := RX1) (T := TX1) (N := 10) hx hb hts (fun _ h => gI_wsX10 h) hown hK.1 hP 8 rfl rfl 6 (by decide) (hts _ mG_3_23) (fun _ h9 => h9) rfl dX1_pieces_1 ?_
  refine lv_aload_n hx hb dX1_pieces_4 rfl (lv_at hl 0 rfl) ?_
  refine va_get (D := (dC, dI)) (ci := 5) (v := .int v10) (C := RX1) (T := TX1) (N := 10) hx hb hts (fun _ h => gI_wsX10 h) hown hK.1 hP 8 rfl rfl 9 (by decide) (hts _ mG_4_2) (fun _ h9 => h9) rfl dX1_pieces_5 ?_
  refine lv_iadd hx hb dX1_pieces_8 ?_
  exact rp_i hQ hx hb hr hlk hS (Eq.symm (by simp only [f_X1_pieces])) dX1_pieces_9
/-! X1_closedCells -/
theorem hs_X1_closedCells : yX1_closedCells.cls ≠ "java/lang/invoke/MethodHandle" ∧ yX1_closedCells.cls ≠ "java/lang/invoke/VarHandle" ∧ (parseMethodDescriptor yX1_closedCells.desc).map (fun d => d.parameters.length) = some 0 := by decide +kernel
theorem hd_X1_closedCells : yX1_closedCells.cls = RX1 ∧ yX1_closedCells.cls ≠ "java/lang/invoke/MethodHandle" ∧ yX1_closedCells.cls ≠ "java/lang/invoke/VarHandle" ∧ (parseMethodDescriptor yX1_closedCells.desc).map (fun d => d.parameters.length) = some 0 := ⟨rfl, hs_X1_closedCells⟩
def f_X1_closedCells (v7 : Int32) (v8 : Int32) (v10 : Int32)  : Int32 := (if v8 = 0 then (0 : Int32) else ((f_X1_cells v7 v8 v10) - ((2 : Int32) * v7)))
abbrev rm_X1_closedCells : Room := { frames := 1, cells := 0, slots := 0, locals := 20 }
set_option maxHeartbeats 8000000 in
set_option maxRecDepth 100000 in
theorem c_X1_closedCells (l : Launch) (dC : Nat → ClassId) (dI : Nat → Nat → Nat) (a : Nat → Nat) (cI cJ : ClassId) (xs : Nat → Int32) (ys : Nat → Int32) (pl : Nat → Int32) (kp : Nat → Int32) (lp : Nat → Int64) (lq : Nat → Int64) (lr : Nat → Int64) (v0 : Int32) (v1 : Int32) (v2 : Int32) (v3 : Int32) (v4 : Int32) (v5 : Int32) (v6 : Int32) (v7 : Int32) (v8 : Int32) (v9 : Int32) (v10 : Int32) : Met l yX1_closedCells (Cond.code yX1_closedCells cX1_closedCells 1 (some .int) :: lw_G) rm_X1_closedCells (pPc (dC, dI) (tIJ cI cJ) (wC a cI cJ xs ys pl kp lp lq lr v0 v1 v2 v3 v4 v5 v6 v7 v8 v9 v10) [.ref (a 8)]) (pQi (f_X1_closedCells v7 v8 v10)) 0 0 pNo := by
  refine pm_of (by decide) (Nat.le_of_ble_eq_true rfl) ?_
  intro p e s m args below meth c Q ls hQ hx hb hr hlk hml hown hts hP hK hS hl
  have hown : s.vm.findClass RX1 = some m.cls := hown
  have hl : lv_has ls 1 [(0, .ref (a 8))] := hl
  refine lv_aload_n hx hb dX1_closedCells_0 rfl (lv_at hl 0 rfl) ?_
  refine va_get (D := (dC, dI)) (ci := 5) (v := .int v8) (C := RX1) (T := TX1) (N := 10) hx hb hts (fun _ h => gI_wsX10 h) hown hK.1 hP 8 rfl rfl 7 (by decide) (hts _ mG_4_0) (fun _ h9 => h9) rfl dX1_closedCells_1 ?_
  refine lv_if_ne (tgt := 11) hx hb dX1_closedCells_4 (by decide) (fun c1 => ?_) (fun c1 => ?_)
  · skip
    refine lv_aload_n hx hb dX1_closedCells_11 rfl (lv_at hl 0 rfl) ?_
    refine cp_i (va_runV (As := []) (rest := []) ⟨hx, hb, hml, hown, hts⟩ (c_X1_cells l dC dI a cI cJ xs ys pl kp lp lq lr v0 v1 v2 v3 v4 v5 v6 v7 v8 v9 v10  ) (cwV 0 hts (gG_V mG_30_0 mG_29_13 mG_29_14 mG_2_8 (gG_c mG_29_15 gG_G)) rfl rfl rfl hd_X1_cells ⟨Nat.le_of_ble_eq_true rfl, Nat.le_of_ble_eq_true rfl⟩) (pPcV (ci := 5) (q0 := 8) hK hP rfl rfl) rfl rfl hl.1 rfl (lv_room (Nat.le_of_ble_eq_true rfl)) dX1_closedCells_12 ⟨Nat.le_of_ble_eq_true rfl, Nat.le_of_ble_eq_true rfl⟩) hP hS (fun H hP hS => ?_)
    refine lv_iconst (v := (2 : Int32)) hx hb dX1_closedCells_15 (by decide) ?_
    refine lv_aload_n hx hb dX1_closedCells_16 rfl (lv_at hl 0 rfl) ?_
    refine va_get (D := (dC, dI)) (ci := 5) (v := .int v7) (C := RX1) (T := TX1) (N := 10) hx hb hts (fun _ h => gI_wsX10 h) hown hK.1 hP 8 rfl rfl 6 (by decide) (hts _ mG_3_23) (fun _ h9 => h9) rfl dX1_closedCells_17 ?_
    refine lv_imul hx hb dX1_closedCells_20 ?_
    refine lv_isub hx hb dX1_closedCells_21 ?_
    exact rp_i hQ hx hb hr hlk hS (Eq.symm (by simp only [f_X1_closedCells, if_neg c1])) dX1_closedCells_22
  · skip
    refine lv_iconst (v := (0 : Int32)) hx hb dX1_closedCells_7 (by decide) ?_
    refine lv_goto (tgt := 22) hx hb dX1_closedCells_8 (by decide) ?_
    exact rp_i hQ hx hb hr hlk hS (Eq.symm (by simp only [f_X1_closedCells, if_pos c1])) dX1_closedCells_22
/-! X1_isNew -/
theorem hs_X1_isNew : yX1_isNew.cls ≠ "java/lang/invoke/MethodHandle" ∧ yX1_isNew.cls ≠ "java/lang/invoke/VarHandle" ∧ (parseMethodDescriptor yX1_isNew.desc).map (fun d => d.parameters.length) = some 1 := by decide +kernel
theorem hd_X1_isNew : yX1_isNew.cls = RX1 ∧ yX1_isNew.cls ≠ "java/lang/invoke/MethodHandle" ∧ yX1_isNew.cls ≠ "java/lang/invoke/VarHandle" ∧ (parseMethodDescriptor yX1_isNew.desc).map (fun d => d.parameters.length) = some 1 := ⟨rfl, hs_X1_isNew⟩
def f_X1_isNew_L2 (kp : Nat → Int32) (lp : Nat → Int64) (lq : Nat → Int64) (lr : Nat → Int64) (v7 : Int32) (p1 : Int32)  : Nat → Int32 → Int32
  | 0, _ => 0
  | n + 1, x2_2 => (if v7 ≤ x2_2 then (1 : Int32) else (if (f_X1_same lp lq lr (kp (Int32.toNatClampNeg x2_2)) p1) = 0 then (f_X1_isNew_L2 kp lp lq lr v7 p1  n (x2_2 + 1)) else (0 : Int32)))
def f_X1_isNew (kp : Nat → Int32) (lp : Nat → Int64) (lq : Nat → Int64) (lr : Nat → Int64) (v7 : Int32) (p1 : Int32) : Int32 := (f_X1_isNew_L2 kp lp lq lr v7 p1  25 (0 : Int32))
abbrev rm_X1_isNew : Room := { frames := 2, cells := 0, slots := 0, locals := 44 }
set_option maxHeartbeats 8000000 in
set_option maxRecDepth 100000 in
theorem c_X1_isNew (l : Launch) (dC : Nat → ClassId) (dI : Nat → Nat → Nat) (a : Nat → Nat) (cI cJ : ClassId) (xs : Nat → Int32) (ys : Nat → Int32) (pl : Nat → Int32) (kp : Nat → Int32) (lp : Nat → Int64) (lq : Nat → Int64) (lr : Nat → Int64) (v0 : Int32) (v1 : Int32) (v2 : Int32) (v3 : Int32) (v4 : Int32) (v5 : Int32) (v6 : Int32) (v7 : Int32) (v8 : Int32) (v9 : Int32) (v10 : Int32) (p1 : Int32) (hd : v7 ≤ 12) (hk : ∀ j : Nat, (j : Int) < v7.toInt → vp_in (kp j) 12) (hp : vp_in p1 12) : Met l yX1_isNew (Cond.code yX1_isNew cX1_isNew 3 (some .boolean) :: lw_G) rm_X1_isNew (pPc (dC, dI) (tIJ cI cJ) (wC a cI cJ xs ys pl kp lp lq lr v0 v1 v2 v3 v4 v5 v6 v7 v8 v9 v10) [.ref (a 8), .int p1]) (pQi (f_X1_isNew kp lp lq lr v7 p1)) 0 0 pNo := by
  refine pm_of (by decide) (Nat.le_of_ble_eq_true rfl) ?_
  intro p e s m args below meth c Q ls hQ hx hb hr hlk hml hown hts hP hK hS hl
  have hown : s.vm.findClass RX1 = some m.cls := hown
  have hl : lv_has ls 3 [(0, .ref (a 8)), (1, .int p1)] := hl
  obtain ⟨F, eF⟩ : ∃ F, F = (f_X1_isNew kp lp lq lr v7 p1) := ⟨_, rfl⟩
  have hn : v7 ≤ 24 := Int32.le_trans hd (by decide)
  refine lv_iconst (v := (0 : Int32)) hx hb dX1_isNew_0 (by decide) ?_
  refine lv_istore_n (lv' := [(2, .int (0 : Int32)), (0, .ref (a 8)), (1, .int p1)]) hx hb dX1_isNew_1 rfl hl (by decide) rfl (fun ls hl => ?_)
  have K2 : ∀ (n2 : Nat) (x2_2 : Int32), 0 ≤ x2_2 → ((v7).toInt - x2_2.toInt).toNat < n2 → F = f_X1_isNew_L2 kp lp lq lr v7 p1  n2 x2_2 → ∀ (H : Heap) (locs : List Loc), va_P (dC, dI) vwCl (wC a cI cJ xs ys pl kp lp lq lr v0 v1 v2 v3 v4 v5 v6 v7 v8 v9 v10) H → va_S pNo s.heap H locs → ∀ (ls : Array Slot), lv_has ls 3 [(0, .ref (a 8)), (1, .int p1), (2, .int x2_2)] → W p l e rm_X1_isNew s m args below meth c H locs 0 0 Q (F0 m 2 ls []) := by
    intro n2
    induction n2 with
    | zero => intro x2_2 h0_2 hf_2 hF H locs hP hS ls hl; exact absurd hf_2 (Nat.not_lt_zero _)
    | succ n2 ih2 =>
      intro x2_2 h0_2 hf_2 hF H locs hP hS ls hl
      refine lv_iload_n hx hb dX1_isNew_2 rfl (lv_at hl 2 rfl) ?_
      refine lv_aload_n hx hb dX1_isNew_3 rfl (lv_at hl 0 rfl) ?_
      refine va_get (D := (dC, dI)) (ci := 5) (v := .int v7) (C := RX1) (T := TX1) (N := 10) hx hb hts (fun _ h => gI_wsX10 h) hown hK.1 hP 8 rfl rfl 6 (by decide) (hts _ mG_3_23) (fun _ h9 => h9) rfl dX1_isNew_4 ?_
      refine lv_icmp_ge (tgt := 32) hx hb dX1_isNew_7 (by decide) (fun c1 => ?_) (fun c1 => ?_)
      · skip
        refine lv_iconst (v := (1 : Int32)) hx hb dX1_isNew_32 (by decide) ?_
        exact rp_z hQ hx hb hr hlk hS (Eq.symm (eF.symm.trans (by rw [hF]; simp only [f_X1_isNew_L2, if_pos c1]))) (by decide) dX1_isNew_33
      · skip
        have hI : vp_in x2_2 12 := ix12 h0_2 c1 hd
        have hk1 := hk_at hk h0_2 c1
        refine lv_aload_n hx hb dX1_isNew_10 rfl (lv_at hl 0 rfl) ?_
        refine lv_aload_n hx hb dX1_isNew_11 rfl (lv_at hl 0 rfl) ?_
        refine va_get (D := (dC, dI)) (ci := 5) (v := .ref (a 12)) (C := RX1) (T := TX1) (N := 10) hx hb hts (fun _ h => gI_wsX10 h) hown hK.1 hP 8 rfl rfl 5 (by decide) (hts _ mG_3_22) (fun _ h9 => h9) rfl dX1_isNew_12 ?_
        refine lv_iload_n hx hb dX1_isNew_15 rfl (lv_at hl 2 rfl) ?_
        refine va_iald hx hb hK.1 hP 12 0 rfl rfl (by first | with_reducible assumption | exact in0_24 | exact in0_60 | decide) dX1_isNew_16 ?_
        refine lv_iload_n hx hb dX1_isNew_17 rfl (lv_at hl 1 rfl) ?_
        refine cp_i (va_runV (As := [.int (kp (Int32.toNatClampNeg x2_2)), .int p1]) (rest := []) ⟨hx, hb, hml, hown, hts⟩ (c_X1_same l dC dI a cI cJ xs ys pl kp lp lq lr v0 v1 v2 v3 v4 v5 v6 v7 v8 v9 v10 (kp (Int32.toNatClampNeg x2_2)) p1 (by first | with_reducible assumption | exact in0_24 | exact in0_60 | decide) (by first | with_reducible assumption | exact in0_24 | exact in0_60 | decide)) (cwV 2 hts (gG_V mG_28_20 mG_28_21 mG_28_22 mG_2_8 (gG_c mG_28_23 gG_G)) rfl rfl rfl hd_X1_same ⟨Nat.le_of_ble_eq_true rfl, Nat.le_of_ble_eq_true rfl⟩) (pPcV (ci := 5) (q0 := 8) hK hP rfl rfl) rfl rfl hl.1 rfl (lv_room (Nat.le_of_ble_eq_true rfl)) dX1_isNew_18 ⟨Nat.le_of_ble_eq_true rfl, Nat.le_of_ble_eq_true rfl⟩) hP hS (fun H hP hS => ?_)
        refine lv_if_eq (tgt := 26) hx hb dX1_isNew_21 (by decide) (fun c2 => ?_) (fun c2 => ?_)
        · skip
          refine lv_iinc (v := (x2_2 + 1)) (lv' := [(2, .int (x2_2 + 1)), (0, .ref (a 8)), (1, .int p1)]) hx hb dX1_isNew_26 hl (k := 2) rfl rfl (by decide) rfl (fun ls hl => ?_)
          refine lv_goto (tgt := 2) hx hb dX1_isNew_29 (by decide) ?_
          exact ih2 (x2_2 + 1) (lp_pos h0_2 c1) (lp_dec c1 hf_2) (by rw [hF]; simp only [f_X1_isNew_L2, if_neg c1, if_pos c2]) _ _ hP hS ls (lv_sub hl [1, 2, 0] rfl)
        · skip
          refine lv_iconst (v := (0 : Int32)) hx hb dX1_isNew_24 (by decide) ?_
          exact rp_z hQ hx hb hr hlk hS (Eq.symm (eF.symm.trans (by rw [hF]; simp only [f_X1_isNew_L2, if_neg c1, if_neg c2]))) (by decide) dX1_isNew_25
  exact K2 25 (0 : Int32) (by decide) (lp_fuel (by decide) hn) (by rw [eF]; simp only [f_X1_isNew]) _ _ hP hS ls (lv_sub hl [1, 2, 0] rfl)
/-! X1_throughMeet -/
theorem hs_X1_throughMeet : yX1_throughMeet.cls ≠ "java/lang/invoke/MethodHandle" ∧ yX1_throughMeet.cls ≠ "java/lang/invoke/VarHandle" ∧ (parseMethodDescriptor yX1_throughMeet.desc).map (fun d => d.parameters.length) = some 2 := by decide +kernel
theorem hd_X1_throughMeet : yX1_throughMeet.cls = RX1 ∧ yX1_throughMeet.cls ≠ "java/lang/invoke/MethodHandle" ∧ yX1_throughMeet.cls ≠ "java/lang/invoke/VarHandle" ∧ (parseMethodDescriptor yX1_throughMeet.desc).map (fun d => d.parameters.length) = some 2 := ⟨rfl, hs_X1_throughMeet⟩
def f_X1_throughMeet_L28 (kp : Nat → Int32) (lp : Nat → Int64) (lq : Nat → Int64) (lr : Nat → Int64) (v7 : Int32) (p1 : Int32) (p2 : Int32)  : Nat → Int32 → Int32 → Int32
  | 0, _, _ => 0
  | n + 1, x3_28, x4_28 => (if v7 ≤ x4_28 then x3_28 else (if x4_28 = p1 then (f_X1_throughMeet_L28 kp lp lq lr v7 p1 p2  n x3_28 (x4_28 + 1)) else (if x4_28 = p2 then (f_X1_throughMeet_L28 kp lp lq lr v7 p1 p2  n x3_28 (x4_28 + 1)) else (if (f_X1_concurrent lp lq lr (kp (Int32.toNatClampNeg p1)) (kp (Int32.toNatClampNeg p2)) (kp (Int32.toNatClampNeg x4_28))) = 0 then (f_X1_throughMeet_L28 kp lp lq lr v7 p1 p2  n x3_28 (x4_28 + 1)) else (if p2 ≤ x4_28 then (f_X1_throughMeet_L28 kp lp lq lr v7 p1 p2  n (x3_28 + 1) (x4_28 + 1)) else (0 : Int32))))))
def f_X1_throughMeet (kp : Nat → Int32) (lp : Nat → Int64) (lq : Nat → Int64) (lr : Nat → Int64) (v7 : Int32) (p1 : Int32) (p2 : Int32) : Int32 := (if (lg_cmp (f_X1_slant lp lq (kp (Int32.toNatClampNeg p1)) (kp (Int32.toNatClampNeg p2))) (0 : Int64)) = 0 then (0 : Int32) else (f_X1_throughMeet_L28 kp lp lq lr v7 p1 p2  25 (2 : Int32) (0 : Int32)))
abbrev rm_X1_throughMeet : Room := { frames := 2, cells := 0, slots := 0, locals := 49 }
set_option maxHeartbeats 8000000 in
set_option maxRecDepth 100000 in
theorem c_X1_throughMeet (l : Launch) (dC : Nat → ClassId) (dI : Nat → Nat → Nat) (a : Nat → Nat) (cI cJ : ClassId) (xs : Nat → Int32) (ys : Nat → Int32) (pl : Nat → Int32) (kp : Nat → Int32) (lp : Nat → Int64) (lq : Nat → Int64) (lr : Nat → Int64) (v0 : Int32) (v1 : Int32) (v2 : Int32) (v3 : Int32) (v4 : Int32) (v5 : Int32) (v6 : Int32) (v7 : Int32) (v8 : Int32) (v9 : Int32) (v10 : Int32) (p1 : Int32) (p2 : Int32) (hi1 : vp_in p1 12) (hi2 : vp_in p2 12) (hk1 : vp_in (kp (Int32.toNatClampNeg p1)) 12) (hk2 : vp_in (kp (Int32.toNatClampNeg p2)) 12) (hd : v7 ≤ 12) (hk : ∀ j : Nat, (j : Int) < v7.toInt → vp_in (kp j) 12) : Met l yX1_throughMeet (Cond.code yX1_throughMeet cX1_throughMeet 5 (some .int) :: lw_G) rm_X1_throughMeet (pPc (dC, dI) (tIJ cI cJ) (wC a cI cJ xs ys pl kp lp lq lr v0 v1 v2 v3 v4 v5 v6 v7 v8 v9 v10) [.ref (a 8), .int p1, .int p2]) (pQi (f_X1_throughMeet kp lp lq lr v7 p1 p2)) 0 0 pNo := by
  refine pm_of (by decide) (Nat.le_of_ble_eq_true rfl) ?_
  intro p e s m args below meth c Q ls hQ hx hb hr hlk hml hown hts hP hK hS hl
  have hown : s.vm.findClass RX1 = some m.cls := hown
  have hl : lv_has ls 5 [(0, .ref (a 8)), (1, .int p1), (2, .int p2)] := hl
  obtain ⟨F, eF⟩ : ∃ F, F = (f_X1_throughMeet kp lp lq lr v7 p1 p2) := ⟨_, rfl⟩
  have hn : v7 ≤ 24 := Int32.le_trans hd (by decide)
  refine lv_aload_n hx hb dX1_throughMeet_0 rfl (lv_at hl 0 rfl) ?_
  refine lv_aload_n hx hb dX1_throughMeet_1 rfl (lv_at hl 0 rfl) ?_
  refine va_get (D := (dC, dI)) (ci := 5) (v := .ref (a 12)) (C := RX1) (T := TX1) (N := 10) hx hb hts (fun _ h => gI_wsX10 h) hown hK.1 hP 8 rfl rfl 5 (by decide) (hts _ mG_3_22) (fun _ h9 => h9) rfl dX1_throughMeet_2 ?_
  refine lv_iload_n hx hb dX1_throughMeet_5 rfl (lv_at hl 1 rfl) ?_
  refine va_iald hx hb hK.1 hP 12 0 rfl rfl (by first | with_reducible assumption | exact in0_24 | exact in0_60 | decide) dX1_throughMeet_6 ?_
  refine lv_aload_n hx hb dX1_throughMeet_7 rfl (lv_at hl 0 rfl) ?_
  refine va_get (D := (dC, dI)) (ci := 5) (v := .ref (a 12)) (C := RX1) (T := TX1) (N := 10) hx hb hts (fun _ h => gI_wsX10 h) hown hK.1 hP 8 rfl rfl 5 (by decide) (hts _ mG_3_22) (fun _ h9 => h9) rfl dX1_throughMeet_8 ?_
  refine lv_iload_n hx hb dX1_throughMeet_11 rfl (lv_at hl 2 rfl) ?_
  refine va_iald hx hb hK.1 hP 12 0 rfl rfl (by first | with_reducible assumption | exact in0_24 | exact in0_60 | decide) dX1_throughMeet_12 ?_
  refine cp_l (va_runV (As := [.int (kp (Int32.toNatClampNeg p1)), .int (kp (Int32.toNatClampNeg p2))]) (rest := []) ⟨hx, hb, hml, hown, hts⟩ (c_X1_slant l dC dI a cI cJ xs ys pl kp lp lq lr v0 v1 v2 v3 v4 v5 v6 v7 v8 v9 v10 (kp (Int32.toNatClampNeg p1)) (kp (Int32.toNatClampNeg p2)) (by first | with_reducible assumption | exact in0_24 | exact in0_60 | decide) (by first | with_reducible assumption | exact in0_24 | exact in0_60 | decide)) (cwV 2 hts (gG_V mG_29_0 mG_29_1 mG_29_2 mG_2_8 (gG_c mG_29_3 gG_G)) rfl rfl rfl hd_X1_slant ⟨Nat.le_of_ble_eq_true rfl, Nat.le_of_ble_eq_true rfl⟩) (pPcV (ci := 5) (q0 := 8) hK hP rfl rfl) rfl rfl hl.1 rfl (lv_room (Nat.le_of_ble_eq_true rfl)) dX1_throughMeet_13 ⟨Nat.le_of_ble_eq_true rfl, Nat.le_of_ble_eq_true rfl⟩) hP hS (fun H hP hS => ?_)
  refine lv_lconst (v := (0 : Int64)) hx hb dX1_throughMeet_16 (by decide) ?_
  refine W.lcmp hx hb dX1_throughMeet_17 ?_
  refine lv_if_ne (tgt := 23) hx hb dX1_throughMeet_18 (by decide) (fun c1 => ?_) (fun c1 => ?_)
  · skip
    refine lv_iconst (v := (2 : Int32)) hx hb dX1_throughMeet_23 (by decide) ?_
    refine lv_istore_n (lv' := [(3, .int (2 : Int32)), (0, .ref (a 8)), (1, .int p1), (2, .int p2)]) hx hb dX1_throughMeet_24 rfl hl (by decide) rfl (fun ls hl => ?_)
    refine lv_iconst (v := (0 : Int32)) hx hb dX1_throughMeet_25 (by decide) ?_
    refine lv_istore (lv' := [(4, .int (0 : Int32)), (3, .int (2 : Int32)), (0, .ref (a 8)), (1, .int p1), (2, .int p2)]) hx hb dX1_throughMeet_26 hl (by decide) rfl (fun ls hl => ?_)
    have K28 : ∀ (n28 : Nat) (x3_28 : Int32) (x4_28 : Int32), 0 ≤ x4_28 → ((v7).toInt - x4_28.toInt).toNat < n28 → F = f_X1_throughMeet_L28 kp lp lq lr v7 p1 p2  n28 x3_28 x4_28 → ∀ (H : Heap) (locs : List Loc), va_P (dC, dI) vwCl (wC a cI cJ xs ys pl kp lp lq lr v0 v1 v2 v3 v4 v5 v6 v7 v8 v9 v10) H → va_S pNo s.heap H locs → ∀ (ls : Array Slot), lv_has ls 5 [(0, .ref (a 8)), (1, .int p1), (2, .int p2), (3, .int x3_28), (4, .int x4_28)] → W p l e rm_X1_throughMeet s m args below meth c H locs 0 0 Q (F0 m 28 ls []) := by
      intro n28
      induction n28 with
      | zero => intro x3_28 x4_28 h0_28 hf_28 hF H locs hP hS ls hl; exact absurd hf_28 (Nat.not_lt_zero _)
      | succ n28 ih28 =>
        intro x3_28 x4_28 h0_28 hf_28 hF H locs hP hS ls hl
        refine lv_iload hx hb dX1_throughMeet_28 (lv_at hl 4 rfl) ?_
        refine lv_aload_n hx hb dX1_throughMeet_30 rfl (lv_at hl 0 rfl) ?_
        refine va_get (D := (dC, dI)) (ci := 5) (v := .int v7) (C := RX1) (T := TX1) (N := 10) hx hb hts (fun _ h => gI_wsX10 h) hown hK.1 hP 8 rfl rfl 6 (by decide) (hts _ mG_3_23) (fun _ h9 => h9) rfl dX1_throughMeet_31 ?_
        refine lv_icmp_ge (tgt := 92) hx hb dX1_throughMeet_34 (by decide) (fun c2 => ?_) (fun c2 => ?_)
        · skip
          refine lv_iload_n hx hb dX1_throughMeet_92 rfl (lv_at hl 3 rfl) ?_
          exact rp_i hQ hx hb hr hlk hS (Eq.symm (eF.symm.trans (by rw [hF]; simp only [f_X1_throughMeet_L28, if_pos c2]))) dX1_throughMeet_93
        · skip
          have hI : vp_in x4_28 12 := ix12 h0_28 c2 hd
          have hk3 := hk_at hk h0_28 c2
          refine lv_iload hx hb dX1_throughMeet_37 (lv_at hl 4 rfl) ?_
          refine lv_iload_n hx hb dX1_throughMeet_39 rfl (lv_at hl 1 rfl) ?_
          refine lv_icmp_eq (tgt := 86) hx hb dX1_throughMeet_40 (by decide) (fun c3 => ?_) (fun c3 => ?_)
          · skip
            refine lv_iinc (v := (x4_28 + 1)) (lv' := [(4, .int (x4_28 + 1)), (0, .ref (a 8)), (1, .int p1), (2, .int p2), (3, .int x3_28)]) hx hb dX1_throughMeet_86 hl (k := 4) rfl rfl (by decide) rfl (fun ls hl => ?_)
            refine lv_goto (tgt := 28) hx hb dX1_throughMeet_89 (by decide) ?_
            exact ih28 x3_28 (x4_28 + 1) (lp_pos h0_28 c2) (lp_dec c2 hf_28) (by rw [hF]; simp only [f_X1_throughMeet_L28, if_neg c2, if_pos c3]) _ _ hP hS ls (lv_sub hl [1, 2, 3, 4, 0] rfl)
          · skip
            refine lv_iload hx hb dX1_throughMeet_43 (lv_at hl 4 rfl) ?_
            refine lv_iload_n hx hb dX1_throughMeet_45 rfl (lv_at hl 2 rfl) ?_
            refine lv_icmp_eq (tgt := 86) hx hb dX1_throughMeet_46 (by decide) (fun c4 => ?_) (fun c4 => ?_)
            · skip
              refine lv_iinc (v := (x4_28 + 1)) (lv' := [(4, .int (x4_28 + 1)), (0, .ref (a 8)), (1, .int p1), (2, .int p2), (3, .int x3_28)]) hx hb dX1_throughMeet_86 hl (k := 4) rfl rfl (by decide) rfl (fun ls hl => ?_)
              refine lv_goto (tgt := 28) hx hb dX1_throughMeet_89 (by decide) ?_
              exact ih28 x3_28 (x4_28 + 1) (lp_pos h0_28 c2) (lp_dec c2 hf_28) (by rw [hF]; simp only [f_X1_throughMeet_L28, if_neg c2, if_neg c3, if_pos c4]) _ _ hP hS ls (lv_sub hl [1, 2, 3, 4, 0] rfl)
            · skip
              refine lv_aload_n hx hb dX1_throughMeet_49 rfl (lv_at hl 0 rfl) ?_
              refine lv_aload_n hx hb dX1_throughMeet_50 rfl (lv_at hl 0 rfl) ?_
              refine va_get (D := (dC, dI)) (ci := 5) (v := .ref (a 12)) (C := RX1) (T := TX1) (N := 10) hx hb hts (fun _ h => gI_wsX10 h) hown hK.1 hP 8 rfl rfl 5 (by decide) (hts _ mG_3_22) (fun _ h9 => h9) rfl dX1_throughMeet_51 ?_
              refine lv_iload_n hx hb dX1_throughMeet_54 rfl (lv_at hl 1 rfl) ?_
              refine va_iald hx hb hK.1 hP 12 0 rfl rfl (by first | with_reducible assumption | exact in0_24 | exact in0_60 | decide) dX1_throughMeet_55 ?_
              refine lv_aload_n hx hb dX1_throughMeet_56 rfl (lv_at hl 0 rfl) ?_
              refine va_get (D := (dC, dI)) (ci := 5) (v := .ref (a 12)) (C := RX1) (T := TX1) (N := 10) hx hb hts (fun _ h => gI_wsX10 h) hown hK.1 hP 8 rfl rfl 5 (by decide) (hts _ mG_3_22) (fun _ h9 => h9) rfl dX1_throughMeet_57 ?_
              refine lv_iload_n hx hb dX1_throughMeet_60 rfl (lv_at hl 2 rfl) ?_
              refine va_iald hx hb hK.1 hP 12 0 rfl rfl (by first | with_reducible assumption | exact in0_24 | exact in0_60 | decide) dX1_throughMeet_61 ?_
              refine lv_aload_n hx hb dX1_throughMeet_62 rfl (lv_at hl 0 rfl) ?_
              refine va_get (D := (dC, dI)) (ci := 5) (v := .ref (a 12)) (C := RX1) (T := TX1) (N := 10) hx hb hts (fun _ h => gI_wsX10 h) hown hK.1 hP 8 rfl rfl 5 (by decide) (hts _ mG_3_22) (fun _ h9 => h9) rfl dX1_throughMeet_63 ?_
              refine lv_iload hx hb dX1_throughMeet_66 (lv_at hl 4 rfl) ?_
              refine va_iald hx hb hK.1 hP 12 0 rfl rfl (by first | with_reducible assumption | exact in0_24 | exact in0_60 | decide) dX1_throughMeet_68 ?_
              refine cp_i (va_runV (As := [.int (kp (Int32.toNatClampNeg p1)), .int (kp (Int32.toNatClampNeg p2)), .int (kp (Int32.toNatClampNeg x4_28))]) (rest := []) ⟨hx, hb, hml, hown, hts⟩ (c_X1_concurrent l dC dI a cI cJ xs ys pl kp lp lq lr v0 v1 v2 v3 v4 v5 v6 v7 v8 v9 v10 (kp (Int32.toNatClampNeg p1)) (kp (Int32.toNatClampNeg p2)) (kp (Int32.toNatClampNeg x4_28)) (by first | with_reducible assumption | exact in0_24 | exact in0_60 | decide) (by first | with_reducible assumption | exact in0_24 | exact in0_60 | decide) (by first | with_reducible assumption | exact in0_24 | exact in0_60 | decide)) (cwV 3 hts (gG_V mG_29_8 mG_29_9 mG_29_10 mG_2_8 (gG_c mG_29_11 gG_G)) rfl rfl rfl hd_X1_concurrent ⟨Nat.le_of_ble_eq_true rfl, Nat.le_of_ble_eq_true rfl⟩) (pPcV (ci := 5) (q0 := 8) hK hP rfl rfl) rfl rfl hl.1 rfl (lv_room (Nat.le_of_ble_eq_true rfl)) dX1_throughMeet_69 ⟨Nat.le_of_ble_eq_true rfl, Nat.le_of_ble_eq_true rfl⟩) hP hS (fun H hP hS => ?_)
              refine lv_if_eq (tgt := 86) hx hb dX1_throughMeet_72 (by decide) (fun c5 => ?_) (fun c5 => ?_)
              · skip
                refine lv_iinc (v := (x4_28 + 1)) (lv' := [(4, .int (x4_28 + 1)), (0, .ref (a 8)), (1, .int p1), (2, .int p2), (3, .int x3_28)]) hx hb dX1_throughMeet_86 hl (k := 4) rfl rfl (by decide) rfl (fun ls hl => ?_)
                refine lv_goto (tgt := 28) hx hb dX1_throughMeet_89 (by decide) ?_
                exact ih28 x3_28 (x4_28 + 1) (lp_pos h0_28 c2) (lp_dec c2 hf_28) (by rw [hF]; simp only [f_X1_throughMeet_L28, if_neg c2, if_neg c3, if_neg c4, if_pos c5]) _ _ hP hS ls (lv_sub hl [1, 2, 3, 4, 0] rfl)
              · skip
                refine lv_iload hx hb dX1_throughMeet_75 (lv_at hl 4 rfl) ?_
                refine lv_iload_n hx hb dX1_throughMeet_77 rfl (lv_at hl 2 rfl) ?_
                refine lv_icmp_ge (tgt := 83) hx hb dX1_throughMeet_78 (by decide) (fun c6 => ?_) (fun c6 => ?_)
                · skip
                  refine lv_iinc (v := (x3_28 + 1)) (lv' := [(3, .int (x3_28 + 1)), (0, .ref (a 8)), (1, .int p1), (2, .int p2), (4, .int x4_28)]) hx hb dX1_throughMeet_83 hl (k := 3) rfl rfl (by decide) rfl (fun ls hl => ?_)
                  refine lv_iinc (v := (x4_28 + 1)) (lv' := [(4, .int (x4_28 + 1)), (3, .int (x3_28 + 1)), (0, .ref (a 8)), (1, .int p1), (2, .int p2)]) hx hb dX1_throughMeet_86 hl (k := 4) rfl rfl (by decide) rfl (fun ls hl => ?_)
                  refine lv_goto (tgt := 28) hx hb dX1_throughMeet_89 (by decide) ?_
                  exact ih28 (x3_28 + 1) (x4_28 + 1) (lp_pos h0_28 c2) (lp_dec c2 hf_28) (by rw [hF]; simp only [f_X1_throughMeet_L28, if_neg c2, if_neg c3, if_neg c4, if_neg c5, if_pos c6]) _ _ hP hS ls (lv_sub hl [2, 3, 4, 1, 0] rfl)
                · skip
                  refine lv_iconst (v := (0 : Int32)) hx hb dX1_throughMeet_81 (by decide) ?_
                  exact rp_i hQ hx hb hr hlk hS (Eq.symm (eF.symm.trans (by rw [hF]; simp only [f_X1_throughMeet_L28, if_neg c2, if_neg c3, if_neg c4, if_neg c5, if_neg c6]))) dX1_throughMeet_82
    exact K28 25 (2 : Int32) (0 : Int32) (by decide) (lp_fuel (by decide) hn) (by rw [eF]; simp only [f_X1_throughMeet, if_neg c1]) _ _ hP hS ls (lv_sub hl [2, 3, 4, 1, 0] rfl)
  · skip
    refine lv_iconst (v := (0 : Int32)) hx hb dX1_throughMeet_21 (by decide) ?_
    exact rp_i hQ hx hb hr hlk hS (Eq.symm (by simp only [f_X1_throughMeet, if_pos c1])) dX1_throughMeet_22
/-! X1_keepDifferent -/
theorem hs_X1_keepDifferent : yX1_keepDifferent.cls ≠ "java/lang/invoke/MethodHandle" ∧ yX1_keepDifferent.cls ≠ "java/lang/invoke/VarHandle" ∧ (parseMethodDescriptor yX1_keepDifferent.desc).map (fun d => d.parameters.length) = some 1 := by decide +kernel
theorem hd_X1_keepDifferent : yX1_keepDifferent.cls = RX1 ∧ yX1_keepDifferent.cls ≠ "java/lang/invoke/MethodHandle" ∧ yX1_keepDifferent.cls ≠ "java/lang/invoke/VarHandle" ∧ (parseMethodDescriptor yX1_keepDifferent.desc).map (fun d => d.parameters.length) = some 1 := ⟨rfl, hs_X1_keepDifferent⟩
def f_X1_keepDifferent_L7 (kp : Nat → Int32) (lp : Nat → Int64) (lq : Nat → Int64) (lr : Nat → Int64) (v7 : Int32) (p1 : Int32)  : Nat → Int32 → (Nat → Int32) → Int32 → ((Nat → Int32) × Int32)
  | 0, _, _, _ => (fun _ => 0, 0)
  | n + 1, x2_7, kp_7, v7_7 => (if p1 ≤ x2_7 then (kp_7, v7_7) else (if (f_X1_isNew kp_7 lp lq lr v7_7 x2_7) = 0 then (f_X1_keepDifferent_L7 kp lp lq lr v7 p1  n (x2_7 + 1) kp_7 v7_7) else (f_X1_keepDifferent_L7 kp lp lq lr v7 p1  n (x2_7 + 1) (upd kp_7 (Int32.toNatClampNeg v7_7) x2_7) (v7_7 + (1 : Int32)))))
def f_X1_keepDifferent (kp : Nat → Int32) (lp : Nat → Int64) (lq : Nat → Int64) (lr : Nat → Int64) (v7 : Int32) (p1 : Int32) : (Nat → Int32) × Int32 := (f_X1_keepDifferent_L7 kp lp lq lr v7 p1  25 (0 : Int32) kp (0 : Int32))
abbrev rm_X1_keepDifferent : Room := { frames := 3, cells := 0, slots := 0, locals := 66 }
set_option maxHeartbeats 8000000 in
set_option maxRecDepth 100000 in
theorem c_X1_keepDifferent (l : Launch) (dC : Nat → ClassId) (dI : Nat → Nat → Nat) (a : Nat → Nat) (cI cJ : ClassId) (xs : Nat → Int32) (ys : Nat → Int32) (pl : Nat → Int32) (kp : Nat → Int32) (lp : Nat → Int64) (lq : Nat → Int64) (lr : Nat → Int64) (v0 : Int32) (v1 : Int32) (v2 : Int32) (v3 : Int32) (v4 : Int32) (v5 : Int32) (v6 : Int32) (v7 : Int32) (v8 : Int32) (v9 : Int32) (v10 : Int32) (p1 : Int32) (hp : p1 ≤ 12) : Met l yX1_keepDifferent (Cond.code yX1_keepDifferent cX1_keepDifferent 3 none :: lw_G) rm_X1_keepDifferent (wPc (dC, dI) (tIJ cI cJ) (wC a cI cJ xs ys pl kp lp lq lr v0 v1 v2 v3 v4 v5 v6 v7 v8 v9 v10) [.ref (a 8), .int p1]) (wQv (dC, dI) (wA (wC a cI cJ xs ys pl kp lp lq lr v0 v1 v2 v3 v4 v5 v6 v7 v8 v9 v10)) (wC a cI cJ xs ys pl ((f_X1_keepDifferent kp lp lq lr v7 p1).1) lp lq lr v0 v1 v2 v3 v4 v5 v6 ((f_X1_keepDifferent kp lp lq lr v7 p1).2) v8 v9 v10)) 0 0 (wA (wC a cI cJ xs ys pl kp lp lq lr v0 v1 v2 v3 v4 v5 v6 v7 v8 v9 v10)) := by
  refine wm_of (by decide) (Nat.le_of_ble_eq_true rfl) ?_
  intro p e s m args below meth c Q ls hQ hx hb hr hlk hml hown hts hP hK hD hS hl
  have hown : s.vm.findClass RX1 = some m.cls := hown
  have hl : lv_has ls 3 [(0, .ref (a 8)), (1, .int p1)] := hl
  generalize hAe : wA (wC a cI cJ xs ys pl kp lp lq lr v0 v1 v2 v3 v4 v5 v6 v7 v8 v9 v10) = A at hQ hD hS
  obtain ⟨F, eF⟩ : ∃ F, F = (f_X1_keepDifferent kp lp lq lr v7 p1) := ⟨_, rfl⟩
  have hn : p1 ≤ 24 := Int32.le_trans hp (by decide)
  refine lv_aload_n hx hb dX1_keepDifferent_0 rfl (lv_at hl 0 rfl) ?_
  refine lv_iconst (v := (0 : Int32)) hx hb dX1_keepDifferent_1 (by decide) ?_
  refine va_put (D := (dC, dI)) (ci := 5) (v := .int (0 : Int32)) (ty := .int) (C := RX1) (T := TX1) (N := 10) hx hb hts (fun _ h => gI_wsX10 h) tyX1 tyX1_ok nmX1 hown hK.1 hP hD hS 8 rfl rfl 6 (by decide) (hts _ mG_3_23) (fun _ h9 => h9) rfl (by decide +kernel) rfl rfl (Nat.le_of_ble_eq_true rfl) dX1_keepDifferent_2 (fun H locs hP hD hS => ?_)
  have hP : va_P (dC, dI) vwCl (wC a cI cJ xs ys pl kp lp lq lr v0 v1 v2 v3 v4 v5 v6 (0 : Int32) v8 v9 v10) H := hP
  have hD : va_D A (wC a cI cJ xs ys pl kp lp lq lr v0 v1 v2 v3 v4 v5 v6 (0 : Int32) v8 v9 v10) := hD
  refine lv_iconst (v := (0 : Int32)) hx hb dX1_keepDifferent_5 (by decide) ?_
  refine lv_istore_n (lv' := [(2, .int (0 : Int32)), (0, .ref (a 8)), (1, .int p1)]) hx hb dX1_keepDifferent_6 rfl hl (by decide) rfl (fun ls hl => ?_)
  have K7 : ∀ (n7 : Nat) (x2_7 : Int32) (kp_7 : Nat → Int32) (v7_7 : Int32), 0 ≤ x2_7 → ((p1).toInt - x2_7.toInt).toNat < n7 → 0 ≤ v7_7 → v7_7 ≤ x2_7 → (∀ j : Nat, (j : Int) < v7_7.toInt → vp_in (kp_7 j) 12) → F = f_X1_keepDifferent_L7 kp lp lq lr v7 p1  n7 x2_7 kp_7 v7_7 → ∀ (H : Heap) (locs : List Loc), va_P (dC, dI) vwCl (wC a cI cJ xs ys pl kp_7 lp lq lr v0 v1 v2 v3 v4 v5 v6 v7_7 v8 v9 v10) H → va_D A (wC a cI cJ xs ys pl kp_7 lp lq lr v0 v1 v2 v3 v4 v5 v6 v7_7 v8 v9 v10) → va_S A s.heap H locs → ∀ (ls : Array Slot), lv_has ls 3 [(0, .ref (a 8)), (1, .int p1), (2, .int x2_7)] → W p l e rm_X1_keepDifferent s m args below meth c H locs 0 0 Q (F0 m 7 ls []) := by
    intro n7
    induction n7 with
    | zero => intro x2_7 kp_7 v7_7 h0_7 hf_7 g0 g1 g2 hF H locs hP hD hS ls hl; exact absurd hf_7 (Nat.not_lt_zero _)
    | succ n7 ih7 =>
      intro x2_7 kp_7 v7_7 h0_7 hf_7 g0 g1 g2 hF H locs hP hD hS ls hl
      refine lv_iload_n hx hb dX1_keepDifferent_7 rfl (lv_at hl 2 rfl) ?_
      refine lv_iload_n hx hb dX1_keepDifferent_8 rfl (lv_at hl 1 rfl) ?_
      refine lv_icmp_ge (tgt := 46) hx hb dX1_keepDifferent_9 (by decide) (fun c1 => ?_) (fun c1 => ?_)
      · skip
        have hE : F = (kp_7, v7_7) := (by rw [hF]; simp only [f_X1_keepDifferent_L7, if_pos c1])
        rw [eF] at hE
        exact rw_v hQ hx hb hr hlk (by rw [hE]; exact hP) hS dX1_keepDifferent_46
      · skip
        have hI : vp_in x2_7 12 := ix12 h0_7 c1 hp
        have hd : v7_7 ≤ 12 := kd_d g1 c1 hp
        have hJ : vp_in v7_7 12 := ix12 g0 (kd_n g1 c1) hp
        refine lv_aload_n hx hb dX1_keepDifferent_12 rfl (lv_at hl 0 rfl) ?_
        refine lv_iload_n hx hb dX1_keepDifferent_13 rfl (lv_at hl 2 rfl) ?_
        refine cp_i (va_runV (As := [.int x2_7]) (rest := []) ⟨hx, hb, hml, hown, hts⟩ (c_X1_isNew l dC dI a cI cJ xs ys pl kp_7 lp lq lr v0 v1 v2 v3 v4 v5 v6 v7_7 v8 v9 v10 x2_7 (by first | with_reducible assumption | exact in0_24 | exact in0_60 | decide) (by first | with_reducible assumption | exact in0_24 | exact in0_60 | decide) (by first | with_reducible assumption | exact in0_24 | exact in0_60 | decide)) (cwV 1 hts (gG_V mG_28_16 mG_28_17 mG_28_18 mG_2_8 (gG_c mG_28_19 gG_G)) rfl rfl rfl hd_X1_isNew ⟨Nat.le_of_ble_eq_true rfl, Nat.le_of_ble_eq_true rfl⟩) (pPcV (ci := 5) (q0 := 8) hK hP rfl rfl) rfl rfl hl.1 rfl (lv_room (Nat.le_of_ble_eq_true rfl)) dX1_keepDifferent_14 ⟨Nat.le_of_ble_eq_true rfl, Nat.le_of_ble_eq_true rfl⟩) hP hS (fun H hP hS => ?_)
        refine lv_if_eq (tgt := 40) hx hb dX1_keepDifferent_17 (by decide) (fun c2 => ?_) (fun c2 => ?_)
        · skip
          refine lv_iinc (v := (x2_7 + 1)) (lv' := [(2, .int (x2_7 + 1)), (0, .ref (a 8)), (1, .int p1)]) hx hb dX1_keepDifferent_40 hl (k := 2) rfl rfl (by decide) rfl (fun ls hl => ?_)
          refine lv_goto (tgt := 7) hx hb dX1_keepDifferent_43 (by decide) ?_
          exact ih7 (x2_7 + 1) kp_7 v7_7 (lp_pos h0_7 c1) (lp_dec c1 hf_7) (by first | exact g0 | (rw [ev7_7]; exact kd_0 g0 g1 c1)) (by first | exact kd_1' g1 c1 | (rw [ev7_7]; exact kd_1 g1 c1)) (by first | exact g2 | (rw [ev7_7]; exact kd_2 g0 g1 c1 g2 hI)) (by rw [hF]; simp only [f_X1_keepDifferent_L7, if_neg c1, if_pos c2]) _ _ hP hD hS ls (lv_sub hl [1, 2, 0] rfl)
        · skip
          refine lv_aload_n hx hb dX1_keepDifferent_20 rfl (lv_at hl 0 rfl) ?_
          refine va_get (D := (dC, dI)) (ci := 5) (v := .ref (a 12)) (C := RX1) (T := TX1) (N := 10) hx hb hts (fun _ h => gI_wsX10 h) hown hK.1 hP 8 rfl rfl 5 (by decide) (hts _ mG_3_22) (fun _ h9 => h9) rfl dX1_keepDifferent_21 ?_
          refine lv_aload_n hx hb dX1_keepDifferent_24 rfl (lv_at hl 0 rfl) ?_
          refine va_get (D := (dC, dI)) (ci := 5) (v := .int v7_7) (C := RX1) (T := TX1) (N := 10) hx hb hts (fun _ h => gI_wsX10 h) hown hK.1 hP 8 rfl rfl 6 (by decide) (hts _ mG_3_23) (fun _ h9 => h9) rfl dX1_keepDifferent_25 ?_
          refine lv_iload_n hx hb dX1_keepDifferent_28 rfl (lv_at hl 2 rfl) ?_
          refine va_iast hx hb hK.1 hP hD hS 12 0 rfl rfl (by first | with_reducible assumption | exact in0_24 | exact in0_60 | decide) dX1_keepDifferent_29 (fun H locs hP hD hS => ?_)
          have hP : va_P (dC, dI) vwCl (wC a cI cJ xs ys pl (upd kp_7 (Int32.toNatClampNeg v7_7) x2_7) lp lq lr v0 v1 v2 v3 v4 v5 v6 v7_7 v8 v9 v10) H := hP
          have hD : va_D A (wC a cI cJ xs ys pl (upd kp_7 (Int32.toNatClampNeg v7_7) x2_7) lp lq lr v0 v1 v2 v3 v4 v5 v6 v7_7 v8 v9 v10) := hD
          refine lv_aload_n hx hb dX1_keepDifferent_30 rfl (lv_at hl 0 rfl) ?_
          refine lv_dup hx hb dX1_keepDifferent_31 rfl ?_
          refine va_get (D := (dC, dI)) (ci := 5) (v := .int v7_7) (C := RX1) (T := TX1) (N := 10) hx hb hts (fun _ h => gI_wsX10 h) hown hK.1 hP 8 rfl rfl 6 (by decide) (hts _ mG_3_23) (fun _ h9 => h9) rfl dX1_keepDifferent_32 ?_
          refine lv_iconst (v := (1 : Int32)) hx hb dX1_keepDifferent_35 (by decide) ?_
          refine lv_iadd hx hb dX1_keepDifferent_36 ?_
          refine lv_topi (fun y3 ey3 => ?_)
          refine va_put (D := (dC, dI)) (ci := 5) (v := .int y3) (ty := .int) (C := RX1) (T := TX1) (N := 10) hx hb hts (fun _ h => gI_wsX10 h) tyX1 tyX1_ok nmX1 hown hK.1 hP hD hS 8 rfl rfl 6 (by decide) (hts _ mG_3_23) (fun _ h9 => h9) rfl (by decide +kernel) rfl rfl (Nat.le_of_ble_eq_true rfl) dX1_keepDifferent_37 (fun H locs hP hD hS => ?_)
          have hP : va_P (dC, dI) vwCl (wC a cI cJ xs ys pl (upd kp_7 (Int32.toNatClampNeg v7_7) x2_7) lp lq lr v0 v1 v2 v3 v4 v5 v6 y3 v8 v9 v10) H := hP
          have hD : va_D A (wC a cI cJ xs ys pl (upd kp_7 (Int32.toNatClampNeg v7_7) x2_7) lp lq lr v0 v1 v2 v3 v4 v5 v6 y3 v8 v9 v10) := hD
          refine lv_iinc (v := (x2_7 + 1)) (lv' := [(2, .int (x2_7 + 1)), (0, .ref (a 8)), (1, .int p1)]) hx hb dX1_keepDifferent_40 hl (k := 2) rfl rfl (by decide) rfl (fun ls hl => ?_)
          refine lv_goto (tgt := 7) hx hb dX1_keepDifferent_43 (by decide) ?_
          exact ih7 (x2_7 + 1) (upd kp_7 (Int32.toNatClampNeg v7_7) x2_7) y3 (lp_pos h0_7 c1) (lp_dec c1 hf_7) (by first | exact g0 | (rw [ey3]; exact kd_0 g0 g1 c1)) (by first | exact kd_1' g1 c1 | (rw [ey3]; exact kd_1 g1 c1)) (by first | exact g2 | (rw [ey3]; exact kd_2 g0 g1 c1 g2 hI)) (by subst ey3; rw [hF]; simp only [f_X1_keepDifferent_L7, if_neg c1, if_neg c2]) _ _ hP hD hS ls (lv_sub hl [1, 2, 0] rfl)
  exact K7 25 (0 : Int32) kp (0 : Int32) (by decide) (lp_fuel (by decide) hn) (by decide) (by decide) kd_z (by rw [eF]; simp only [f_X1_keepDifferent]) _ _ hP hD hS ls (lv_sub hl [1, 2, 0] rfl)
theorem kd_loop {lp lq lr : Nat → Int64} {p1 : Int32} (hp : p1 ≤ 12) : ∀ (n : Nat) (kp : Nat → Int32) (v i : Int32), 0 ≤ v → v ≤ i → i ≤ 12 → (∀ j : Nat, (j : Int) < v.toInt → vp_in (kp j) 12) → ∀ kp0 v0, 0 ≤ (f_X1_keepDifferent_L7 kp0 lp lq lr v0 p1 n i kp v).2 ∧ (f_X1_keepDifferent_L7 kp0 lp lq lr v0 p1 n i kp v).2 ≤ 12 ∧ ∀ j : Nat, (j : Int) < ((f_X1_keepDifferent_L7 kp0 lp lq lr v0 p1 n i kp v).2).toInt → vp_in ((f_X1_keepDifferent_L7 kp0 lp lq lr v0 p1 n i kp v).1 j) 12 := by
  intro n
  induction n with
  | zero => intro kp v i g0 g1 gi g2 kp0 v0; exact ⟨(by decide : (0 : Int32) ≤ 0), (by decide : (0 : Int32) ≤ 12), fun j h => kd_z (kp := fun _ => 0) j h⟩
  | succ n ih =>
    intro kp v i g0 g1 gi g2 kp0 v0
    rw [f_X1_keepDifferent_L7]
    by_cases c : p1 ≤ i
    · rw [if_pos c]
      exact ⟨g0, Int32.le_trans g1 gi, g2⟩
    · rw [if_neg c]
      have gi2 : i + 1 ≤ 12 := by
        have h1 := mt Int32.le_iff_toInt_le.mpr c
        have h2 := Int32.le_iff_toInt_le.mp hp
        rw [Int32.le_iff_toInt_le, in_1 c]
        omega
      have h0 : 0 ≤ i := Int32.le_trans g0 g1
      split
      · exact ih kp v (i + 1) g0 (kd_1' g1 c) gi2 g2 kp0 v0
      · exact ih _ (v + 1) (i + 1) (kd_0 g0 g1 c) (kd_1 g1 c) gi2 (kd_2 g0 g1 c g2 (ix12 h0 c hp)) kp0 v0
theorem kd_spec {kp : Nat → Int32} {lp lq lr : Nat → Int64} {v7 p1 : Int32} (hp : p1 ≤ 12) : 0 ≤ (f_X1_keepDifferent kp lp lq lr v7 p1).2 ∧ (f_X1_keepDifferent kp lp lq lr v7 p1).2 ≤ 12 ∧ ∀ j : Nat, (j : Int) < ((f_X1_keepDifferent kp lp lq lr v7 p1).2).toInt → vp_in ((f_X1_keepDifferent kp lp lq lr v7 p1).1 j) 12 :=
  kd_loop hp 25 kp 0 0 (by decide) (by decide) (by decide) kd_z kp v7
/-! X1_survey -/
theorem hs_X1_survey : yX1_survey.cls ≠ "java/lang/invoke/MethodHandle" ∧ yX1_survey.cls ≠ "java/lang/invoke/VarHandle" ∧ (parseMethodDescriptor yX1_survey.desc).map (fun d => d.parameters.length) = some 1 := by decide +kernel
theorem hd_X1_survey : yX1_survey.cls = RX1 ∧ yX1_survey.cls ≠ "java/lang/invoke/MethodHandle" ∧ yX1_survey.cls ≠ "java/lang/invoke/VarHandle" ∧ (parseMethodDescriptor yX1_survey.desc).map (fun d => d.parameters.length) = some 1 := ⟨rfl, hs_X1_survey⟩
def f_X1_survey_L34 (kp : Nat → Int32) (lp : Nat → Int64) (lq : Nat → Int64) (lr : Nat → Int64) (v7 : Int32) (v8 : Int32) (v9 : Int32) (v10 : Int32) (p1 : Int32) (k : Int32 → Int32 → Int32 → Int32 → ((Nat → Int32) × Int32 × Int32 × Int32 × Int32)) (x2_22 : Int32) : Nat → Int32 → Int32 → Int32 → Int32 → ((Nat → Int32) × Int32 × Int32 × Int32 × Int32)
  | 0, _, _, _, _ => (fun _ => 0, 0, 0, 0, 0)
  | n + 1, x3_34, v8_34, v9_34, v10_34 => (if ((f_X1_keepDifferent kp lp lq lr v7 p1).2) ≤ x3_34 then (k (x2_22 + 1) v8_34 v9_34 v10_34) else (if (f_X1_throughMeet ((f_X1_keepDifferent kp lp lq lr v7 p1).1) lp lq lr ((f_X1_keepDifferent kp lp lq lr v7 p1).2) x2_22 x3_34) ≤ 0 then (f_X1_survey_L34 kp lp lq lr v7 v8 v9 v10 p1 k x2_22 n (x3_34 + 1) v8_34 v9_34 v10_34) else (f_X1_survey_L34 kp lp lq lr v7 v8 v9 v10 p1 k x2_22 n (x3_34 + 1) (v8_34 + (1 : Int32)) (if v9_34 < (f_X1_throughMeet ((f_X1_keepDifferent kp lp lq lr v7 p1).1) lp lq lr ((f_X1_keepDifferent kp lp lq lr v7 p1).2) x2_22 x3_34) then (f_X1_throughMeet ((f_X1_keepDifferent kp lp lq lr v7 p1).1) lp lq lr ((f_X1_keepDifferent kp lp lq lr v7 p1).2) x2_22 x3_34) else v9_34) (v10_34 + (f_X1_throughMeet ((f_X1_keepDifferent kp lp lq lr v7 p1).1) lp lq lr ((f_X1_keepDifferent kp lp lq lr v7 p1).2) x2_22 x3_34)))))
def f_X1_survey_L22 (kp : Nat → Int32) (lp : Nat → Int64) (lq : Nat → Int64) (lr : Nat → Int64) (v7 : Int32) (v8 : Int32) (v9 : Int32) (v10 : Int32) (p1 : Int32)  : Nat → Int32 → Int32 → Int32 → Int32 → ((Nat → Int32) × Int32 × Int32 × Int32 × Int32)
  | 0, _, _, _, _ => (fun _ => 0, 0, 0, 0, 0)
  | n + 1, x2_22, v8_22, v9_22, v10_22 => (if ((f_X1_keepDifferent kp lp lq lr v7 p1).2) ≤ x2_22 then (((f_X1_keepDifferent kp lp lq lr v7 p1).1), ((f_X1_keepDifferent kp lp lq lr v7 p1).2), v8_22, v9_22, v10_22) else (f_X1_survey_L34 kp lp lq lr v7 v8 v9 v10 p1 (fun x2_22 v8_22 v9_22 v10_22 => f_X1_survey_L22 kp lp lq lr v7 v8 v9 v10 p1  n x2_22 v8_22 v9_22 v10_22) x2_22 25 (x2_22 + (1 : Int32)) v8_22 v9_22 v10_22))
def f_X1_survey (kp : Nat → Int32) (lp : Nat → Int64) (lq : Nat → Int64) (lr : Nat → Int64) (v7 : Int32) (v8 : Int32) (v9 : Int32) (v10 : Int32) (p1 : Int32) : (Nat → Int32) × Int32 × Int32 × Int32 × Int32 := (f_X1_survey_L22 kp lp lq lr v7 v8 v9 v10 p1  25 (0 : Int32) (0 : Int32) (0 : Int32) (0 : Int32))
abbrev rm_X1_survey : Room := { frames := 4, cells := 0, slots := 0, locals := 88 }
set_option maxHeartbeats 8000000 in
set_option maxRecDepth 100000 in
theorem c_X1_survey (l : Launch) (dC : Nat → ClassId) (dI : Nat → Nat → Nat) (a : Nat → Nat) (cI cJ : ClassId) (xs : Nat → Int32) (ys : Nat → Int32) (pl : Nat → Int32) (kp : Nat → Int32) (lp : Nat → Int64) (lq : Nat → Int64) (lr : Nat → Int64) (v0 : Int32) (v1 : Int32) (v2 : Int32) (v3 : Int32) (v4 : Int32) (v5 : Int32) (v6 : Int32) (v7 : Int32) (v8 : Int32) (v9 : Int32) (v10 : Int32) (p1 : Int32) (hp : p1 ≤ 12) : Met l yX1_survey (Cond.code yX1_survey cX1_survey 5 none :: lw_G) rm_X1_survey (wPc (dC, dI) (tIJ cI cJ) (wC a cI cJ xs ys pl kp lp lq lr v0 v1 v2 v3 v4 v5 v6 v7 v8 v9 v10) [.ref (a 8), .int p1]) (wQv (dC, dI) (wA (wC a cI cJ xs ys pl kp lp lq lr v0 v1 v2 v3 v4 v5 v6 v7 v8 v9 v10)) (wC a cI cJ xs ys pl ((f_X1_survey kp lp lq lr v7 v8 v9 v10 p1).1) lp lq lr v0 v1 v2 v3 v4 v5 v6 ((f_X1_survey kp lp lq lr v7 v8 v9 v10 p1).2.1) ((f_X1_survey kp lp lq lr v7 v8 v9 v10 p1).2.2.1) ((f_X1_survey kp lp lq lr v7 v8 v9 v10 p1).2.2.2.1) ((f_X1_survey kp lp lq lr v7 v8 v9 v10 p1).2.2.2.2))) 0 0 (wA (wC a cI cJ xs ys pl kp lp lq lr v0 v1 v2 v3 v4 v5 v6 v7 v8 v9 v10)) := by
  refine wm_of (by decide) (Nat.le_of_ble_eq_true rfl) ?_
  intro p e s m args below meth c Q ls hQ hx hb hr hlk hml hown hts hP hK hD hS hl
  have hown : s.vm.findClass RX1 = some m.cls := hown
  have hl : lv_has ls 5 [(0, .ref (a 8)), (1, .int p1)] := hl
  generalize hAe : wA (wC a cI cJ xs ys pl kp lp lq lr v0 v1 v2 v3 v4 v5 v6 v7 v8 v9 v10) = A at hQ hD hS
  obtain ⟨F, eF⟩ : ∃ F, F = (f_X1_survey kp lp lq lr v7 v8 v9 v10 p1) := ⟨_, rfl⟩
  obtain ⟨hd0, hd, hk⟩ := kd_spec (kp := kp) (lp := lp) (lq := lq) (lr := lr) (v7 := v7) hp
  have hn : ((f_X1_keepDifferent kp lp lq lr v7 p1).2) ≤ 24 := Int32.le_trans hd (by decide)
  refine lv_aload_n hx hb dX1_survey_0 rfl (lv_at hl 0 rfl) ?_
  refine lv_iload_n hx hb dX1_survey_1 rfl (lv_at hl 1 rfl) ?_
  refine cw_v (va_runV (As := [.int p1]) (rest := []) ⟨hx, hb, hml, hown, hts⟩ (c_X1_keepDifferent l dC dI a cI cJ xs ys pl kp lp lq lr v0 v1 v2 v3 v4 v5 v6 v7 v8 v9 v10 p1 (by first | with_reducible assumption | exact in0_24 | exact in0_60 | decide)) (cwV 1 hts (gG_V mG_28_12 mG_28_13 mG_28_14 mG_2_8 (gG_c mG_28_15 gG_G)) rfl rfl rfl hd_X1_keepDifferent ⟨Nat.le_of_ble_eq_true rfl, Nat.le_of_ble_eq_true rfl⟩) (wPcV (ci := 5) (q0 := 8) hK hP hD rfl rfl) rfl rfl hl.1 rfl (lv_room (Nat.le_of_ble_eq_true rfl)) dX1_survey_2 ⟨Nat.le_of_ble_eq_true rfl, Nat.le_of_ble_eq_true rfl⟩) (wA.sub hD) hS (fun H locs hP hk1 hS => ?_)
  have hD := hD.addr (w1 := (wC a cI cJ xs ys pl ((f_X1_keepDifferent kp lp lq lr v7 p1).1) lp lq lr v0 v1 v2 v3 v4 v5 v6 ((f_X1_keepDifferent kp lp lq lr v7 p1).2) v8 v9 v10)) rfl
  refine lv_aload_n hx hb dX1_survey_5 rfl (lv_at hl 0 rfl) ?_
  refine lv_iconst (v := (0 : Int32)) hx hb dX1_survey_6 (by decide) ?_
  refine va_put (D := (dC, dI)) (ci := 5) (v := .int (0 : Int32)) (ty := .int) (C := RX1) (T := TX1) (N := 10) hx hb hts (fun _ h => gI_wsX10 h) tyX1 tyX1_ok nmX1 hown hK.1 hP hD hS 8 rfl rfl 7 (by decide) (hts _ mG_4_0) (fun _ h9 => h9) rfl (by decide +kernel) rfl rfl (Nat.le_of_ble_eq_true rfl) dX1_survey_7 (fun H locs hP hD hS => ?_)
  have hP : va_P (dC, dI) vwCl (wC a cI cJ xs ys pl ((f_X1_keepDifferent kp lp lq lr v7 p1).1) lp lq lr v0 v1 v2 v3 v4 v5 v6 ((f_X1_keepDifferent kp lp lq lr v7 p1).2) (0 : Int32) v9 v10) H := hP
  have hD : va_D A (wC a cI cJ xs ys pl ((f_X1_keepDifferent kp lp lq lr v7 p1).1) lp lq lr v0 v1 v2 v3 v4 v5 v6 ((f_X1_keepDifferent kp lp lq lr v7 p1).2) (0 : Int32) v9 v10) := hD
  refine lv_aload_n hx hb dX1_survey_10 rfl (lv_at hl 0 rfl) ?_
  refine lv_iconst (v := (0 : Int32)) hx hb dX1_survey_11 (by decide) ?_
  refine va_put (D := (dC, dI)) (ci := 5) (v := .int (0 : Int32)) (ty := .int) (C := RX1) (T := TX1) (N := 10) hx hb hts (fun _ h => gI_wsX10 h) tyX1 tyX1_ok nmX1 hown hK.1 hP hD hS 8 rfl rfl 8 (by decide) (hts _ mG_4_1) (fun _ h9 => h9) rfl (by decide +kernel) rfl rfl (Nat.le_of_ble_eq_true rfl) dX1_survey_12 (fun H locs hP hD hS => ?_)
  have hP : va_P (dC, dI) vwCl (wC a cI cJ xs ys pl ((f_X1_keepDifferent kp lp lq lr v7 p1).1) lp lq lr v0 v1 v2 v3 v4 v5 v6 ((f_X1_keepDifferent kp lp lq lr v7 p1).2) (0 : Int32) (0 : Int32) v10) H := hP
  have hD : va_D A (wC a cI cJ xs ys pl ((f_X1_keepDifferent kp lp lq lr v7 p1).1) lp lq lr v0 v1 v2 v3 v4 v5 v6 ((f_X1_keepDifferent kp lp lq lr v7 p1).2) (0 : Int32) (0 : Int32) v10) := hD
  refine lv_aload_n hx hb dX1_survey_15 rfl (lv_at hl 0 rfl) ?_
  refine lv_iconst (v := (0 : Int32)) hx hb dX1_survey_16 (by decide) ?_
  refine va_put (D := (dC, dI)) (ci := 5) (v := .int (0 : Int32)) (ty := .int) (C := RX1) (T := TX1) (N := 10) hx hb hts (fun _ h => gI_wsX10 h) tyX1 tyX1_ok nmX1 hown hK.1 hP hD hS 8 rfl rfl 9 (by decide) (hts _ mG_4_2) (fun _ h9 => h9) rfl (by decide +kernel) rfl rfl (Nat.le_of_ble_eq_true rfl) dX1_survey_17 (fun H locs hP hD hS => ?_)
  have hP : va_P (dC, dI) vwCl (wC a cI cJ xs ys pl ((f_X1_keepDifferent kp lp lq lr v7 p1).1) lp lq lr v0 v1 v2 v3 v4 v5 v6 ((f_X1_keepDifferent kp lp lq lr v7 p1).2) (0 : Int32) (0 : Int32) (0 : Int32)) H := hP
  have hD : va_D A (wC a cI cJ xs ys pl ((f_X1_keepDifferent kp lp lq lr v7 p1).1) lp lq lr v0 v1 v2 v3 v4 v5 v6 ((f_X1_keepDifferent kp lp lq lr v7 p1).2) (0 : Int32) (0 : Int32) (0 : Int32)) := hD
  refine lv_iconst (v := (0 : Int32)) hx hb dX1_survey_20 (by decide) ?_
  refine lv_istore_n (lv' := [(2, .int (0 : Int32)), (0, .ref (a 8)), (1, .int p1)]) hx hb dX1_survey_21 rfl hl (by decide) rfl (fun ls hl => ?_)
  have K22 : ∀ (n22 : Nat) (x2_22 : Int32) (v8_22 : Int32) (v9_22 : Int32) (v10_22 : Int32), 0 ≤ x2_22 → ((((f_X1_keepDifferent kp lp lq lr v7 p1).2)).toInt - x2_22.toInt).toNat < n22 → F = f_X1_survey_L22 kp lp lq lr v7 v8 v9 v10 p1  n22 x2_22 v8_22 v9_22 v10_22 → ∀ (H : Heap) (locs : List Loc), va_P (dC, dI) vwCl (wC a cI cJ xs ys pl ((f_X1_keepDifferent kp lp lq lr v7 p1).1) lp lq lr v0 v1 v2 v3 v4 v5 v6 ((f_X1_keepDifferent kp lp lq lr v7 p1).2) v8_22 v9_22 v10_22) H → va_D A (wC a cI cJ xs ys pl ((f_X1_keepDifferent kp lp lq lr v7 p1).1) lp lq lr v0 v1 v2 v3 v4 v5 v6 ((f_X1_keepDifferent kp lp lq lr v7 p1).2) v8_22 v9_22 v10_22) → va_S A s.heap H locs → ∀ (ls : Array Slot), lv_has ls 5 [(0, .ref (a 8)), (2, .int x2_22)] → W p l e rm_X1_survey s m args below meth c H locs 0 0 Q (F0 m 22 ls []) := by
    intro n22
    induction n22 with
    | zero => intro x2_22 v8_22 v9_22 v10_22 h0_22 hf_22 hF H locs hP hD hS ls hl; exact absurd hf_22 (Nat.not_lt_zero _)
    | succ n22 ih22 =>
      intro x2_22 v8_22 v9_22 v10_22 h0_22 hf_22 hF H locs hP hD hS ls hl
      refine lv_iload_n hx hb dX1_survey_22 rfl (lv_at hl 1 rfl) ?_
      refine lv_aload_n hx hb dX1_survey_23 rfl (lv_at hl 0 rfl) ?_
      refine va_get (D := (dC, dI)) (ci := 5) (v := .int ((f_X1_keepDifferent kp lp lq lr v7 p1).2)) (C := RX1) (T := TX1) (N := 10) hx hb hts (fun _ h => gI_wsX10 h) hown hK.1 hP 8 rfl rfl 6 (by decide) (hts _ mG_3_23) (fun _ h9 => h9) rfl dX1_survey_24 ?_
      refine lv_icmp_ge (tgt := 101) hx hb dX1_survey_27 (by decide) (fun c1 => ?_) (fun c1 => ?_)
      · skip
        have hE : F = (((f_X1_keepDifferent kp lp lq lr v7 p1).1), ((f_X1_keepDifferent kp lp lq lr v7 p1).2), v8_22, v9_22, v10_22) := (by rw [hF]; simp only [f_X1_survey_L22, if_pos c1])
        rw [eF] at hE
        exact rw_v hQ hx hb hr hlk (by rw [hE]; exact hP) hS dX1_survey_101
      · skip
        have hI : vp_in x2_22 12 := ix12 h0_22 c1 hd
        have hk1 := hk_at hk h0_22 c1
        refine lv_iload_n hx hb dX1_survey_30 rfl (lv_at hl 1 rfl) ?_
        refine lv_iconst (v := (1 : Int32)) hx hb dX1_survey_31 (by decide) ?_
        refine lv_iadd hx hb dX1_survey_32 ?_
        refine lv_topi (fun y2 ey2 => ?_)
        refine lv_istore_n (lv' := [(3, .int y2), (0, .ref (a 8)), (2, .int x2_22)]) hx hb dX1_survey_33 rfl hl (by decide) rfl (fun ls hl => ?_)
        have K34 : ∀ (n34 : Nat) (x3_34 : Int32) (v8_34 : Int32) (v9_34 : Int32) (v10_34 : Int32), 0 ≤ x3_34 → ((((f_X1_keepDifferent kp lp lq lr v7 p1).2)).toInt - x3_34.toInt).toNat < n34 → F = f_X1_survey_L34 kp lp lq lr v7 v8 v9 v10 p1 (fun x2_22 v8_22 v9_22 v10_22 => f_X1_survey_L22 kp lp lq lr v7 v8 v9 v10 p1  n22 x2_22 v8_22 v9_22 v10_22) x2_22 n34 x3_34 v8_34 v9_34 v10_34 → ∀ (H : Heap) (locs : List Loc), va_P (dC, dI) vwCl (wC a cI cJ xs ys pl ((f_X1_keepDifferent kp lp lq lr v7 p1).1) lp lq lr v0 v1 v2 v3 v4 v5 v6 ((f_X1_keepDifferent kp lp lq lr v7 p1).2) v8_34 v9_34 v10_34) H → va_D A (wC a cI cJ xs ys pl ((f_X1_keepDifferent kp lp lq lr v7 p1).1) lp lq lr v0 v1 v2 v3 v4 v5 v6 ((f_X1_keepDifferent kp lp lq lr v7 p1).2) v8_34 v9_34 v10_34) → va_S A s.heap H locs → ∀ (ls : Array Slot), lv_has ls 5 [(0, .ref (a 8)), (2, .int x2_22), (3, .int x3_34)] → W p l e rm_X1_survey s m args below meth c H locs 0 0 Q (F0 m 34 ls []) := by
          intro n34
          induction n34 with
          | zero => intro x3_34 v8_34 v9_34 v10_34 h0_34 hf_34 hF H locs hP hD hS ls hl; exact absurd hf_34 (Nat.not_lt_zero _)
          | succ n34 ih34 =>
            intro x3_34 v8_34 v9_34 v10_34 h0_34 hf_34 hF H locs hP hD hS ls hl
            refine lv_iload_n hx hb dX1_survey_34 rfl (lv_at hl 2 rfl) ?_
            refine lv_aload_n hx hb dX1_survey_35 rfl (lv_at hl 0 rfl) ?_
            refine va_get (D := (dC, dI)) (ci := 5) (v := .int ((f_X1_keepDifferent kp lp lq lr v7 p1).2)) (C := RX1) (T := TX1) (N := 10) hx hb hts (fun _ h => gI_wsX10 h) hown hK.1 hP 8 rfl rfl 6 (by decide) (hts _ mG_3_23) (fun _ h9 => h9) rfl dX1_survey_36 ?_
            refine lv_icmp_ge (tgt := 95) hx hb dX1_survey_39 (by decide) (fun c3 => ?_) (fun c3 => ?_)
            · skip
              refine lv_iinc (v := (x2_22 + 1)) (lv' := [(2, .int (x2_22 + 1)), (0, .ref (a 8)), (3, .int x3_34)]) hx hb dX1_survey_95 hl (k := 1) rfl rfl (by decide) rfl (fun ls hl => ?_)
              refine lv_goto (tgt := 22) hx hb dX1_survey_98 (by decide) ?_
              exact ih22 (x2_22 + 1) v8_34 v9_34 v10_34 (lp_pos h0_22 c1) (lp_dec c1 hf_22) (by rw [hF]; simp only [f_X1_survey_L34, if_pos c3]) _ _ hP hD hS ls (lv_sub hl [1, 0] rfl)
            · skip
              have hI2 : vp_in x3_34 12 := ix12 h0_34 c3 hd
              have hk2 := hk_at hk h0_34 c3
              refine lv_aload_n hx hb dX1_survey_42 rfl (lv_at hl 0 rfl) ?_
              refine lv_iload_n hx hb dX1_survey_43 rfl (lv_at hl 1 rfl) ?_
              refine lv_iload_n hx hb dX1_survey_44 rfl (lv_at hl 2 rfl) ?_
              refine cp_i (va_runV (As := [.int x2_22, .int x3_34]) (rest := []) ⟨hx, hb, hml, hown, hts⟩ (c_X1_throughMeet l dC dI a cI cJ xs ys pl ((f_X1_keepDifferent kp lp lq lr v7 p1).1) lp lq lr v0 v1 v2 v3 v4 v5 v6 ((f_X1_keepDifferent kp lp lq lr v7 p1).2) v8_34 v9_34 v10_34 x2_22 x3_34 (by first | with_reducible assumption | exact in0_24 | exact in0_60 | decide) (by first | with_reducible assumption | exact in0_24 | exact in0_60 | decide) (by first | with_reducible assumption | exact in0_24 | exact in0_60 | decide) (by first | with_reducible assumption | exact in0_24 | exact in0_60 | decide) (by first | with_reducible assumption | exact in0_24 | exact in0_60 | decide) (by first | with_reducible assumption | exact in0_24 | exact in0_60 | decide)) (cwV 2 hts (gG_V mG_29_4 mG_29_5 mG_29_6 mG_2_8 (gG_c mG_29_7 gG_G)) rfl rfl rfl hd_X1_throughMeet ⟨Nat.le_of_ble_eq_true rfl, Nat.le_of_ble_eq_true rfl⟩) (pPcV (ci := 5) (q0 := 8) hK hP rfl rfl) rfl rfl hl.1 rfl (lv_room (Nat.le_of_ble_eq_true rfl)) dX1_survey_45 ⟨Nat.le_of_ble_eq_true rfl, Nat.le_of_ble_eq_true rfl⟩) hP hS (fun H hP hS => ?_)
              refine lv_topi (fun y4 ey4 => ?_)
              refine lv_istore (lv' := [(4, .int y4), (0, .ref (a 8)), (2, .int x2_22), (3, .int x3_34)]) hx hb dX1_survey_48 hl (by decide) rfl (fun ls hl => ?_)
              refine lv_iload hx hb dX1_survey_50 (lv_at hl 0 rfl) ?_
              refine lv_if_le (tgt := 89) hx hb dX1_survey_52 (by decide) (fun c5 => ?_) (fun c5 => ?_)
              · skip
                refine lv_iinc (v := (x3_34 + 1)) (lv' := [(3, .int (x3_34 + 1)), (4, .int y4), (0, .ref (a 8)), (2, .int x2_22)]) hx hb dX1_survey_89 hl (k := 3) rfl rfl (by decide) rfl (fun ls hl => ?_)
                refine lv_goto (tgt := 34) hx hb dX1_survey_92 (by decide) ?_
                exact ih34 (x3_34 + 1) v8_34 v9_34 v10_34 (lp_pos h0_34 c3) (lp_dec c3 hf_34) (by subst ey4; rw [hF]; simp only [f_X1_survey_L34, if_neg c3, if_pos c5]) _ _ hP hD hS ls (lv_sub hl [2, 3, 0] rfl)
              · skip
                refine lv_aload_n hx hb dX1_survey_55 rfl (lv_at hl 1 rfl) ?_
                refine lv_dup hx hb dX1_survey_56 rfl ?_
                refine va_get (D := (dC, dI)) (ci := 5) (v := .int v8_34) (C := RX1) (T := TX1) (N := 10) hx hb hts (fun _ h => gI_wsX10 h) hown hK.1 hP 8 rfl rfl 7 (by decide) (hts _ mG_4_0) (fun _ h9 => h9) rfl dX1_survey_57 ?_
                refine lv_iconst (v := (1 : Int32)) hx hb dX1_survey_60 (by decide) ?_
                refine lv_iadd hx hb dX1_survey_61 ?_
                refine lv_topi (fun y6 ey6 => ?_)
                refine va_put (D := (dC, dI)) (ci := 5) (v := .int y6) (ty := .int) (C := RX1) (T := TX1) (N := 10) hx hb hts (fun _ h => gI_wsX10 h) tyX1 tyX1_ok nmX1 hown hK.1 hP hD hS 8 rfl rfl 7 (by decide) (hts _ mG_4_0) (fun _ h9 => h9) rfl (by decide +kernel) rfl rfl (Nat.le_of_ble_eq_true rfl) dX1_survey_62 (fun H locs hP hD hS => ?_)
                have hP : va_P (dC, dI) vwCl (wC a cI cJ xs ys pl ((f_X1_keepDifferent kp lp lq lr v7 p1).1) lp lq lr v0 v1 v2 v3 v4 v5 v6 ((f_X1_keepDifferent kp lp lq lr v7 p1).2) y6 v9_34 v10_34) H := hP
                have hD : va_D A (wC a cI cJ xs ys pl ((f_X1_keepDifferent kp lp lq lr v7 p1).1) lp lq lr v0 v1 v2 v3 v4 v5 v6 ((f_X1_keepDifferent kp lp lq lr v7 p1).2) y6 v9_34 v10_34) := hD
                refine lv_aload_n hx hb dX1_survey_65 rfl (lv_at hl 1 rfl) ?_
                refine lv_dup hx hb dX1_survey_66 rfl ?_
                refine va_get (D := (dC, dI)) (ci := 5) (v := .int v10_34) (C := RX1) (T := TX1) (N := 10) hx hb hts (fun _ h => gI_wsX10 h) hown hK.1 hP 8 rfl rfl 9 (by decide) (hts _ mG_4_2) (fun _ h9 => h9) rfl dX1_survey_67 ?_
                refine lv_iload hx hb dX1_survey_70 (lv_at hl 0 rfl) ?_
                refine lv_iadd hx hb dX1_survey_72 ?_
                refine lv_topi (fun y7 ey7 => ?_)
                refine va_put (D := (dC, dI)) (ci := 5) (v := .int y7) (ty := .int) (C := RX1) (T := TX1) (N := 10) hx hb hts (fun _ h => gI_wsX10 h) tyX1 tyX1_ok nmX1 hown hK.1 hP hD hS 8 rfl rfl 9 (by decide) (hts _ mG_4_2) (fun _ h9 => h9) rfl (by decide +kernel) rfl rfl (Nat.le_of_ble_eq_true rfl) dX1_survey_73 (fun H locs hP hD hS => ?_)
                have hP : va_P (dC, dI) vwCl (wC a cI cJ xs ys pl ((f_X1_keepDifferent kp lp lq lr v7 p1).1) lp lq lr v0 v1 v2 v3 v4 v5 v6 ((f_X1_keepDifferent kp lp lq lr v7 p1).2) y6 v9_34 y7) H := hP
                have hD : va_D A (wC a cI cJ xs ys pl ((f_X1_keepDifferent kp lp lq lr v7 p1).1) lp lq lr v0 v1 v2 v3 v4 v5 v6 ((f_X1_keepDifferent kp lp lq lr v7 p1).2) y6 v9_34 y7) := hD
                refine lv_aload_n hx hb dX1_survey_76 rfl (lv_at hl 1 rfl) ?_
                refine lv_aload_n hx hb dX1_survey_77 rfl (lv_at hl 1 rfl) ?_
                refine va_get (D := (dC, dI)) (ci := 5) (v := .int v9_34) (C := RX1) (T := TX1) (N := 10) hx hb hts (fun _ h => gI_wsX10 h) hown hK.1 hP 8 rfl rfl 8 (by decide) (hts _ mG_4_1) (fun _ h9 => h9) rfl dX1_survey_78 ?_
                refine lv_iload hx hb dX1_survey_81 (lv_at hl 0 rfl) ?_
                refine va_mmax hx hb (by rw [hml]; exact hl.1.symm) hown (hts _ mG_28_11) (hts _ mG_16_14) (hts _ mG_16_11) (hts _ mG_16_15) (Nat.le_of_ble_eq_true rfl) (Nat.le_of_ble_eq_true rfl) (Nat.le_refl _) (Nat.le_refl _) dX1_survey_83 ?_
                refine lv_topi (fun y8 ey8 => ?_)
                refine va_put (D := (dC, dI)) (ci := 5) (v := .int y8) (ty := .int) (C := RX1) (T := TX1) (N := 10) hx hb hts (fun _ h => gI_wsX10 h) tyX1 tyX1_ok nmX1 hown hK.1 hP hD hS 8 rfl rfl 8 (by decide) (hts _ mG_4_1) (fun _ h9 => h9) rfl (by decide +kernel) rfl rfl (Nat.le_of_ble_eq_true rfl) dX1_survey_86 (fun H locs hP hD hS => ?_)
                have hP : va_P (dC, dI) vwCl (wC a cI cJ xs ys pl ((f_X1_keepDifferent kp lp lq lr v7 p1).1) lp lq lr v0 v1 v2 v3 v4 v5 v6 ((f_X1_keepDifferent kp lp lq lr v7 p1).2) y6 y8 y7) H := hP
                have hD : va_D A (wC a cI cJ xs ys pl ((f_X1_keepDifferent kp lp lq lr v7 p1).1) lp lq lr v0 v1 v2 v3 v4 v5 v6 ((f_X1_keepDifferent kp lp lq lr v7 p1).2) y6 y8 y7) := hD
                refine lv_iinc (v := (x3_34 + 1)) (lv' := [(3, .int (x3_34 + 1)), (4, .int y4), (0, .ref (a 8)), (2, .int x2_22)]) hx hb dX1_survey_89 hl (k := 3) rfl rfl (by decide) rfl (fun ls hl => ?_)
                refine lv_goto (tgt := 34) hx hb dX1_survey_92 (by decide) ?_
                exact ih34 (x3_34 + 1) y6 y8 y7 (lp_pos h0_34 c3) (lp_dec c3 hf_34) (by subst ey4; subst ey6; subst ey7; subst ey8; rw [hF]; simp only [f_X1_survey_L34, if_neg c3, if_neg c5]) _ _ hP hD hS ls (lv_sub hl [2, 3, 0] rfl)
        exact K34 25 y2 v8_22 v9_22 v10_22 (by rw [ey2]; exact lp_pos h0_22 c1) (lp_fuel (by rw [ey2]; exact lp_pos h0_22 c1) hn) (by subst ey2; rw [hF]; simp only [f_X1_survey_L22, if_neg c1]) _ _ hP hD hS ls (lv_sub hl [1, 2, 0] rfl)
  exact K22 25 (0 : Int32) (0 : Int32) (0 : Int32) (0 : Int32) (by decide) (lp_fuel (by decide) hn) (by rw [eF]; simp only [f_X1_survey]) _ _ hP hD hS ls (lv_sub hl [1, 0] rfl)
/-! X1_add -/
theorem hs_X1_add : yX1_add.cls ≠ "java/lang/invoke/MethodHandle" ∧ yX1_add.cls ≠ "java/lang/invoke/VarHandle" ∧ (parseMethodDescriptor yX1_add.desc).map (fun d => d.parameters.length) = some 2 := by decide +kernel
theorem hd_X1_add : yX1_add.cls = RX1 ∧ yX1_add.cls ≠ "java/lang/invoke/MethodHandle" ∧ yX1_add.cls ≠ "java/lang/invoke/VarHandle" ∧ (parseMethodDescriptor yX1_add.desc).map (fun d => d.parameters.length) = some 2 := ⟨rfl, hs_X1_add⟩
def f_X1_add (xs : Nat → Int32) (ys : Nat → Int32) (lp : Nat → Int64) (lq : Nat → Int64) (lr : Nat → Int64) (v6 : Int32) (p1 : Int32) (p2 : Int32) : Int32 × (Nat → Int64) × (Nat → Int64) × (Nat → Int64) × Int32 := (if v6 < (12 : Int32) then (((v6 + (1 : Int32)) - (1 : Int32)), (vp_updL lp (Int32.toNatClampNeg v6) (Int32.toInt64 ((ys (Int32.toNatClampNeg p2)) - (ys (Int32.toNatClampNeg p1))))), (vp_updL lq (Int32.toNatClampNeg v6) (Int32.toInt64 ((xs (Int32.toNatClampNeg p1)) - (xs (Int32.toNatClampNeg p2))))), (vp_updL lr (Int32.toNatClampNeg v6) ((((vp_updL lp (Int32.toNatClampNeg v6) (Int32.toInt64 ((ys (Int32.toNatClampNeg p2)) - (ys (Int32.toNatClampNeg p1))))) (Int32.toNatClampNeg v6)) * (Int32.toInt64 (xs (Int32.toNatClampNeg p1)))) + (((vp_updL lq (Int32.toNatClampNeg v6) (Int32.toInt64 ((xs (Int32.toNatClampNeg p1)) - (xs (Int32.toNatClampNeg p2))))) (Int32.toNatClampNeg v6)) * (Int32.toInt64 (ys (Int32.toNatClampNeg p1)))))), (v6 + (1 : Int32))) else ((-3 : Int32), lp, lq, lr, v6))
abbrev rm_X1_add : Room := { frames := 0, cells := 0, slots := 0, locals := 0 }
set_option maxHeartbeats 8000000 in
set_option maxRecDepth 100000 in
theorem c_X1_add (l : Launch) (dC : Nat → ClassId) (dI : Nat → Nat → Nat) (a : Nat → Nat) (cI cJ : ClassId) (xs : Nat → Int32) (ys : Nat → Int32) (pl : Nat → Int32) (kp : Nat → Int32) (lp : Nat → Int64) (lq : Nat → Int64) (lr : Nat → Int64) (v0 : Int32) (v1 : Int32) (v2 : Int32) (v3 : Int32) (v4 : Int32) (v5 : Int32) (v6 : Int32) (v7 : Int32) (v8 : Int32) (v9 : Int32) (v10 : Int32) (p1 : Int32) (p2 : Int32) (hi1 : vp_in p1 60) (hi2 : vp_in p2 60) (hg : 0 ≤ v6) : Met l yX1_add (Cond.code yX1_add cX1_add 3 (some .int) :: lw_G) rm_X1_add (wPc (dC, dI) (tIJ cI cJ) (wC a cI cJ xs ys pl kp lp lq lr v0 v1 v2 v3 v4 v5 v6 v7 v8 v9 v10) [.ref (a 8), .int p1, .int p2]) (wQi (dC, dI) (wA (wC a cI cJ xs ys pl kp lp lq lr v0 v1 v2 v3 v4 v5 v6 v7 v8 v9 v10)) (wC a cI cJ xs ys pl kp ((f_X1_add xs ys lp lq lr v6 p1 p2).2.1) ((f_X1_add xs ys lp lq lr v6 p1 p2).2.2.1) ((f_X1_add xs ys lp lq lr v6 p1 p2).2.2.2.1) v0 v1 v2 v3 v4 v5 ((f_X1_add xs ys lp lq lr v6 p1 p2).2.2.2.2) v7 v8 v9 v10) (f_X1_add xs ys lp lq lr v6 p1 p2).1) 0 0 (wA (wC a cI cJ xs ys pl kp lp lq lr v0 v1 v2 v3 v4 v5 v6 v7 v8 v9 v10)) := by
  refine wm_of (by decide) (Nat.le_of_ble_eq_true rfl) ?_
  intro p e s m args below meth c Q ls hQ hx hb hr hlk hml hown hts hP hK hD hS hl
  have hown : s.vm.findClass RX1 = some m.cls := hown
  have hl : lv_has ls 3 [(0, .ref (a 8)), (1, .int p1), (2, .int p2)] := hl
  generalize hAe : wA (wC a cI cJ xs ys pl kp lp lq lr v0 v1 v2 v3 v4 v5 v6 v7 v8 v9 v10) = A at hQ hD hS
  refine lv_aload_n hx hb dX1_add_0 rfl (lv_at hl 0 rfl) ?_
  refine va_get (D := (dC, dI)) (ci := 5) (v := .int v6) (C := RX1) (T := TX1) (N := 10) hx hb hts (fun _ h => gI_wsX10 h) hown hK.1 hP 8 rfl rfl 4 (by decide) (hts _ mG_3_21) (fun _ h9 => h9) rfl dX1_add_1 ?_
  refine lv_bipush (v := (12 : Int32)) hx hb dX1_add_4 (by decide) ?_
  refine lv_icmp_lt (tgt := 12) hx hb dX1_add_6 (by decide) (fun c1 => ?_) (fun c1 => ?_)
  · skip
    have hJ : vp_in v6 12 := ixl12 hg c1
    refine lv_aload_n hx hb dX1_add_12 rfl (lv_at hl 0 rfl) ?_
    refine va_get (D := (dC, dI)) (ci := 5) (v := .ref (a 9)) (C := RX1) (T := TX1) (N := 10) hx hb hts (fun _ h => gI_wsX10 h) hown hK.1 hP 8 rfl rfl 1 (by decide) (hts _ mG_3_18) (fun _ h9 => h9) rfl dX1_add_13 ?_
    refine lv_aload_n hx hb dX1_add_16 rfl (lv_at hl 0 rfl) ?_
    refine va_get (D := (dC, dI)) (ci := 5) (v := .int v6) (C := RX1) (T := TX1) (N := 10) hx hb hts (fun _ h => gI_wsX10 h) hown hK.1 hP 8 rfl rfl 4 (by decide) (hts _ mG_3_21) (fun _ h9 => h9) rfl dX1_add_17 ?_
    refine lv_aload_n hx hb dX1_add_20 rfl (lv_at hl 0 rfl) ?_
    refine va_get (D := (dC, dI)) (ci := 5) (v := .ref (a 1)) (C := RX1) (T := TX1) (N := 10) hx hb hts (fun _ h => gI_wsX10 h) hown hK.1 hP 8 rfl rfl 0 (by decide) (hts _ mG_4_3) (fun _ h9 => h9) rfl dX1_add_21 ?_
    refine va_get (D := (dC, dI)) (ci := 6) (v := .ref (a 3)) (C := RX2) (T := TX2) (N := 3) hx hb hts (fun _ h => gI_wsX20 h) hown hK.1 hP 1 rfl rfl 1 (by decide) (hts _ mG_27_16) (fun _ h9 => h9) rfl dX1_add_24 ?_
    refine lv_iload_n hx hb dX1_add_27 rfl (lv_at hl 2 rfl) ?_
    refine va_iald hx hb hK.1 hP 3 0 rfl rfl (by first | with_reducible assumption | exact in0_24 | exact in0_60 | decide) dX1_add_28 ?_
    refine lv_aload_n hx hb dX1_add_29 rfl (lv_at hl 0 rfl) ?_
    refine va_get (D := (dC, dI)) (ci := 5) (v := .ref (a 1)) (C := RX1) (T := TX1) (N := 10) hx hb hts (fun _ h => gI_wsX10 h) hown hK.1 hP 8 rfl rfl 0 (by decide) (hts _ mG_4_3) (fun _ h9 => h9) rfl dX1_add_30 ?_
    refine va_get (D := (dC, dI)) (ci := 6) (v := .ref (a 3)) (C := RX2) (T := TX2) (N := 3) hx hb hts (fun _ h => gI_wsX20 h) hown hK.1 hP 1 rfl rfl 1 (by decide) (hts _ mG_27_16) (fun _ h9 => h9) rfl dX1_add_33 ?_
    refine lv_iload_n hx hb dX1_add_36 rfl (lv_at hl 1 rfl) ?_
    refine va_iald hx hb hK.1 hP 3 0 rfl rfl (by first | with_reducible assumption | exact in0_24 | exact in0_60 | decide) dX1_add_37 ?_
    refine lv_isub hx hb dX1_add_38 ?_
    refine lv_i2l hx hb dX1_add_39 rfl ?_
    refine lv_topl (fun y2 ey2 => ?_)
    refine va_last hx hb hK.1 hP hD hS 9 1 rfl rfl (by first | with_reducible assumption | exact in0_24 | exact in0_60 | decide) dX1_add_40 (fun H locs hP hD hS => ?_)
    have hP : va_P (dC, dI) vwCl (wC a cI cJ xs ys pl kp (vp_updL lp (Int32.toNatClampNeg v6) y2) lq lr v0 v1 v2 v3 v4 v5 v6 v7 v8 v9 v10) H := hP
    have hD : va_D A (wC a cI cJ xs ys pl kp (vp_updL lp (Int32.toNatClampNeg v6) y2) lq lr v0 v1 v2 v3 v4 v5 v6 v7 v8 v9 v10) := hD
    refine lv_aload_n hx hb dX1_add_41 rfl (lv_at hl 0 rfl) ?_
    refine va_get (D := (dC, dI)) (ci := 5) (v := .ref (a 10)) (C := RX1) (T := TX1) (N := 10) hx hb hts (fun _ h => gI_wsX10 h) hown hK.1 hP 8 rfl rfl 2 (by decide) (hts _ mG_3_19) (fun _ h9 => h9) rfl dX1_add_42 ?_
    refine lv_aload_n hx hb dX1_add_45 rfl (lv_at hl 0 rfl) ?_
    refine va_get (D := (dC, dI)) (ci := 5) (v := .int v6) (C := RX1) (T := TX1) (N := 10) hx hb hts (fun _ h => gI_wsX10 h) hown hK.1 hP 8 rfl rfl 4 (by decide) (hts _ mG_3_21) (fun _ h9 => h9) rfl dX1_add_46 ?_
    refine lv_aload_n hx hb dX1_add_49 rfl (lv_at hl 0 rfl) ?_
    refine va_get (D := (dC, dI)) (ci := 5) (v := .ref (a 1)) (C := RX1) (T := TX1) (N := 10) hx hb hts (fun _ h => gI_wsX10 h) hown hK.1 hP 8 rfl rfl 0 (by decide) (hts _ mG_4_3) (fun _ h9 => h9) rfl dX1_add_50 ?_
    refine va_get (D := (dC, dI)) (ci := 6) (v := .ref (a 2)) (C := RX2) (T := TX2) (N := 3) hx hb hts (fun _ h => gI_wsX20 h) hown hK.1 hP 1 rfl rfl 0 (by decide) (hts _ mG_27_17) (fun _ h9 => h9) rfl dX1_add_53 ?_
    refine lv_iload_n hx hb dX1_add_56 rfl (lv_at hl 1 rfl) ?_
    refine va_iald hx hb hK.1 hP 2 0 rfl rfl (by first | with_reducible assumption | exact in0_24 | exact in0_60 | decide) dX1_add_57 ?_
    refine lv_aload_n hx hb dX1_add_58 rfl (lv_at hl 0 rfl) ?_
    refine va_get (D := (dC, dI)) (ci := 5) (v := .ref (a 1)) (C := RX1) (T := TX1) (N := 10) hx hb hts (fun _ h => gI_wsX10 h) hown hK.1 hP 8 rfl rfl 0 (by decide) (hts _ mG_4_3) (fun _ h9 => h9) rfl dX1_add_59 ?_
    refine va_get (D := (dC, dI)) (ci := 6) (v := .ref (a 2)) (C := RX2) (T := TX2) (N := 3) hx hb hts (fun _ h => gI_wsX20 h) hown hK.1 hP 1 rfl rfl 0 (by decide) (hts _ mG_27_17) (fun _ h9 => h9) rfl dX1_add_62 ?_
    refine lv_iload_n hx hb dX1_add_65 rfl (lv_at hl 2 rfl) ?_
    refine va_iald hx hb hK.1 hP 2 0 rfl rfl (by first | with_reducible assumption | exact in0_24 | exact in0_60 | decide) dX1_add_66 ?_
    refine lv_isub hx hb dX1_add_67 ?_
    refine lv_i2l hx hb dX1_add_68 rfl ?_
    refine lv_topl (fun y3 ey3 => ?_)
    refine va_last hx hb hK.1 hP hD hS 10 1 rfl rfl (by first | with_reducible assumption | exact in0_24 | exact in0_60 | decide) dX1_add_69 (fun H locs hP hD hS => ?_)
    have hP : va_P (dC, dI) vwCl (wC a cI cJ xs ys pl kp (vp_updL lp (Int32.toNatClampNeg v6) y2) (vp_updL lq (Int32.toNatClampNeg v6) y3) lr v0 v1 v2 v3 v4 v5 v6 v7 v8 v9 v10) H := hP
    have hD : va_D A (wC a cI cJ xs ys pl kp (vp_updL lp (Int32.toNatClampNeg v6) y2) (vp_updL lq (Int32.toNatClampNeg v6) y3) lr v0 v1 v2 v3 v4 v5 v6 v7 v8 v9 v10) := hD
    refine lv_aload_n hx hb dX1_add_70 rfl (lv_at hl 0 rfl) ?_
    refine va_get (D := (dC, dI)) (ci := 5) (v := .ref (a 11)) (C := RX1) (T := TX1) (N := 10) hx hb hts (fun _ h => gI_wsX10 h) hown hK.1 hP 8 rfl rfl 3 (by decide) (hts _ mG_3_20) (fun _ h9 => h9) rfl dX1_add_71 ?_
    refine lv_aload_n hx hb dX1_add_74 rfl (lv_at hl 0 rfl) ?_
    refine va_get (D := (dC, dI)) (ci := 5) (v := .int v6) (C := RX1) (T := TX1) (N := 10) hx hb hts (fun _ h => gI_wsX10 h) hown hK.1 hP 8 rfl rfl 4 (by decide) (hts _ mG_3_21) (fun _ h9 => h9) rfl dX1_add_75 ?_
    refine lv_aload_n hx hb dX1_add_78 rfl (lv_at hl 0 rfl) ?_
    refine va_get (D := (dC, dI)) (ci := 5) (v := .ref (a 9)) (C := RX1) (T := TX1) (N := 10) hx hb hts (fun _ h => gI_wsX10 h) hown hK.1 hP 8 rfl rfl 1 (by decide) (hts _ mG_3_18) (fun _ h9 => h9) rfl dX1_add_79 ?_
    refine lv_aload_n hx hb dX1_add_82 rfl (lv_at hl 0 rfl) ?_
    refine va_get (D := (dC, dI)) (ci := 5) (v := .int v6) (C := RX1) (T := TX1) (N := 10) hx hb hts (fun _ h => gI_wsX10 h) hown hK.1 hP 8 rfl rfl 4 (by decide) (hts _ mG_3_21) (fun _ h9 => h9) rfl dX1_add_83 ?_
    refine va_lald hx hb hK.1 hP 9 1 rfl rfl (by first | with_reducible assumption | exact in0_24 | exact in0_60 | decide) dX1_add_86 ?_
    refine lv_aload_n hx hb dX1_add_87 rfl (lv_at hl 0 rfl) ?_
    refine va_get (D := (dC, dI)) (ci := 5) (v := .ref (a 1)) (C := RX1) (T := TX1) (N := 10) hx hb hts (fun _ h => gI_wsX10 h) hown hK.1 hP 8 rfl rfl 0 (by decide) (hts _ mG_4_3) (fun _ h9 => h9) rfl dX1_add_88 ?_
    refine va_get (D := (dC, dI)) (ci := 6) (v := .ref (a 2)) (C := RX2) (T := TX2) (N := 3) hx hb hts (fun _ h => gI_wsX20 h) hown hK.1 hP 1 rfl rfl 0 (by decide) (hts _ mG_27_17) (fun _ h9 => h9) rfl dX1_add_91 ?_
    refine lv_iload_n hx hb dX1_add_94 rfl (lv_at hl 1 rfl) ?_
    refine va_iald hx hb hK.1 hP 2 0 rfl rfl (by first | with_reducible assumption | exact in0_24 | exact in0_60 | decide) dX1_add_95 ?_
    refine lv_i2l hx hb dX1_add_96 rfl ?_
    refine lv_lmul hx hb dX1_add_97 ?_
    refine lv_aload_n hx hb dX1_add_98 rfl (lv_at hl 0 rfl) ?_
    refine va_get (D := (dC, dI)) (ci := 5) (v := .ref (a 10)) (C := RX1) (T := TX1) (N := 10) hx hb hts (fun _ h => gI_wsX10 h) hown hK.1 hP 8 rfl rfl 2 (by decide) (hts _ mG_3_19) (fun _ h9 => h9) rfl dX1_add_99 ?_
    refine lv_aload_n hx hb dX1_add_102 rfl (lv_at hl 0 rfl) ?_
    refine va_get (D := (dC, dI)) (ci := 5) (v := .int v6) (C := RX1) (T := TX1) (N := 10) hx hb hts (fun _ h => gI_wsX10 h) hown hK.1 hP 8 rfl rfl 4 (by decide) (hts _ mG_3_21) (fun _ h9 => h9) rfl dX1_add_103 ?_
    refine va_lald hx hb hK.1 hP 10 1 rfl rfl (by first | with_reducible assumption | exact in0_24 | exact in0_60 | decide) dX1_add_106 ?_
    refine lv_aload_n hx hb dX1_add_107 rfl (lv_at hl 0 rfl) ?_
    refine va_get (D := (dC, dI)) (ci := 5) (v := .ref (a 1)) (C := RX1) (T := TX1) (N := 10) hx hb hts (fun _ h => gI_wsX10 h) hown hK.1 hP 8 rfl rfl 0 (by decide) (hts _ mG_4_3) (fun _ h9 => h9) rfl dX1_add_108 ?_
    refine va_get (D := (dC, dI)) (ci := 6) (v := .ref (a 3)) (C := RX2) (T := TX2) (N := 3) hx hb hts (fun _ h => gI_wsX20 h) hown hK.1 hP 1 rfl rfl 1 (by decide) (hts _ mG_27_16) (fun _ h9 => h9) rfl dX1_add_111 ?_
    refine lv_iload_n hx hb dX1_add_114 rfl (lv_at hl 1 rfl) ?_
    refine va_iald hx hb hK.1 hP 3 0 rfl rfl (by first | with_reducible assumption | exact in0_24 | exact in0_60 | decide) dX1_add_115 ?_
    refine lv_i2l hx hb dX1_add_116 rfl ?_
    refine lv_lmul hx hb dX1_add_117 ?_
    refine lv_ladd hx hb dX1_add_118 ?_
    refine lv_topl (fun y4 ey4 => ?_)
    refine va_last hx hb hK.1 hP hD hS 11 1 rfl rfl (by first | with_reducible assumption | exact in0_24 | exact in0_60 | decide) dX1_add_119 (fun H locs hP hD hS => ?_)
    have hP : va_P (dC, dI) vwCl (wC a cI cJ xs ys pl kp (vp_updL lp (Int32.toNatClampNeg v6) y2) (vp_updL lq (Int32.toNatClampNeg v6) y3) (vp_updL lr (Int32.toNatClampNeg v6) y4) v0 v1 v2 v3 v4 v5 v6 v7 v8 v9 v10) H := hP
    have hD : va_D A (wC a cI cJ xs ys pl kp (vp_updL lp (Int32.toNatClampNeg v6) y2) (vp_updL lq (Int32.toNatClampNeg v6) y3) (vp_updL lr (Int32.toNatClampNeg v6) y4) v0 v1 v2 v3 v4 v5 v6 v7 v8 v9 v10) := hD
    refine lv_aload_n hx hb dX1_add_120 rfl (lv_at hl 0 rfl) ?_
    refine lv_dup hx hb dX1_add_121 rfl ?_
    refine va_get (D := (dC, dI)) (ci := 5) (v := .int v6) (C := RX1) (T := TX1) (N := 10) hx hb hts (fun _ h => gI_wsX10 h) hown hK.1 hP 8 rfl rfl 4 (by decide) (hts _ mG_3_21) (fun _ h9 => h9) rfl dX1_add_122 ?_
    refine lv_iconst (v := (1 : Int32)) hx hb dX1_add_125 (by decide) ?_
    refine lv_iadd hx hb dX1_add_126 ?_
    refine lv_topi (fun y5 ey5 => ?_)
    refine va_put (D := (dC, dI)) (ci := 5) (v := .int y5) (ty := .int) (C := RX1) (T := TX1) (N := 10) hx hb hts (fun _ h => gI_wsX10 h) tyX1 tyX1_ok nmX1 hown hK.1 hP hD hS 8 rfl rfl 4 (by decide) (hts _ mG_3_21) (fun _ h9 => h9) rfl (by decide +kernel) rfl rfl (Nat.le_of_ble_eq_true rfl) dX1_add_127 (fun H locs hP hD hS => ?_)
    have hP : va_P (dC, dI) vwCl (wC a cI cJ xs ys pl kp (vp_updL lp (Int32.toNatClampNeg v6) y2) (vp_updL lq (Int32.toNatClampNeg v6) y3) (vp_updL lr (Int32.toNatClampNeg v6) y4) v0 v1 v2 v3 v4 v5 y5 v7 v8 v9 v10) H := hP
    have hD : va_D A (wC a cI cJ xs ys pl kp (vp_updL lp (Int32.toNatClampNeg v6) y2) (vp_updL lq (Int32.toNatClampNeg v6) y3) (vp_updL lr (Int32.toNatClampNeg v6) y4) v0 v1 v2 v3 v4 v5 y5 v7 v8 v9 v10) := hD
    refine lv_aload_n hx hb dX1_add_130 rfl (lv_at hl 0 rfl) ?_
    refine va_get (D := (dC, dI)) (ci := 5) (v := .int y5) (C := RX1) (T := TX1) (N := 10) hx hb hts (fun _ h => gI_wsX10 h) hown hK.1 hP 8 rfl rfl 4 (by decide) (hts _ mG_3_21) (fun _ h9 => h9) rfl dX1_add_131 ?_
    refine lv_iconst (v := (1 : Int32)) hx hb dX1_add_134 (by decide) ?_
    refine lv_isub hx hb dX1_add_135 ?_
    have hE : (f_X1_add xs ys lp lq lr v6 p1 p2) = ((y5 - (1 : Int32)), (vp_updL lp (Int32.toNatClampNeg v6) y2), (vp_updL lq (Int32.toNatClampNeg v6) y3), (vp_updL lr (Int32.toNatClampNeg v6) y4), y5) := (by subst ey2; subst ey3; subst ey4; subst ey5; simp only [f_X1_add, if_pos c1])
    exact rw_i hQ hx hb hr hlk (by rw [hE]; exact hP) hS (by rw [hE]) dX1_add_136
  · skip
    refine lv_bipush (v := (-3 : Int32)) hx hb dX1_add_9 (by decide) ?_
    have hE : (f_X1_add xs ys lp lq lr v6 p1 p2) = ((-3 : Int32), lp, lq, lr, v6) := (by simp only [f_X1_add, if_neg c1])
    exact rw_i hQ hx hb hr hlk (by rw [hE]; exact hP) hS (by rw [hE]) dX1_add_11
/-! X2_add -/
theorem hs_X2_add : yX2_add.cls ≠ "java/lang/invoke/MethodHandle" ∧ yX2_add.cls ≠ "java/lang/invoke/VarHandle" ∧ (parseMethodDescriptor yX2_add.desc).map (fun d => d.parameters.length) = some 2 := by decide +kernel
theorem hd_X2_add : yX2_add.cls = RX2 ∧ yX2_add.cls ≠ "java/lang/invoke/MethodHandle" ∧ yX2_add.cls ≠ "java/lang/invoke/VarHandle" ∧ (parseMethodDescriptor yX2_add.desc).map (fun d => d.parameters.length) = some 2 := ⟨rfl, hs_X2_add⟩
def f_X2_add (xs : Nat → Int32) (ys : Nat → Int32) (v0 : Int32) (p1 : Int32) (p2 : Int32) : Int32 × (Nat → Int32) × (Nat → Int32) × Int32 := (if v0 < (60 : Int32) then (((v0 + (1 : Int32)) - (1 : Int32)), (upd xs (Int32.toNatClampNeg v0) p1), (upd ys (Int32.toNatClampNeg v0) p2), (v0 + (1 : Int32))) else ((-3 : Int32), xs, ys, v0))
abbrev rm_X2_add : Room := { frames := 0, cells := 0, slots := 0, locals := 0 }
set_option maxHeartbeats 8000000 in
set_option maxRecDepth 100000 in
theorem c_X2_add (l : Launch) (dC : Nat → ClassId) (dI : Nat → Nat → Nat) (a : Nat → Nat) (cI cJ : ClassId) (xs : Nat → Int32) (ys : Nat → Int32) (pl : Nat → Int32) (kp : Nat → Int32) (lp : Nat → Int64) (lq : Nat → Int64) (lr : Nat → Int64) (v0 : Int32) (v1 : Int32) (v2 : Int32) (v3 : Int32) (v4 : Int32) (v5 : Int32) (v6 : Int32) (v7 : Int32) (v8 : Int32) (v9 : Int32) (v10 : Int32) (p1 : Int32) (p2 : Int32) (hg : 0 ≤ v0) : Met l yX2_add (Cond.code yX2_add cX2_add 3 (some .int) :: lw_G) rm_X2_add (wPc (dC, dI) (tIJ cI cJ) (wC a cI cJ xs ys pl kp lp lq lr v0 v1 v2 v3 v4 v5 v6 v7 v8 v9 v10) [.ref (a 1), .int p1, .int p2]) (wQi (dC, dI) (wA (wC a cI cJ xs ys pl kp lp lq lr v0 v1 v2 v3 v4 v5 v6 v7 v8 v9 v10)) (wC a cI cJ ((f_X2_add xs ys v0 p1 p2).2.1) ((f_X2_add xs ys v0 p1 p2).2.2.1) pl kp lp lq lr ((f_X2_add xs ys v0 p1 p2).2.2.2) v1 v2 v3 v4 v5 v6 v7 v8 v9 v10) (f_X2_add xs ys v0 p1 p2).1) 0 0 (wA (wC a cI cJ xs ys pl kp lp lq lr v0 v1 v2 v3 v4 v5 v6 v7 v8 v9 v10)) := by
  refine wm_of (by decide) (Nat.le_of_ble_eq_true rfl) ?_
  intro p e s m args below meth c Q ls hQ hx hb hr hlk hml hown hts hP hK hD hS hl
  have hown : s.vm.findClass RX2 = some m.cls := hown
  have hl : lv_has ls 3 [(0, .ref (a 1)), (1, .int p1), (2, .int p2)] := hl
  generalize hAe : wA (wC a cI cJ xs ys pl kp lp lq lr v0 v1 v2 v3 v4 v5 v6 v7 v8 v9 v10) = A at hQ hD hS
  refine lv_aload_n hx hb dX2_add_0 rfl (lv_at hl 0 rfl) ?_
  refine va_get (D := (dC, dI)) (ci := 6) (v := .int v0) (C := RX2) (T := TX2) (N := 3) hx hb hts (fun _ h => gI_wsX20 h) hown hK.1 hP 1 rfl rfl 2 (by decide) (hts _ mG_2_16) (fun _ h9 => h9) rfl dX2_add_1 ?_
  refine lv_bipush (v := (60 : Int32)) hx hb dX2_add_4 (by decide) ?_
  refine lv_icmp_lt (tgt := 12) hx hb dX2_add_6 (by decide) (fun c1 => ?_) (fun c1 => ?_)
  · skip
    have hJ : vp_in v0 60 := ixl60 hg c1
    refine lv_aload_n hx hb dX2_add_12 rfl (lv_at hl 0 rfl) ?_
    refine va_get (D := (dC, dI)) (ci := 6) (v := .ref (a 2)) (C := RX2) (T := TX2) (N := 3) hx hb hts (fun _ h => gI_wsX20 h) hown hK.1 hP 1 rfl rfl 0 (by decide) (hts _ mG_2_14) (fun _ h9 => h9) rfl dX2_add_13 ?_
    refine lv_aload_n hx hb dX2_add_16 rfl (lv_at hl 0 rfl) ?_
    refine va_get (D := (dC, dI)) (ci := 6) (v := .int v0) (C := RX2) (T := TX2) (N := 3) hx hb hts (fun _ h => gI_wsX20 h) hown hK.1 hP 1 rfl rfl 2 (by decide) (hts _ mG_2_16) (fun _ h9 => h9) rfl dX2_add_17 ?_
    refine lv_iload_n hx hb dX2_add_20 rfl (lv_at hl 1 rfl) ?_
    refine va_iast hx hb hK.1 hP hD hS 2 0 rfl rfl (by first | with_reducible assumption | exact in0_24 | exact in0_60 | decide) dX2_add_21 (fun H locs hP hD hS => ?_)
    have hP : va_P (dC, dI) vwCl (wC a cI cJ (upd xs (Int32.toNatClampNeg v0) p1) ys pl kp lp lq lr v0 v1 v2 v3 v4 v5 v6 v7 v8 v9 v10) H := hP
    have hD : va_D A (wC a cI cJ (upd xs (Int32.toNatClampNeg v0) p1) ys pl kp lp lq lr v0 v1 v2 v3 v4 v5 v6 v7 v8 v9 v10) := hD
    refine lv_aload_n hx hb dX2_add_22 rfl (lv_at hl 0 rfl) ?_
    refine va_get (D := (dC, dI)) (ci := 6) (v := .ref (a 3)) (C := RX2) (T := TX2) (N := 3) hx hb hts (fun _ h => gI_wsX20 h) hown hK.1 hP 1 rfl rfl 1 (by decide) (hts _ mG_2_15) (fun _ h9 => h9) rfl dX2_add_23 ?_
    refine lv_aload_n hx hb dX2_add_26 rfl (lv_at hl 0 rfl) ?_
    refine va_get (D := (dC, dI)) (ci := 6) (v := .int v0) (C := RX2) (T := TX2) (N := 3) hx hb hts (fun _ h => gI_wsX20 h) hown hK.1 hP 1 rfl rfl 2 (by decide) (hts _ mG_2_16) (fun _ h9 => h9) rfl dX2_add_27 ?_
    refine lv_iload_n hx hb dX2_add_30 rfl (lv_at hl 2 rfl) ?_
    refine va_iast hx hb hK.1 hP hD hS 3 0 rfl rfl (by first | with_reducible assumption | exact in0_24 | exact in0_60 | decide) dX2_add_31 (fun H locs hP hD hS => ?_)
    have hP : va_P (dC, dI) vwCl (wC a cI cJ (upd xs (Int32.toNatClampNeg v0) p1) (upd ys (Int32.toNatClampNeg v0) p2) pl kp lp lq lr v0 v1 v2 v3 v4 v5 v6 v7 v8 v9 v10) H := hP
    have hD : va_D A (wC a cI cJ (upd xs (Int32.toNatClampNeg v0) p1) (upd ys (Int32.toNatClampNeg v0) p2) pl kp lp lq lr v0 v1 v2 v3 v4 v5 v6 v7 v8 v9 v10) := hD
    refine lv_aload_n hx hb dX2_add_32 rfl (lv_at hl 0 rfl) ?_
    refine lv_dup hx hb dX2_add_33 rfl ?_
    refine va_get (D := (dC, dI)) (ci := 6) (v := .int v0) (C := RX2) (T := TX2) (N := 3) hx hb hts (fun _ h => gI_wsX20 h) hown hK.1 hP 1 rfl rfl 2 (by decide) (hts _ mG_2_16) (fun _ h9 => h9) rfl dX2_add_34 ?_
    refine lv_iconst (v := (1 : Int32)) hx hb dX2_add_37 (by decide) ?_
    refine lv_iadd hx hb dX2_add_38 ?_
    refine lv_topi (fun y2 ey2 => ?_)
    refine va_put (D := (dC, dI)) (ci := 6) (v := .int y2) (ty := .int) (C := RX2) (T := TX2) (N := 3) hx hb hts (fun _ h => gI_wsX20 h) tyX2 tyX2_ok nmX2 hown hK.1 hP hD hS 1 rfl rfl 2 (by decide) (hts _ mG_2_16) (fun _ h9 => h9) rfl (by decide +kernel) rfl rfl (Nat.le_of_ble_eq_true rfl) dX2_add_39 (fun H locs hP hD hS => ?_)
    have hP : va_P (dC, dI) vwCl (wC a cI cJ (upd xs (Int32.toNatClampNeg v0) p1) (upd ys (Int32.toNatClampNeg v0) p2) pl kp lp lq lr y2 v1 v2 v3 v4 v5 v6 v7 v8 v9 v10) H := hP
    have hD : va_D A (wC a cI cJ (upd xs (Int32.toNatClampNeg v0) p1) (upd ys (Int32.toNatClampNeg v0) p2) pl kp lp lq lr y2 v1 v2 v3 v4 v5 v6 v7 v8 v9 v10) := hD
    refine lv_aload_n hx hb dX2_add_42 rfl (lv_at hl 0 rfl) ?_
    refine va_get (D := (dC, dI)) (ci := 6) (v := .int y2) (C := RX2) (T := TX2) (N := 3) hx hb hts (fun _ h => gI_wsX20 h) hown hK.1 hP 1 rfl rfl 2 (by decide) (hts _ mG_2_16) (fun _ h9 => h9) rfl dX2_add_43 ?_
    refine lv_iconst (v := (1 : Int32)) hx hb dX2_add_46 (by decide) ?_
    refine lv_isub hx hb dX2_add_47 ?_
    have hE : (f_X2_add xs ys v0 p1 p2) = ((y2 - (1 : Int32)), (upd xs (Int32.toNatClampNeg v0) p1), (upd ys (Int32.toNatClampNeg v0) p2), y2) := (by subst ey2; simp only [f_X2_add, if_pos c1])
    exact rw_i hQ hx hb hr hlk (by rw [hE]; exact hP) hS (by rw [hE]) dX2_add_48
  · skip
    refine lv_bipush (v := (-3 : Int32)) hx hb dX2_add_9 (by decide) ?_
    have hE : (f_X2_add xs ys v0 p1 p2) = ((-3 : Int32), xs, ys, v0) := (by simp only [f_X2_add, if_neg c1])
    exact rw_i hQ hx hb hr hlk (by rw [hE]; exact hP) hS (by rw [hE]) dX2_add_11
/-! X4_put -/
theorem hs_X4_put : yX4_put.cls ≠ "java/lang/invoke/MethodHandle" ∧ yX4_put.cls ≠ "java/lang/invoke/VarHandle" ∧ (parseMethodDescriptor yX4_put.desc).map (fun d => d.parameters.length) = some 2 := by decide +kernel
theorem hd_X4_put : yX4_put.cls = RX4 ∧ yX4_put.cls ≠ "java/lang/invoke/MethodHandle" ∧ yX4_put.cls ≠ "java/lang/invoke/VarHandle" ∧ (parseMethodDescriptor yX4_put.desc).map (fun d => d.parameters.length) = some 2 := ⟨rfl, hs_X4_put⟩
def f_X4_put (pl : Nat → Int32) (p1 : Int32) (p2 : Int32) : Int32 × (Nat → Int32) := ((pl (Int32.toNatClampNeg p1)), (upd pl (Int32.toNatClampNeg p1) p2))
abbrev rm_X4_put : Room := { frames := 0, cells := 0, slots := 0, locals := 0 }
set_option maxHeartbeats 8000000 in
set_option maxRecDepth 100000 in
theorem c_X4_put (l : Launch) (dC : Nat → ClassId) (dI : Nat → Nat → Nat) (a : Nat → Nat) (cI cJ : ClassId) (xs : Nat → Int32) (ys : Nat → Int32) (pl : Nat → Int32) (kp : Nat → Int32) (lp : Nat → Int64) (lq : Nat → Int64) (lr : Nat → Int64) (v0 : Int32) (v1 : Int32) (v2 : Int32) (v3 : Int32) (v4 : Int32) (v5 : Int32) (v6 : Int32) (v7 : Int32) (v8 : Int32) (v9 : Int32) (v10 : Int32) (p1 : Int32) (p2 : Int32) (hi : vp_in p1 24) : Met l yX4_put (Cond.code yX4_put cX4_put 4 (some .int) :: lw_G) rm_X4_put (wPc (dC, dI) (tIJ cI cJ) (wC a cI cJ xs ys pl kp lp lq lr v0 v1 v2 v3 v4 v5 v6 v7 v8 v9 v10) [.ref (a 6), .int p1, .int p2]) (wQi (dC, dI) (wA (wC a cI cJ xs ys pl kp lp lq lr v0 v1 v2 v3 v4 v5 v6 v7 v8 v9 v10)) (wC a cI cJ xs ys ((f_X4_put pl p1 p2).2) kp lp lq lr v0 v1 v2 v3 v4 v5 v6 v7 v8 v9 v10) (f_X4_put pl p1 p2).1) 0 0 (wA (wC a cI cJ xs ys pl kp lp lq lr v0 v1 v2 v3 v4 v5 v6 v7 v8 v9 v10)) := by
  refine wm_of (by decide) (Nat.le_of_ble_eq_true rfl) ?_
  intro p e s m args below meth c Q ls hQ hx hb hr hlk hml hown hts hP hK hD hS hl
  have hown : s.vm.findClass RX4 = some m.cls := hown
  have hl : lv_has ls 4 [(0, .ref (a 6)), (1, .int p1), (2, .int p2)] := hl
  generalize hAe : wA (wC a cI cJ xs ys pl kp lp lq lr v0 v1 v2 v3 v4 v5 v6 v7 v8 v9 v10) = A at hQ hD hS
  refine lv_aload_n hx hb dX4_put_0 rfl (lv_at hl 0 rfl) ?_
  refine va_get (D := (dC, dI)) (ci := 8) (v := .ref (a 7)) (C := RX4) (T := TX4) (N := 3) hx hb hts (fun _ h => gI_wsX40 h) hown hK.1 hP 6 rfl rfl 1 (by decide) (hts _ mG_3_11) (fun _ h9 => h9) rfl dX4_put_1 ?_
  refine lv_iload_n hx hb dX4_put_4 rfl (lv_at hl 1 rfl) ?_
  refine va_iald hx hb hK.1 hP 7 0 rfl rfl (by first | with_reducible assumption | exact in0_24 | exact in0_60 | decide) dX4_put_5 ?_
  refine lv_topi (fun y1 ey1 => ?_)
  refine lv_istore_n (lv' := [(3, .int y1), (0, .ref (a 6)), (1, .int p1), (2, .int p2)]) hx hb dX4_put_6 rfl hl (by decide) rfl (fun ls hl => ?_)
  refine lv_aload_n hx hb dX4_put_7 rfl (lv_at hl 1 rfl) ?_
  refine va_get (D := (dC, dI)) (ci := 8) (v := .ref (a 7)) (C := RX4) (T := TX4) (N := 3) hx hb hts (fun _ h => gI_wsX40 h) hown hK.1 hP 6 rfl rfl 1 (by decide) (hts _ mG_3_11) (fun _ h9 => h9) rfl dX4_put_8 ?_
  refine lv_iload_n hx hb dX4_put_11 rfl (lv_at hl 2 rfl) ?_
  refine lv_iload_n hx hb dX4_put_12 rfl (lv_at hl 3 rfl) ?_
  refine va_iast hx hb hK.1 hP hD hS 7 0 rfl rfl (by first | with_reducible assumption | exact in0_24 | exact in0_60 | decide) dX4_put_13 (fun H locs hP hD hS => ?_)
  have hP : va_P (dC, dI) vwCl (wC a cI cJ xs ys (upd pl (Int32.toNatClampNeg p1) p2) kp lp lq lr v0 v1 v2 v3 v4 v5 v6 v7 v8 v9 v10) H := hP
  have hD : va_D A (wC a cI cJ xs ys (upd pl (Int32.toNatClampNeg p1) p2) kp lp lq lr v0 v1 v2 v3 v4 v5 v6 v7 v8 v9 v10) := hD
  refine lv_iload_n hx hb dX4_put_14 rfl (lv_at hl 0 rfl) ?_
  have hE : (f_X4_put pl p1 p2) = (y1, (upd pl (Int32.toNatClampNeg p1) p2)) := (by subst ey1; simp only [f_X4_put])
  exact rw_i hQ hx hb hr hlk (by rw [hE]; exact hP) hS (by rw [hE]) dX4_put_15
/-! X4_resize -/
theorem hs_X4_resize : yX4_resize.cls ≠ "java/lang/invoke/MethodHandle" ∧ yX4_resize.cls ≠ "java/lang/invoke/VarHandle" ∧ (parseMethodDescriptor yX4_resize.desc).map (fun d => d.parameters.length) = some 1 := by decide +kernel
theorem hd_X4_resize : yX4_resize.cls = RX4 ∧ yX4_resize.cls ≠ "java/lang/invoke/MethodHandle" ∧ yX4_resize.cls ≠ "java/lang/invoke/VarHandle" ∧ (parseMethodDescriptor yX4_resize.desc).map (fun d => d.parameters.length) = some 1 := ⟨rfl, hs_X4_resize⟩
def f_X4_resize_L7 (pl : Nat → Int32) (v5 : Int32) (p1 : Int32) (v5 : Int32) : Nat → Int32 → (Nat → Int32) → (Int32 × (Nat → Int32) × Int32)
  | 0, _, _ => (0, fun _ => 0, 0)
  | n + 1, x3_7, pl_7 => (if (24 : Int32) ≤ x3_7 then (v5, pl_7, p1) else (f_X4_resize_L7 pl v5 p1 v5 n (x3_7 + 1) (upd pl_7 (Int32.toNatClampNeg x3_7) (-1 : Int32))))
def f_X4_resize (pl : Nat → Int32) (v5 : Int32) (p1 : Int32) : Int32 × (Nat → Int32) × Int32 := (f_X4_resize_L7 pl v5 p1 v5 25 (0 : Int32) pl)
abbrev rm_X4_resize : Room := { frames := 0, cells := 0, slots := 0, locals := 0 }
set_option maxHeartbeats 8000000 in
set_option maxRecDepth 100000 in
theorem c_X4_resize (l : Launch) (dC : Nat → ClassId) (dI : Nat → Nat → Nat) (a : Nat → Nat) (cI cJ : ClassId) (xs : Nat → Int32) (ys : Nat → Int32) (pl : Nat → Int32) (kp : Nat → Int32) (lp : Nat → Int64) (lq : Nat → Int64) (lr : Nat → Int64) (v0 : Int32) (v1 : Int32) (v2 : Int32) (v3 : Int32) (v4 : Int32) (v5 : Int32) (v6 : Int32) (v7 : Int32) (v8 : Int32) (v9 : Int32) (v10 : Int32) (p1 : Int32) : Met l yX4_resize (Cond.code yX4_resize cX4_resize 4 (some .int) :: lw_G) rm_X4_resize (wPc (dC, dI) (tIJ cI cJ) (wC a cI cJ xs ys pl kp lp lq lr v0 v1 v2 v3 v4 v5 v6 v7 v8 v9 v10) [.ref (a 6), .int p1]) (wQi (dC, dI) (wA (wC a cI cJ xs ys pl kp lp lq lr v0 v1 v2 v3 v4 v5 v6 v7 v8 v9 v10)) (wC a cI cJ xs ys ((f_X4_resize pl v5 p1).2.1) kp lp lq lr v0 v1 v2 v3 v4 ((f_X4_resize pl v5 p1).2.2) v6 v7 v8 v9 v10) (f_X4_resize pl v5 p1).1) 0 0 (wA (wC a cI cJ xs ys pl kp lp lq lr v0 v1 v2 v3 v4 v5 v6 v7 v8 v9 v10)) := by
  refine wm_of (by decide) (Nat.le_of_ble_eq_true rfl) ?_
  intro p e s m args below meth c Q ls hQ hx hb hr hlk hml hown hts hP hK hD hS hl
  have hown : s.vm.findClass RX4 = some m.cls := hown
  have hl : lv_has ls 4 [(0, .ref (a 6)), (1, .int p1)] := hl
  generalize hAe : wA (wC a cI cJ xs ys pl kp lp lq lr v0 v1 v2 v3 v4 v5 v6 v7 v8 v9 v10) = A at hQ hD hS
  obtain ⟨F, eF⟩ : ∃ F, F = (f_X4_resize pl v5 p1) := ⟨_, rfl⟩
  have hn : (24 : Int32) ≤ 24 := by decide
  refine lv_aload_n hx hb dX4_resize_0 rfl (lv_at hl 0 rfl) ?_
  refine va_get (D := (dC, dI)) (ci := 8) (v := .int v5) (C := RX4) (T := TX4) (N := 3) hx hb hts (fun _ h => gI_wsX40 h) hown hK.1 hP 6 rfl rfl 2 (by decide) (hts _ mG_3_12) (fun _ h9 => h9) rfl dX4_resize_1 ?_
  refine lv_istore_n (lv' := [(2, .int v5), (0, .ref (a 6)), (1, .int p1)]) hx hb dX4_resize_4 rfl hl (by decide) rfl (fun ls hl => ?_)
  refine lv_iconst (v := (0 : Int32)) hx hb dX4_resize_5 (by decide) ?_
  refine lv_istore_n (lv' := [(3, .int (0 : Int32)), (2, .int v5), (0, .ref (a 6)), (1, .int p1)]) hx hb dX4_resize_6 rfl hl (by decide) rfl (fun ls hl => ?_)
  have K7 : ∀ (n7 : Nat) (x3_7 : Int32) (pl_7 : Nat → Int32), 0 ≤ x3_7 → (((24 : Int32)).toInt - x3_7.toInt).toNat < n7 → F = f_X4_resize_L7 pl v5 p1 v5 n7 x3_7 pl_7 → ∀ (H : Heap) (locs : List Loc), va_P (dC, dI) vwCl (wC a cI cJ xs ys pl_7 kp lp lq lr v0 v1 v2 v3 v4 v5 v6 v7 v8 v9 v10) H → va_D A (wC a cI cJ xs ys pl_7 kp lp lq lr v0 v1 v2 v3 v4 v5 v6 v7 v8 v9 v10) → va_S A s.heap H locs → ∀ (ls : Array Slot), lv_has ls 4 [(0, .ref (a 6)), (1, .int p1), (2, .int v5), (3, .int x3_7)] → W p l e rm_X4_resize s m args below meth c H locs 0 0 Q (F0 m 7 ls []) := by
    intro n7
    induction n7 with
    | zero => intro x3_7 pl_7 h0_7 hf_7 hF H locs hP hD hS ls hl; exact absurd hf_7 (Nat.not_lt_zero _)
    | succ n7 ih7 =>
      intro x3_7 pl_7 h0_7 hf_7 hF H locs hP hD hS ls hl
      refine lv_iload_n hx hb dX4_resize_7 rfl (lv_at hl 3 rfl) ?_
      refine lv_bipush (v := (24 : Int32)) hx hb dX4_resize_8 (by decide) ?_
      refine lv_icmp_ge (tgt := 26) hx hb dX4_resize_10 (by decide) (fun c1 => ?_) (fun c1 => ?_)
      · skip
        refine lv_aload_n hx hb dX4_resize_26 rfl (lv_at hl 0 rfl) ?_
        refine lv_iload_n hx hb dX4_resize_27 rfl (lv_at hl 1 rfl) ?_
        refine va_put (D := (dC, dI)) (ci := 8) (v := .int p1) (ty := .int) (C := RX4) (T := TX4) (N := 3) hx hb hts (fun _ h => gI_wsX40 h) tyX4 tyX4_ok nmX4 hown hK.1 hP hD hS 6 rfl rfl 2 (by decide) (hts _ mG_3_12) (fun _ h9 => h9) rfl (by decide +kernel) rfl rfl (Nat.le_of_ble_eq_true rfl) dX4_resize_28 (fun H locs hP hD hS => ?_)
        have hP : va_P (dC, dI) vwCl (wC a cI cJ xs ys pl_7 kp lp lq lr v0 v1 v2 v3 v4 p1 v6 v7 v8 v9 v10) H := hP
        have hD : va_D A (wC a cI cJ xs ys pl_7 kp lp lq lr v0 v1 v2 v3 v4 p1 v6 v7 v8 v9 v10) := hD
        refine lv_iload_n hx hb dX4_resize_31 rfl (lv_at hl 2 rfl) ?_
        have hE : F = (v5, pl_7, p1) := (by rw [hF]; simp only [f_X4_resize_L7, if_pos c1])
        rw [eF] at hE
        exact rw_i hQ hx hb hr hlk (by rw [hE]; exact hP) hS (by rw [hE]) dX4_resize_32
      · skip
        have hI : vp_in x3_7 24 := ix_lt h0_7 c1 hn
        refine lv_aload_n hx hb dX4_resize_13 rfl (lv_at hl 0 rfl) ?_
        refine va_get (D := (dC, dI)) (ci := 8) (v := .ref (a 7)) (C := RX4) (T := TX4) (N := 3) hx hb hts (fun _ h => gI_wsX40 h) hown hK.1 hP 6 rfl rfl 1 (by decide) (hts _ mG_3_11) (fun _ h9 => h9) rfl dX4_resize_14 ?_
        refine lv_iload_n hx hb dX4_resize_17 rfl (lv_at hl 3 rfl) ?_
        refine lv_iconst (v := (-1 : Int32)) hx hb dX4_resize_18 (by decide) ?_
        refine va_iast hx hb hK.1 hP hD hS 7 0 rfl rfl (by first | with_reducible assumption | exact in0_24 | exact in0_60 | decide) dX4_resize_19 (fun H locs hP hD hS => ?_)
        have hP : va_P (dC, dI) vwCl (wC a cI cJ xs ys (upd pl_7 (Int32.toNatClampNeg x3_7) (-1 : Int32)) kp lp lq lr v0 v1 v2 v3 v4 v5 v6 v7 v8 v9 v10) H := hP
        have hD : va_D A (wC a cI cJ xs ys (upd pl_7 (Int32.toNatClampNeg x3_7) (-1 : Int32)) kp lp lq lr v0 v1 v2 v3 v4 v5 v6 v7 v8 v9 v10) := hD
        refine lv_iinc (v := (x3_7 + 1)) (lv' := [(3, .int (x3_7 + 1)), (0, .ref (a 6)), (1, .int p1), (2, .int v5)]) hx hb dX4_resize_20 hl (k := 3) rfl rfl (by decide) rfl (fun ls hl => ?_)
        refine lv_goto (tgt := 7) hx hb dX4_resize_23 (by decide) ?_
        exact ih7 (x3_7 + 1) (upd pl_7 (Int32.toNatClampNeg x3_7) (-1 : Int32)) (lp_pos h0_7 c1) (lp_dec c1 hf_7) (by rw [hF]; simp only [f_X4_resize_L7, if_neg c1]) _ _ hP hD hS ls (lv_sub hl [1, 2, 3, 0] rfl)
  exact K7 25 (0 : Int32) pl (by decide) (lp_fuel (by decide) hn) (by rw [eF]; simp only [f_X4_resize]) _ _ hP hD hS ls (lv_sub hl [2, 3, 1, 0] rfl)
/-! X3_note -/
theorem hs_X3_note : yX3_note.cls ≠ "java/lang/invoke/MethodHandle" ∧ yX3_note.cls ≠ "java/lang/invoke/VarHandle" ∧ (parseMethodDescriptor yX3_note.desc).map (fun d => d.parameters.length) = some 2 := by decide +kernel
theorem hd_X3_note : yX3_note.cls = RX3 ∧ yX3_note.cls ≠ "java/lang/invoke/MethodHandle" ∧ yX3_note.cls ≠ "java/lang/invoke/VarHandle" ∧ (parseMethodDescriptor yX3_note.desc).map (fun d => d.parameters.length) = some 2 := ⟨rfl, hs_X3_note⟩
def f_X3_note (v1 : Int32) (v2 : Int32) (v3 : Int32) (v4 : Int32) (p1 : Int32) (p2 : Int32) : Int32 × Int32 × Int32 × Int32 := (if v1 = 0 then (if p2 = 0 then (p2, v2, (v3 + (1 : Int32)), (v4 + (1 : Int32))) else (p2, v2, (v3 + (1 : Int32)), v4)) else (if p1 = 0 then (if p2 = 0 then (p2, v2, (v3 + (1 : Int32)), (v4 + (1 : Int32))) else (p2, v2, (v3 + (1 : Int32)), v4)) else (if p2 = 0 then (p2, (v2 + (1 : Int32)), v3, (v4 + (1 : Int32))) else (p2, (v2 + (1 : Int32)), v3, v4))))
abbrev rm_X3_note : Room := { frames := 0, cells := 0, slots := 0, locals := 0 }
set_option maxHeartbeats 8000000 in
set_option maxRecDepth 100000 in
theorem c_X3_note (l : Launch) (dC : Nat → ClassId) (dI : Nat → Nat → Nat) (a : Nat → Nat) (cI cJ : ClassId) (xs : Nat → Int32) (ys : Nat → Int32) (pl : Nat → Int32) (kp : Nat → Int32) (lp : Nat → Int64) (lq : Nat → Int64) (lr : Nat → Int64) (v0 : Int32) (v1 : Int32) (v2 : Int32) (v3 : Int32) (v4 : Int32) (v5 : Int32) (v6 : Int32) (v7 : Int32) (v8 : Int32) (v9 : Int32) (v10 : Int32) (p1 : Int32) (p2 : Int32) : Met l yX3_note (Cond.code yX3_note cX3_note 3 (some .int) :: lw_G) rm_X3_note (wPc (dC, dI) (tIJ cI cJ) (wC a cI cJ xs ys pl kp lp lq lr v0 v1 v2 v3 v4 v5 v6 v7 v8 v9 v10) [.ref (a 4), .int p1, .int p2]) (wQi (dC, dI) (wA (wC a cI cJ xs ys pl kp lp lq lr v0 v1 v2 v3 v4 v5 v6 v7 v8 v9 v10)) (wC a cI cJ xs ys pl kp lp lq lr v0 v1 ((f_X3_note v1 v2 v3 v4 p1 p2).2.1) ((f_X3_note v1 v2 v3 v4 p1 p2).2.2.1) ((f_X3_note v1 v2 v3 v4 p1 p2).2.2.2) v5 v6 v7 v8 v9 v10) (f_X3_note v1 v2 v3 v4 p1 p2).1) 0 0 (wA (wC a cI cJ xs ys pl kp lp lq lr v0 v1 v2 v3 v4 v5 v6 v7 v8 v9 v10)) := by
  refine wm_of (by decide) (Nat.le_of_ble_eq_true rfl) ?_
  intro p e s m args below meth c Q ls hQ hx hb hr hlk hml hown hts hP hK hD hS hl
  have hown : s.vm.findClass RX3 = some m.cls := hown
  have hl : lv_has ls 3 [(0, .ref (a 4)), (1, .int p1), (2, .int p2)] := hl
  generalize hAe : wA (wC a cI cJ xs ys pl kp lp lq lr v0 v1 v2 v3 v4 v5 v6 v7 v8 v9 v10) = A at hQ hD hS
  refine lv_aload_n hx hb dX3_note_0 rfl (lv_at hl 0 rfl) ?_
  refine va_get (D := (dC, dI)) (ci := 7) (v := .int v1) (C := RX3) (T := TX3) (N := 5) hx hb hts (fun _ h => gI_wsX30 h) hown hK.1 hP 4 rfl rfl 1 (by decide) (hts _ mG_2_21) (fun _ h9 => h9) rfl dX3_note_1 ?_
  refine lv_if_eq (tgt := 24) hx hb dX3_note_4 (by decide) (fun c1 => ?_) (fun c1 => ?_)
  · skip
    refine lv_aload_n hx hb dX3_note_24 rfl (lv_at hl 0 rfl) ?_
    refine lv_dup hx hb dX3_note_25 rfl ?_
    refine va_get (D := (dC, dI)) (ci := 7) (v := .int v3) (C := RX3) (T := TX3) (N := 5) hx hb hts (fun _ h => gI_wsX30 h) hown hK.1 hP 4 rfl rfl 3 (by decide) (hts _ mG_2_23) (fun _ h9 => h9) rfl dX3_note_26 ?_
    refine lv_iconst (v := (1 : Int32)) hx hb dX3_note_29 (by decide) ?_
    refine lv_iadd hx hb dX3_note_30 ?_
    refine lv_topi (fun y2 ey2 => ?_)
    refine va_put (D := (dC, dI)) (ci := 7) (v := .int y2) (ty := .int) (C := RX3) (T := TX3) (N := 5) hx hb hts (fun _ h => gI_wsX30 h) tyX3 tyX3_ok nmX3 hown hK.1 hP hD hS 4 rfl rfl 3 (by decide) (hts _ mG_2_23) (fun _ h9 => h9) rfl (by decide +kernel) rfl rfl (Nat.le_of_ble_eq_true rfl) dX3_note_31 (fun H locs hP hD hS => ?_)
    have hP : va_P (dC, dI) vwCl (wC a cI cJ xs ys pl kp lp lq lr v0 v1 v2 y2 v4 v5 v6 v7 v8 v9 v10) H := hP
    have hD : va_D A (wC a cI cJ xs ys pl kp lp lq lr v0 v1 v2 y2 v4 v5 v6 v7 v8 v9 v10) := hD
    refine lv_iload_n hx hb dX3_note_34 rfl (lv_at hl 2 rfl) ?_
    refine lv_if_ne (tgt := 48) hx hb dX3_note_35 (by decide) (fun c3 => ?_) (fun c3 => ?_)
    · skip
      refine lv_iload_n hx hb dX3_note_48 rfl (lv_at hl 2 rfl) ?_
      have hE : (f_X3_note v1 v2 v3 v4 p1 p2) = (p2, v2, y2, v4) := (by subst ey2; simp only [f_X3_note, if_pos c1, if_neg c3])
      exact rw_i hQ hx hb hr hlk (by rw [hE]; exact hP) hS (by rw [hE]) dX3_note_49
    · skip
      refine lv_aload_n hx hb dX3_note_38 rfl (lv_at hl 0 rfl) ?_
      refine lv_dup hx hb dX3_note_39 rfl ?_
      refine va_get (D := (dC, dI)) (ci := 7) (v := .int v4) (C := RX3) (T := TX3) (N := 5) hx hb hts (fun _ h => gI_wsX30 h) hown hK.1 hP 4 rfl rfl 4 (by decide) (hts _ mG_3_0) (fun _ h9 => h9) rfl dX3_note_40 ?_
      refine lv_iconst (v := (1 : Int32)) hx hb dX3_note_43 (by decide) ?_
      refine lv_iadd hx hb dX3_note_44 ?_
      refine lv_topi (fun y4 ey4 => ?_)
      refine va_put (D := (dC, dI)) (ci := 7) (v := .int y4) (ty := .int) (C := RX3) (T := TX3) (N := 5) hx hb hts (fun _ h => gI_wsX30 h) tyX3 tyX3_ok nmX3 hown hK.1 hP hD hS 4 rfl rfl 4 (by decide) (hts _ mG_3_0) (fun _ h9 => h9) rfl (by decide +kernel) rfl rfl (Nat.le_of_ble_eq_true rfl) dX3_note_45 (fun H locs hP hD hS => ?_)
      have hP : va_P (dC, dI) vwCl (wC a cI cJ xs ys pl kp lp lq lr v0 v1 v2 y2 y4 v5 v6 v7 v8 v9 v10) H := hP
      have hD : va_D A (wC a cI cJ xs ys pl kp lp lq lr v0 v1 v2 y2 y4 v5 v6 v7 v8 v9 v10) := hD
      refine lv_iload_n hx hb dX3_note_48 rfl (lv_at hl 2 rfl) ?_
      have hE : (f_X3_note v1 v2 v3 v4 p1 p2) = (p2, v2, y2, y4) := (by subst ey2; subst ey4; simp only [f_X3_note, if_pos c1, if_pos c3])
      exact rw_i hQ hx hb hr hlk (by rw [hE]; exact hP) hS (by rw [hE]) dX3_note_49
  · skip
    refine lv_iload_n hx hb dX3_note_7 rfl (lv_at hl 1 rfl) ?_
    refine lv_if_eq (tgt := 24) hx hb dX3_note_8 (by decide) (fun c5 => ?_) (fun c5 => ?_)
    · skip
      refine lv_aload_n hx hb dX3_note_24 rfl (lv_at hl 0 rfl) ?_
      refine lv_dup hx hb dX3_note_25 rfl ?_
      refine va_get (D := (dC, dI)) (ci := 7) (v := .int v3) (C := RX3) (T := TX3) (N := 5) hx hb hts (fun _ h => gI_wsX30 h) hown hK.1 hP 4 rfl rfl 3 (by decide) (hts _ mG_2_23) (fun _ h9 => h9) rfl dX3_note_26 ?_
      refine lv_iconst (v := (1 : Int32)) hx hb dX3_note_29 (by decide) ?_
      refine lv_iadd hx hb dX3_note_30 ?_
      refine lv_topi (fun y6 ey6 => ?_)
      refine va_put (D := (dC, dI)) (ci := 7) (v := .int y6) (ty := .int) (C := RX3) (T := TX3) (N := 5) hx hb hts (fun _ h => gI_wsX30 h) tyX3 tyX3_ok nmX3 hown hK.1 hP hD hS 4 rfl rfl 3 (by decide) (hts _ mG_2_23) (fun _ h9 => h9) rfl (by decide +kernel) rfl rfl (Nat.le_of_ble_eq_true rfl) dX3_note_31 (fun H locs hP hD hS => ?_)
      have hP : va_P (dC, dI) vwCl (wC a cI cJ xs ys pl kp lp lq lr v0 v1 v2 y6 v4 v5 v6 v7 v8 v9 v10) H := hP
      have hD : va_D A (wC a cI cJ xs ys pl kp lp lq lr v0 v1 v2 y6 v4 v5 v6 v7 v8 v9 v10) := hD
      refine lv_iload_n hx hb dX3_note_34 rfl (lv_at hl 2 rfl) ?_
      refine lv_if_ne (tgt := 48) hx hb dX3_note_35 (by decide) (fun c7 => ?_) (fun c7 => ?_)
      · skip
        refine lv_iload_n hx hb dX3_note_48 rfl (lv_at hl 2 rfl) ?_
        have hE : (f_X3_note v1 v2 v3 v4 p1 p2) = (p2, v2, y6, v4) := (by subst ey6; simp only [f_X3_note, if_neg c1, if_pos c5, if_neg c7])
        exact rw_i hQ hx hb hr hlk (by rw [hE]; exact hP) hS (by rw [hE]) dX3_note_49
      · skip
        refine lv_aload_n hx hb dX3_note_38 rfl (lv_at hl 0 rfl) ?_
        refine lv_dup hx hb dX3_note_39 rfl ?_
        refine va_get (D := (dC, dI)) (ci := 7) (v := .int v4) (C := RX3) (T := TX3) (N := 5) hx hb hts (fun _ h => gI_wsX30 h) hown hK.1 hP 4 rfl rfl 4 (by decide) (hts _ mG_3_0) (fun _ h9 => h9) rfl dX3_note_40 ?_
        refine lv_iconst (v := (1 : Int32)) hx hb dX3_note_43 (by decide) ?_
        refine lv_iadd hx hb dX3_note_44 ?_
        refine lv_topi (fun y8 ey8 => ?_)
        refine va_put (D := (dC, dI)) (ci := 7) (v := .int y8) (ty := .int) (C := RX3) (T := TX3) (N := 5) hx hb hts (fun _ h => gI_wsX30 h) tyX3 tyX3_ok nmX3 hown hK.1 hP hD hS 4 rfl rfl 4 (by decide) (hts _ mG_3_0) (fun _ h9 => h9) rfl (by decide +kernel) rfl rfl (Nat.le_of_ble_eq_true rfl) dX3_note_45 (fun H locs hP hD hS => ?_)
        have hP : va_P (dC, dI) vwCl (wC a cI cJ xs ys pl kp lp lq lr v0 v1 v2 y6 y8 v5 v6 v7 v8 v9 v10) H := hP
        have hD : va_D A (wC a cI cJ xs ys pl kp lp lq lr v0 v1 v2 y6 y8 v5 v6 v7 v8 v9 v10) := hD
        refine lv_iload_n hx hb dX3_note_48 rfl (lv_at hl 2 rfl) ?_
        have hE : (f_X3_note v1 v2 v3 v4 p1 p2) = (p2, v2, y6, y8) := (by subst ey6; subst ey8; simp only [f_X3_note, if_neg c1, if_pos c5, if_pos c7])
        exact rw_i hQ hx hb hr hlk (by rw [hE]; exact hP) hS (by rw [hE]) dX3_note_49
    · skip
      refine lv_aload_n hx hb dX3_note_11 rfl (lv_at hl 0 rfl) ?_
      refine lv_dup hx hb dX3_note_12 rfl ?_
      refine va_get (D := (dC, dI)) (ci := 7) (v := .int v2) (C := RX3) (T := TX3) (N := 5) hx hb hts (fun _ h => gI_wsX30 h) hown hK.1 hP 4 rfl rfl 2 (by decide) (hts _ mG_2_22) (fun _ h9 => h9) rfl dX3_note_13 ?_
      refine lv_iconst (v := (1 : Int32)) hx hb dX3_note_16 (by decide) ?_
      refine lv_iadd hx hb dX3_note_17 ?_
      refine lv_topi (fun y9 ey9 => ?_)
      refine va_put (D := (dC, dI)) (ci := 7) (v := .int y9) (ty := .int) (C := RX3) (T := TX3) (N := 5) hx hb hts (fun _ h => gI_wsX30 h) tyX3 tyX3_ok nmX3 hown hK.1 hP hD hS 4 rfl rfl 2 (by decide) (hts _ mG_2_22) (fun _ h9 => h9) rfl (by decide +kernel) rfl rfl (Nat.le_of_ble_eq_true rfl) dX3_note_18 (fun H locs hP hD hS => ?_)
      have hP : va_P (dC, dI) vwCl (wC a cI cJ xs ys pl kp lp lq lr v0 v1 y9 v3 v4 v5 v6 v7 v8 v9 v10) H := hP
      have hD : va_D A (wC a cI cJ xs ys pl kp lp lq lr v0 v1 y9 v3 v4 v5 v6 v7 v8 v9 v10) := hD
      refine lv_goto (tgt := 34) hx hb dX3_note_21 (by decide) ?_
      refine lv_iload_n hx hb dX3_note_34 rfl (lv_at hl 2 rfl) ?_
      refine lv_if_ne (tgt := 48) hx hb dX3_note_35 (by decide) (fun c10 => ?_) (fun c10 => ?_)
      · skip
        refine lv_iload_n hx hb dX3_note_48 rfl (lv_at hl 2 rfl) ?_
        have hE : (f_X3_note v1 v2 v3 v4 p1 p2) = (p2, y9, v3, v4) := (by subst ey9; simp only [f_X3_note, if_neg c1, if_neg c5, if_neg c10])
        exact rw_i hQ hx hb hr hlk (by rw [hE]; exact hP) hS (by rw [hE]) dX3_note_49
      · skip
        refine lv_aload_n hx hb dX3_note_38 rfl (lv_at hl 0 rfl) ?_
        refine lv_dup hx hb dX3_note_39 rfl ?_
        refine va_get (D := (dC, dI)) (ci := 7) (v := .int v4) (C := RX3) (T := TX3) (N := 5) hx hb hts (fun _ h => gI_wsX30 h) hown hK.1 hP 4 rfl rfl 4 (by decide) (hts _ mG_3_0) (fun _ h9 => h9) rfl dX3_note_40 ?_
        refine lv_iconst (v := (1 : Int32)) hx hb dX3_note_43 (by decide) ?_
        refine lv_iadd hx hb dX3_note_44 ?_
        refine lv_topi (fun y11 ey11 => ?_)
        refine va_put (D := (dC, dI)) (ci := 7) (v := .int y11) (ty := .int) (C := RX3) (T := TX3) (N := 5) hx hb hts (fun _ h => gI_wsX30 h) tyX3 tyX3_ok nmX3 hown hK.1 hP hD hS 4 rfl rfl 4 (by decide) (hts _ mG_3_0) (fun _ h9 => h9) rfl (by decide +kernel) rfl rfl (Nat.le_of_ble_eq_true rfl) dX3_note_45 (fun H locs hP hD hS => ?_)
        have hP : va_P (dC, dI) vwCl (wC a cI cJ xs ys pl kp lp lq lr v0 v1 y9 v3 y11 v5 v6 v7 v8 v9 v10) H := hP
        have hD : va_D A (wC a cI cJ xs ys pl kp lp lq lr v0 v1 y9 v3 y11 v5 v6 v7 v8 v9 v10) := hD
        refine lv_iload_n hx hb dX3_note_48 rfl (lv_at hl 2 rfl) ?_
        have hE : (f_X3_note v1 v2 v3 v4 p1 p2) = (p2, y9, v3, y11) := (by subst ey9; subst ey11; simp only [f_X3_note, if_neg c1, if_neg c5, if_pos c10])
        exact rw_i hQ hx hb hr hlk (by rw [hE]; exact hP) hS (by rw [hE]) dX3_note_49
