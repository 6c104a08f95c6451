/-! J6_compare_7cf53 -/
theorem hs_J6_compare_7cf53 : yJ6_compare_7cf53.cls ≠ "java/lang/invoke/MethodHandle" ∧ yJ6_compare_7cf53.cls ≠ "java/lang/invoke/VarHandle" ∧ (parseMethodDescriptor yJ6_compare_7cf53.desc).map (fun d => d.parameters.length) = some 2 := by decide +kernel
theorem hd_J6_compare_7cf53 : yJ6_compare_7cf53.cls = RJ6 ∧ yJ6_compare_7cf53.cls ≠ "java/lang/invoke/MethodHandle" ∧ yJ6_compare_7cf53.cls ≠ "java/lang/invoke/VarHandle" ∧ (parseMethodDescriptor yJ6_compare_7cf53.desc).map (fun d => d.parameters.length) = some 2 := ⟨rfl, hs_J6_compare_7cf53⟩
def f_J6_compare_7cf53  (p1 : Int32) (p2 : Int32) : Int32 := (if p2 ≤ p1 then (if p1 = p2 then (0 : Int32) else (1 : Int32)) else (-1 : Int32))
abbrev rm_J6_compare_7cf53 : Room := { frames := 0, cells := 0, slots := 0, locals := 0 }
set_option maxHeartbeats 8000000 in
set_option maxRecDepth 100000 in
theorem c_J6_compare_7cf53 (l : Launch) (p1 : Int32) (p2 : Int32) : Met l yJ6_compare_7cf53 (Cond.code yJ6_compare_7cf53 cJ6_compare_7cf53 2 (some .int) :: lw_G) rm_J6_compare_7cf53 (nPc [.int p1, .int p2]) (pQi (f_J6_compare_7cf53 p1 p2)) 0 0 pNo := by
  refine nm_of (by decide) (Nat.le_of_ble_eq_true rfl) ?_
  intro p e s m args below meth c Q ls hQ hx hb hr hlk hml hown hts hS hl
  have hown : s.vm.findClass RJ6 = some m.cls := hown
  have hl : lv_has ls 2 [(0, .int p1), (1, .int p2)] := hl
  refine lv_iload_n hx hb dJ6_compare_7cf53_0 rfl (lv_at hl 0 rfl) ?_
  refine lv_iload_n hx hb dJ6_compare_7cf53_1 rfl (lv_at hl 1 rfl) ?_
  refine lv_icmp_ge (tgt := 9) hx hb dJ6_compare_7cf53_2 (by decide) (fun c1 => ?_) (fun c1 => ?_)
  · skip
    refine lv_iload_n hx hb dJ6_compare_7cf53_9 rfl (lv_at hl 0 rfl) ?_
    refine lv_iload_n hx hb dJ6_compare_7cf53_10 rfl (lv_at hl 1 rfl) ?_
    refine lv_icmp_ne (tgt := 18) hx hb dJ6_compare_7cf53_11 (by decide) (fun c2 => ?_) (fun c2 => ?_)
    · skip
      refine lv_iconst (v := (1 : Int32)) hx hb dJ6_compare_7cf53_18 (by decide) ?_
      exact rp_i hQ hx hb hr hlk hS (Eq.symm (by simp only [f_J6_compare_7cf53, if_pos c1, if_neg c2])) dJ6_compare_7cf53_19
    · skip
      refine lv_iconst (v := (0 : Int32)) hx hb dJ6_compare_7cf53_14 (by decide) ?_
      refine lv_goto (tgt := 19) hx hb dJ6_compare_7cf53_15 (by decide) ?_
      exact rp_i hQ hx hb hr hlk hS (Eq.symm (by simp only [f_J6_compare_7cf53, if_pos c1, if_pos c2])) dJ6_compare_7cf53_19
  · skip
    refine lv_iconst (v := (-1 : Int32)) hx hb dJ6_compare_7cf53_5 (by decide) ?_
    refine lv_goto (tgt := 19) hx hb dJ6_compare_7cf53_6 (by decide) ?_
    exact rp_i hQ hx hb hr hlk hS (Eq.symm (by simp only [f_J6_compare_7cf53, if_neg c1])) dJ6_compare_7cf53_19
/-! J13_compare_74951 -/
theorem hs_J13_compare_74951 : yJ13_compare_74951.cls ≠ "java/lang/invoke/MethodHandle" ∧ yJ13_compare_74951.cls ≠ "java/lang/invoke/VarHandle" ∧ (parseMethodDescriptor yJ13_compare_74951.desc).map (fun d => d.parameters.length) = some 2 := by decide +kernel
theorem hd_J13_compare_74951 : yJ13_compare_74951.cls = RJ13 ∧ yJ13_compare_74951.cls ≠ "java/lang/invoke/MethodHandle" ∧ yJ13_compare_74951.cls ≠ "java/lang/invoke/VarHandle" ∧ (parseMethodDescriptor yJ13_compare_74951.desc).map (fun d => d.parameters.length) = some 2 := ⟨rfl, hs_J13_compare_74951⟩
def f_J13_compare_74951  (p1 : Int64) (p2 : Int64) : Int32 := (if 0 ≤ (lg_cmp p1 p2) then (if (lg_cmp p1 p2) = 0 then (0 : Int32) else (1 : Int32)) else (-1 : Int32))
abbrev rm_J13_compare_74951 : Room := { frames := 0, cells := 0, slots := 0, locals := 0 }
set_option maxHeartbeats 8000000 in
set_option maxRecDepth 100000 in
theorem c_J13_compare_74951 (l : Launch) (p1 : Int64) (p2 : Int64) : Met l yJ13_compare_74951 (Cond.code yJ13_compare_74951 cJ13_compare_74951 4 (some .int) :: lw_G) rm_J13_compare_74951 (nPc [.long p1, .long p2]) (pQi (f_J13_compare_74951 p1 p2)) 0 0 pNo := by
  refine nm_of (by decide) (Nat.le_of_ble_eq_true rfl) ?_
  intro p e s m args below meth c Q ls hQ hx hb hr hlk hml hown hts hS hl
  have hown : s.vm.findClass RJ13 = some m.cls := hown
  have hl : lv_has ls 4 [(0, .long p1), (2, .long p2)] := hl
  refine lv_lload_n hx hb dJ13_compare_74951_0 rfl (lv_at hl 0 rfl) ?_
  refine lv_lload_n hx hb dJ13_compare_74951_1 rfl (lv_at hl 1 rfl) ?_
  refine W.lcmp hx hb dJ13_compare_74951_2 ?_
  refine lv_if_ge (tgt := 10) hx hb dJ13_compare_74951_3 (by decide) (fun c1 => ?_) (fun c1 => ?_)
  · skip
    refine lv_lload_n hx hb dJ13_compare_74951_10 rfl (lv_at hl 0 rfl) ?_
    refine lv_lload_n hx hb dJ13_compare_74951_11 rfl (lv_at hl 1 rfl) ?_
    refine W.lcmp hx hb dJ13_compare_74951_12 ?_
    refine lv_if_ne (tgt := 20) hx hb dJ13_compare_74951_13 (by decide) (fun c2 => ?_) (fun c2 => ?_)
    · skip
      refine lv_iconst (v := (1 : Int32)) hx hb dJ13_compare_74951_20 (by decide) ?_
      exact rp_i hQ hx hb hr hlk hS (Eq.symm (by simp only [f_J13_compare_74951, if_pos c1, if_neg c2])) dJ13_compare_74951_21
    · skip
      refine lv_iconst (v := (0 : Int32)) hx hb dJ13_compare_74951_16 (by decide) ?_
      refine lv_goto (tgt := 21) hx hb dJ13_compare_74951_17 (by decide) ?_
      exact rp_i hQ hx hb hr hlk hS (Eq.symm (by simp only [f_J13_compare_74951, if_pos c1, if_pos c2])) dJ13_compare_74951_21
  · skip
    refine lv_iconst (v := (-1 : Int32)) hx hb dJ13_compare_74951_6 (by decide) ?_
    refine lv_goto (tgt := 21) hx hb dJ13_compare_74951_7 (by decide) ?_
    exact rp_i hQ hx hb hr hlk hS (Eq.symm (by simp only [f_J13_compare_74951, if_neg c1])) dJ13_compare_74951_21
/-! X5_signOf -/
theorem hs_X5_signOf : yX5_signOf.cls ≠ "java/lang/invoke/MethodHandle" ∧ yX5_signOf.cls ≠ "java/lang/invoke/VarHandle" ∧ (parseMethodDescriptor yX5_signOf.desc).map (fun d => d.parameters.length) = some 1 := by decide +kernel
theorem hd_X5_signOf : yX5_signOf.cls = RX5 ∧ yX5_signOf.cls ≠ "java/lang/invoke/MethodHandle" ∧ yX5_signOf.cls ≠ "java/lang/invoke/VarHandle" ∧ (parseMethodDescriptor yX5_signOf.desc).map (fun d => d.parameters.length) = some 1 := ⟨rfl, hs_X5_signOf⟩
def f_X5_signOf  (p1 : Int64) : Int32 := (f_J13_compare_74951 p1 (0 : Int64))
abbrev rm_X5_signOf : Room := { frames := 1, cells := 0, slots := 0, locals := 23 }
set_option maxHeartbeats 8000000 in
set_option maxRecDepth 100000 in
theorem c_X5_signOf (l : Launch) (p1 : Int64) : Met l yX5_signOf (Cond.code yX5_signOf cX5_signOf 2 (some .int) :: lw_G) rm_X5_signOf (nPc [.long p1]) (pQi (f_X5_signOf p1)) 0 0 pNo := by
  refine nm_of (by decide) (Nat.le_of_ble_eq_true rfl) ?_
  intro p e s m args below meth c Q ls hQ hx hb hr hlk hml hown hts hS hl
  have hown : s.vm.findClass RX5 = some m.cls := hown
  have hl : lv_has ls 2 [(0, .long p1)] := hl
  refine lv_lload_n hx hb dX5_signOf_0 rfl (lv_at hl 0 rfl) ?_
  refine lv_lconst (v := (0 : Int64)) hx hb dX5_signOf_1 (by decide) ?_
  refine cn_i (va_runS (As := [.long p1, .long (0 : Int64)]) (rest := []) ⟨hx, hb, hml, hown, hts⟩ (c_J13_compare_74951 l p1 (0 : Int64) ) (va_cwS 2 hts (gG_S mG_11_12 mG_11_13 mG_11_14 (gG_c mG_11_15 gG_G)) rfl rfl rfl hs_J13_compare_74951 ⟨Nat.le_of_ble_eq_true rfl, Nat.le_of_ble_eq_true rfl⟩) nPcS rfl rfl hl.1 rfl (lv_room (Nat.le_of_ble_eq_true rfl)) dX5_signOf_2 ⟨Nat.le_of_ble_eq_true rfl, Nat.le_of_ble_eq_true rfl⟩) hS (fun H hS => ?_)
  exact rp_i hQ hx hb hr hlk hS (Eq.symm (by simp only [f_X5_signOf])) dX5_signOf_5
/-! X2_liesAmong -/
theorem hs_X2_liesAmong : yX2_liesAmong.cls ≠ "java/lang/invoke/MethodHandle" ∧ yX2_liesAmong.cls ≠ "java/lang/invoke/VarHandle" ∧ (parseMethodDescriptor yX2_liesAmong.desc).map (fun d => d.parameters.length) = some 3 := by decide +kernel
theorem hd_X2_liesAmong : yX2_liesAmong.cls = RX2 ∧ yX2_liesAmong.cls ≠ "java/lang/invoke/MethodHandle" ∧ yX2_liesAmong.cls ≠ "java/lang/invoke/VarHandle" ∧ (parseMethodDescriptor yX2_liesAmong.desc).map (fun d => d.parameters.length) = some 3 := ⟨rfl, hs_X2_liesAmong⟩
def f_X2_liesAmong  (p1 : Int32) (p2 : Int32) (p3 : Int32) : Int32 := (if p3 < (if p2 < p1 then p2 else p1) then (0 : Int32) else (if (if p1 < p2 then p2 else p1) < p3 then (0 : Int32) else (1 : Int32)))
abbrev rm_X2_liesAmong : Room := { frames := 1, cells := 0, slots := 0, locals := 14 }
set_option maxHeartbeats 8000000 in
set_option maxRecDepth 100000 in
theorem c_X2_liesAmong (l : Launch) (p1 : Int32) (p2 : Int32) (p3 : Int32) : Met l yX2_liesAmong (Cond.code yX2_liesAmong cX2_liesAmong 3 (some .boolean) :: lw_G) rm_X2_liesAmong (nPc [.int p1, .int p2, .int p3]) (pQi (f_X2_liesAmong p1 p2 p3)) 0 0 pNo := by
  refine nm_of (by decide) (Nat.le_of_ble_eq_true rfl) ?_
  intro p e s m args below meth c Q ls hQ hx hb hr hlk hml hown hts hS hl
  have hown : s.vm.findClass RX2 = some m.cls := hown
  have hl : lv_has ls 3 [(0, .int p1), (1, .int p2), (2, .int p3)] := hl
  refine lv_iload_n hx hb dX2_liesAmong_0 rfl (lv_at hl 2 rfl) ?_
  refine lv_iload_n hx hb dX2_liesAmong_1 rfl (lv_at hl 0 rfl) ?_
  refine lv_iload_n hx hb dX2_liesAmong_2 rfl (lv_at hl 1 rfl) ?_
  refine va_mmin hx hb (by rw [hml]; exact hl.1.symm) hown (hts _ mG_16_9) (hts _ mG_16_10) (hts _ mG_16_11) (hts _ mG_16_12) (Nat.le_of_ble_eq_true rfl) (Nat.le_of_ble_eq_true rfl) (Nat.le_refl _) (Nat.le_refl _) dX2_liesAmong_3 ?_
  refine lv_icmp_lt (tgt := 22) hx hb dX2_liesAmong_6 (by decide) (fun c1 => ?_) (fun c1 => ?_)
  · skip
    refine lv_iconst (v := (0 : Int32)) hx hb dX2_liesAmong_22 (by decide) ?_
    exact rp_z hQ hx hb hr hlk hS (Eq.symm (by simp only [f_X2_liesAmong, if_pos c1])) (by decide) dX2_liesAmong_23
  · skip
    refine lv_iload_n hx hb dX2_liesAmong_9 rfl (lv_at hl 2 rfl) ?_
    refine lv_iload_n hx hb dX2_liesAmong_10 rfl (lv_at hl 0 rfl) ?_
    refine lv_iload_n hx hb dX2_liesAmong_11 rfl (lv_at hl 1 rfl) ?_
    refine va_mmax hx hb (by rw [hml]; exact hl.1.symm) hown (hts _ mG_16_13) (hts _ mG_16_14) (hts _ mG_16_11) (hts _ mG_16_15) (Nat.le_of_ble_eq_true rfl) (Nat.le_of_ble_eq_true rfl) (Nat.le_refl _) (Nat.le_refl _) dX2_liesAmong_12 ?_
    refine lv_icmp_gt (tgt := 22) hx hb dX2_liesAmong_15 (by decide) (fun c2 => ?_) (fun c2 => ?_)
    · skip
      refine lv_iconst (v := (0 : Int32)) hx hb dX2_liesAmong_22 (by decide) ?_
      exact rp_z hQ hx hb hr hlk hS (Eq.symm (by simp only [f_X2_liesAmong, if_neg c1, if_pos c2])) (by decide) dX2_liesAmong_23
    · skip
      refine lv_iconst (v := (1 : Int32)) hx hb dX2_liesAmong_18 (by decide) ?_
      refine lv_goto (tgt := 23) hx hb dX2_liesAmong_19 (by decide) ?_
      exact rp_z hQ hx hb hr hlk hS (Eq.symm (by simp only [f_X2_liesAmong, if_neg c1, if_neg c2])) (by decide) dX2_liesAmong_23
/-! X2_has -/
theorem hs_X2_has : yX2_has.cls ≠ "java/lang/invoke/MethodHandle" ∧ yX2_has.cls ≠ "java/lang/invoke/VarHandle" ∧ (parseMethodDescriptor yX2_has.desc).map (fun d => d.parameters.length) = some 1 := by decide +kernel
theorem hd_X2_has : yX2_has.cls = RX2 ∧ yX2_has.cls ≠ "java/lang/invoke/MethodHandle" ∧ yX2_has.cls ≠ "java/lang/invoke/VarHandle" ∧ (parseMethodDescriptor yX2_has.desc).map (fun d => d.parameters.length) = some 1 := ⟨rfl, hs_X2_has⟩
def f_X2_has (v0 : Int32) (p1 : Int32) : Int32 := (if p1 < 0 then (0 : Int32) else (if v0 ≤ p1 then (0 : Int32) else (1 : Int32)))
abbrev rm_X2_has : Room := { frames := 0, cells := 0, slots := 0, locals := 0 }
set_option maxHeartbeats 8000000 in
set_option maxRecDepth 100000 in
theorem c_X2_has (l : Launch) (dC : Nat → ClassId) (dI : Nat → Nat → Nat) (a : Nat → Nat) (cI cJ : ClassId) (xs : Nat → Int32) (ys : Nat → Int32) (pl : Nat → Int32) (kp : Nat → Int32) (lp : Nat → Int64) (lq : Nat → Int64) (lr : Nat → Int64) (v0 : Int32) (v1 : Int32) (v2 : Int32) (v3 : Int32) (v4 : Int32) (v5 : Int32) (v6 : Int32) (v7 : Int32) (v8 : Int32) (v9 : Int32) (v10 : Int32) (p1 : Int32) : Met l yX2_has (Cond.code yX2_has cX2_has 2 (some .boolean) :: lw_G) rm_X2_has (pPc (dC, dI) (tIJ cI cJ) (wC a cI cJ xs ys pl kp lp lq lr v0 v1 v2 v3 v4 v5 v6 v7 v8 v9 v10) [.ref (a 1), .int p1]) (pQi (f_X2_has v0 p1)) 0 0 pNo := by
  refine pm_of (by decide) (Nat.le_of_ble_eq_true rfl) ?_
  intro p e s m args below meth c Q ls hQ hx hb hr hlk hml hown hts hP hK hS hl
  have hown : s.vm.findClass RX2 = some m.cls := hown
  have hl : lv_has ls 2 [(0, .ref (a 1)), (1, .int p1)] := hl
  refine lv_iload_n hx hb dX2_has_0 rfl (lv_at hl 1 rfl) ?_
  refine lv_if_lt (tgt := 16) hx hb dX2_has_1 (by decide) (fun c1 => ?_) (fun c1 => ?_)
  · skip
    refine lv_iconst (v := (0 : Int32)) hx hb dX2_has_16 (by decide) ?_
    exact rp_z hQ hx hb hr hlk hS (Eq.symm (by simp only [f_X2_has, if_pos c1])) (by decide) dX2_has_17
  · skip
    refine lv_iload_n hx hb dX2_has_4 rfl (lv_at hl 1 rfl) ?_
    refine lv_aload_n hx hb dX2_has_5 rfl (lv_at hl 0 rfl) ?_
    refine va_get (D := (dC, dI)) (ci := 6) (v := .int v0) (C := RX2) (T := TX2) (N := 3) hx hb hts (fun _ h => gI_wsX20 h) hown hK.1 hP 1 rfl rfl 2 (by decide) (hts _ mG_2_16) (fun _ h9 => h9) rfl dX2_has_6 ?_
    refine lv_icmp_ge (tgt := 16) hx hb dX2_has_9 (by decide) (fun c2 => ?_) (fun c2 => ?_)
    · skip
      refine lv_iconst (v := (0 : Int32)) hx hb dX2_has_16 (by decide) ?_
      exact rp_z hQ hx hb hr hlk hS (Eq.symm (by simp only [f_X2_has, if_neg c1, if_pos c2])) (by decide) dX2_has_17
    · skip
      refine lv_iconst (v := (1 : Int32)) hx hb dX2_has_12 (by decide) ?_
      refine lv_goto (tgt := 17) hx hb dX2_has_13 (by decide) ?_
      exact rp_z hQ hx hb hr hlk hS (Eq.symm (by simp only [f_X2_has, if_neg c1, if_neg c2])) (by decide) dX2_has_17
/-! X2_hasAll -/
theorem hs_X2_hasAll : yX2_hasAll.cls ≠ "java/lang/invoke/MethodHandle" ∧ yX2_hasAll.cls ≠ "java/lang/invoke/VarHandle" ∧ (parseMethodDescriptor yX2_hasAll.desc).map (fun d => d.parameters.length) = some 3 := by decide +kernel
theorem hd_X2_hasAll : yX2_hasAll.cls = RX2 ∧ yX2_hasAll.cls ≠ "java/lang/invoke/MethodHandle" ∧ yX2_hasAll.cls ≠ "java/lang/invoke/VarHandle" ∧ (parseMethodDescriptor yX2_hasAll.desc).map (fun d => d.parameters.length) = some 3 := ⟨rfl, hs_X2_hasAll⟩
def f_X2_hasAll (v0 : Int32) (p1 : Int32) (p2 : Int32) (p3 : Int32) : Int32 := (if (f_X2_has v0 p1) = 0 then (0 : Int32) else (if (f_X2_has v0 p2) = 0 then (0 : Int32) else (if (f_X2_has v0 p3) = 0 then (0 : Int32) else (1 : Int32))))
abbrev rm_X2_hasAll : Room := { frames := 1, cells := 0, slots := 0, locals := 21 }
set_option maxHeartbeats 8000000 in
set_option maxRecDepth 100000 in
theorem c_X2_hasAll (l : Launch) (dC : Nat → ClassId) (dI : Nat → Nat → Nat) (a : Nat → Nat) (cI cJ : ClassId) (xs : Nat → Int32) (ys : Nat → Int32) (pl : Nat → Int32) (kp : Nat → Int32) (lp : Nat → Int64) (lq : Nat → Int64) (lr : Nat → Int64) (v0 : Int32) (v1 : Int32) (v2 : Int32) (v3 : Int32) (v4 : Int32) (v5 : Int32) (v6 : Int32) (v7 : Int32) (v8 : Int32) (v9 : Int32) (v10 : Int32) (p1 : Int32) (p2 : Int32) (p3 : Int32) : Met l yX2_hasAll (Cond.code yX2_hasAll cX2_hasAll 4 (some .boolean) :: lw_G) rm_X2_hasAll (pPc (dC, dI) (tIJ cI cJ) (wC a cI cJ xs ys pl kp lp lq lr v0 v1 v2 v3 v4 v5 v6 v7 v8 v9 v10) [.ref (a 1), .int p1, .int p2, .int p3]) (pQi (f_X2_hasAll v0 p1 p2 p3)) 0 0 pNo := by
  refine pm_of (by decide) (Nat.le_of_ble_eq_true rfl) ?_
  intro p e s m args below meth c Q ls hQ hx hb hr hlk hml hown hts hP hK hS hl
  have hown : s.vm.findClass RX2 = some m.cls := hown
  have hl : lv_has ls 4 [(0, .ref (a 1)), (1, .int p1), (2, .int p2), (3, .int p3)] := hl
  refine lv_aload_n hx hb dX2_hasAll_0 rfl (lv_at hl 0 rfl) ?_
  refine lv_iload_n hx hb dX2_hasAll_1 rfl (lv_at hl 1 rfl) ?_
  refine cp_i (va_runV (As := [.int p1]) (rest := []) ⟨hx, hb, hml, hown, hts⟩ (c_X2_has l dC dI a cI cJ xs ys pl kp lp lq lr v0 v1 v2 v3 v4 v5 v6 v7 v8 v9 v10 p1 ) (cwV 1 hts (gG_V mG_9_15 mG_7_14 mG_7_15 mG_1_16 (gG_c mG_7_16 gG_G)) rfl rfl rfl hd_X2_has ⟨Nat.le_of_ble_eq_true rfl, Nat.le_of_ble_eq_true rfl⟩) (pPcV (ci := 6) (q0 := 1) hK hP rfl rfl) rfl rfl hl.1 rfl (lv_room (Nat.le_of_ble_eq_true rfl)) dX2_hasAll_2 ⟨Nat.le_of_ble_eq_true rfl, Nat.le_of_ble_eq_true rfl⟩) hP hS (fun H hP hS => ?_)
  refine lv_if_eq (tgt := 28) hx hb dX2_hasAll_5 (by decide) (fun c1 => ?_) (fun c1 => ?_)
  · skip
    refine lv_iconst (v := (0 : Int32)) hx hb dX2_hasAll_28 (by decide) ?_
    exact rp_z hQ hx hb hr hlk hS (Eq.symm (by simp only [f_X2_hasAll, if_pos c1])) (by decide) dX2_hasAll_29
  · skip
    refine lv_aload_n hx hb dX2_hasAll_8 rfl (lv_at hl 0 rfl) ?_
    refine lv_iload_n hx hb dX2_hasAll_9 rfl (lv_at hl 2 rfl) ?_
    refine cp_i (va_runV (As := [.int p2]) (rest := []) ⟨hx, hb, hml, hown, hts⟩ (c_X2_has l dC dI a cI cJ xs ys pl kp lp lq lr v0 v1 v2 v3 v4 v5 v6 v7 v8 v9 v10 p2 ) (cwV 1 hts (gG_V mG_9_15 mG_7_14 mG_7_15 mG_1_16 (gG_c mG_7_16 gG_G)) rfl rfl rfl hd_X2_has ⟨Nat.le_of_ble_eq_true rfl, Nat.le_of_ble_eq_true rfl⟩) (pPcV (ci := 6) (q0 := 1) hK hP rfl rfl) rfl rfl hl.1 rfl (lv_room (Nat.le_of_ble_eq_true rfl)) dX2_hasAll_10 ⟨Nat.le_of_ble_eq_true rfl, Nat.le_of_ble_eq_true rfl⟩) hP hS (fun H hP hS => ?_)
    refine lv_if_eq (tgt := 28) hx hb dX2_hasAll_13 (by decide) (fun c2 => ?_) (fun c2 => ?_)
    · skip
      refine lv_iconst (v := (0 : Int32)) hx hb dX2_hasAll_28 (by decide) ?_
      exact rp_z hQ hx hb hr hlk hS (Eq.symm (by simp only [f_X2_hasAll, if_neg c1, if_pos c2])) (by decide) dX2_hasAll_29
    · skip
      refine lv_aload_n hx hb dX2_hasAll_16 rfl (lv_at hl 0 rfl) ?_
      refine lv_iload_n hx hb dX2_hasAll_17 rfl (lv_at hl 3 rfl) ?_
      refine cp_i (va_runV (As := [.int p3]) (rest := []) ⟨hx, hb, hml, hown, hts⟩ (c_X2_has l dC dI a cI cJ xs ys pl kp lp lq lr v0 v1 v2 v3 v4 v5 v6 v7 v8 v9 v10 p3 ) (cwV 1 hts (gG_V mG_9_15 mG_7_14 mG_7_15 mG_1_16 (gG_c mG_7_16 gG_G)) rfl rfl rfl hd_X2_has ⟨Nat.le_of_ble_eq_true rfl, Nat.le_of_ble_eq_true rfl⟩) (pPcV (ci := 6) (q0 := 1) hK hP rfl rfl) rfl rfl hl.1 rfl (lv_room (Nat.le_of_ble_eq_true rfl)) dX2_hasAll_18 ⟨Nat.le_of_ble_eq_true rfl, Nat.le_of_ble_eq_true rfl⟩) hP hS (fun H hP hS => ?_)
      refine lv_if_eq (tgt := 28) hx hb dX2_hasAll_21 (by decide) (fun c3 => ?_) (fun c3 => ?_)
      · skip
        refine lv_iconst (v := (0 : Int32)) hx hb dX2_hasAll_28 (by decide) ?_
        exact rp_z hQ hx hb hr hlk hS (Eq.symm (by simp only [f_X2_hasAll, if_neg c1, if_neg c2, if_pos c3])) (by decide) dX2_hasAll_29
      · skip
        refine lv_iconst (v := (1 : Int32)) hx hb dX2_hasAll_24 (by decide) ?_
        refine lv_goto (tgt := 29) hx hb dX2_hasAll_25 (by decide) ?_
        exact rp_z hQ hx hb hr hlk hS (Eq.symm (by simp only [f_X2_hasAll, if_neg c1, if_neg c2, if_neg c3])) (by decide) dX2_hasAll_29
/-! X2_compare -/
theorem hs_X2_compare : yX2_compare.cls ≠ "java/lang/invoke/MethodHandle" ∧ yX2_compare.cls ≠ "java/lang/invoke/VarHandle" ∧ (parseMethodDescriptor yX2_compare.desc).map (fun d => d.parameters.length) = some 2 := by decide +kernel
theorem hd_X2_compare : yX2_compare.cls = RX2 ∧ yX2_compare.cls ≠ "java/lang/invoke/MethodHandle" ∧ yX2_compare.cls ≠ "java/lang/invoke/VarHandle" ∧ (parseMethodDescriptor yX2_compare.desc).map (fun d => d.parameters.length) = some 2 := ⟨rfl, hs_X2_compare⟩
def f_X2_compare (xs : Nat → Int32) (ys : Nat → Int32) (p1 : Int32) (p2 : Int32) : Int32 := (if (f_J6_compare_7cf53 (xs (Int32.toNatClampNeg p1)) (xs (Int32.toNatClampNeg p2))) = 0 then (f_J6_compare_7cf53 (ys (Int32.toNatClampNeg p1)) (ys (Int32.toNatClampNeg p2))) else (f_J6_compare_7cf53 (xs (Int32.toNatClampNeg p1)) (xs (Int32.toNatClampNeg p2))))
abbrev rm_X2_compare : Room := { frames := 1, cells := 0, slots := 0, locals := 21 }
set_option maxHeartbeats 8000000 in
set_option maxRecDepth 100000 in
theorem c_X2_compare (l : Launch) (dC : Nat → ClassId) (dI : Nat → Nat → Nat) (a : Nat → Nat) (cI cJ : ClassId) (xs : Nat → Int32) (ys : Nat → Int32) (pl : Nat → Int32) (kp : Nat → Int32) (lp : Nat → Int64) (lq : Nat → Int64) (lr : Nat → Int64) (v0 : Int32) (v1 : Int32) (v2 : Int32) (v3 : Int32) (v4 : Int32) (v5 : Int32) (v6 : Int32) (v7 : Int32) (v8 : Int32) (v9 : Int32) (v10 : Int32) (p1 : Int32) (p2 : Int32) (hi1 : vp_in p1 60) (hi2 : vp_in p2 60) : Met l yX2_compare (Cond.code yX2_compare cX2_compare 4 (some .int) :: lw_G) rm_X2_compare (pPc (dC, dI) (tIJ cI cJ) (wC a cI cJ xs ys pl kp lp lq lr v0 v1 v2 v3 v4 v5 v6 v7 v8 v9 v10) [.ref (a 1), .int p1, .int p2]) (pQi (f_X2_compare xs ys p1 p2)) 0 0 pNo := by
  refine pm_of (by decide) (Nat.le_of_ble_eq_true rfl) ?_
  intro p e s m args below meth c Q ls hQ hx hb hr hlk hml hown hts hP hK hS hl
  have hown : s.vm.findClass RX2 = some m.cls := hown
  have hl : lv_has ls 4 [(0, .ref (a 1)), (1, .int p1), (2, .int p2)] := hl
  refine lv_aload_n hx hb dX2_compare_0 rfl (lv_at hl 0 rfl) ?_
  refine va_get (D := (dC, dI)) (ci := 6) (v := .ref (a 2)) (C := RX2) (T := TX2) (N := 3) hx hb hts (fun _ h => gI_wsX20 h) hown hK.1 hP 1 rfl rfl 0 (by decide) (hts _ mG_2_14) (fun _ h9 => h9) rfl dX2_compare_1 ?_
  refine lv_iload_n hx hb dX2_compare_4 rfl (lv_at hl 1 rfl) ?_
  refine va_iald hx hb hK.1 hP 2 0 rfl rfl (by first | with_reducible assumption | exact in0_24 | exact in0_60 | decide) dX2_compare_5 ?_
  refine lv_aload_n hx hb dX2_compare_6 rfl (lv_at hl 0 rfl) ?_
  refine va_get (D := (dC, dI)) (ci := 6) (v := .ref (a 2)) (C := RX2) (T := TX2) (N := 3) hx hb hts (fun _ h => gI_wsX20 h) hown hK.1 hP 1 rfl rfl 0 (by decide) (hts _ mG_2_14) (fun _ h9 => h9) rfl dX2_compare_7 ?_
  refine lv_iload_n hx hb dX2_compare_10 rfl (lv_at hl 2 rfl) ?_
  refine va_iald hx hb hK.1 hP 2 0 rfl rfl (by first | with_reducible assumption | exact in0_24 | exact in0_60 | decide) dX2_compare_11 ?_
  refine cp_i (va_runS (As := [.int (xs (Int32.toNatClampNeg p1)), .int (xs (Int32.toNatClampNeg p2))]) (rest := []) ⟨hx, hb, hml, hown, hts⟩ (c_J6_compare_7cf53 l (xs (Int32.toNatClampNeg p1)) (xs (Int32.toNatClampNeg p2)) ) (va_cwS 2 hts (gG_S mG_10_0 mG_10_1 mG_10_2 (gG_c mG_10_3 gG_G)) rfl rfl rfl hs_J6_compare_7cf53 ⟨Nat.le_of_ble_eq_true rfl, Nat.le_of_ble_eq_true rfl⟩) nPcS rfl rfl hl.1 rfl (lv_room (Nat.le_of_ble_eq_true rfl)) dX2_compare_12 ⟨Nat.le_of_ble_eq_true rfl, Nat.le_of_ble_eq_true rfl⟩) hP hS (fun H hP hS => ?_)
  refine lv_topi (fun y1 ey1 => ?_)
  refine lv_istore_n (lv' := [(3, .int y1), (0, .ref (a 1)), (1, .int p1), (2, .int p2)]) hx hb dX2_compare_15 rfl hl (by decide) rfl (fun ls hl => ?_)
  refine lv_iload_n hx hb dX2_compare_16 rfl (lv_at hl 0 rfl) ?_
  refine lv_if_eq (tgt := 24) hx hb dX2_compare_17 (by decide) (fun c2 => ?_) (fun c2 => ?_)
  · skip
    refine lv_aload_n hx hb dX2_compare_24 rfl (lv_at hl 1 rfl) ?_
    refine va_get (D := (dC, dI)) (ci := 6) (v := .ref (a 3)) (C := RX2) (T := TX2) (N := 3) hx hb hts (fun _ h => gI_wsX20 h) hown hK.1 hP 1 rfl rfl 1 (by decide) (hts _ mG_2_15) (fun _ h9 => h9) rfl dX2_compare_25 ?_
    refine lv_iload_n hx hb dX2_compare_28 rfl (lv_at hl 2 rfl) ?_
    refine va_iald hx hb hK.1 hP 3 0 rfl rfl (by first | with_reducible assumption | exact in0_24 | exact in0_60 | decide) dX2_compare_29 ?_
    refine lv_aload_n hx hb dX2_compare_30 rfl (lv_at hl 1 rfl) ?_
    refine va_get (D := (dC, dI)) (ci := 6) (v := .ref (a 3)) (C := RX2) (T := TX2) (N := 3) hx hb hts (fun _ h => gI_wsX20 h) hown hK.1 hP 1 rfl rfl 1 (by decide) (hts _ mG_2_15) (fun _ h9 => h9) rfl dX2_compare_31 ?_
    refine lv_iload_n hx hb dX2_compare_34 rfl (lv_at hl 3 rfl) ?_
    refine va_iald hx hb hK.1 hP 3 0 rfl rfl (by first | with_reducible assumption | exact in0_24 | exact in0_60 | decide) dX2_compare_35 ?_
    refine cp_i (va_runS (As := [.int (ys (Int32.toNatClampNeg p1)), .int (ys (Int32.toNatClampNeg p2))]) (rest := []) ⟨hx, hb, hml, hown, hts⟩ (c_J6_compare_7cf53 l (ys (Int32.toNatClampNeg p1)) (ys (Int32.toNatClampNeg p2)) ) (va_cwS 2 hts (gG_S mG_10_0 mG_10_1 mG_10_2 (gG_c mG_10_3 gG_G)) rfl rfl rfl hs_J6_compare_7cf53 ⟨Nat.le_of_ble_eq_true rfl, Nat.le_of_ble_eq_true rfl⟩) nPcS rfl rfl hl.1 rfl (lv_room (Nat.le_of_ble_eq_true rfl)) dX2_compare_36 ⟨Nat.le_of_ble_eq_true rfl, Nat.le_of_ble_eq_true rfl⟩) hP hS (fun H hP hS => ?_)
    exact rp_i hQ hx hb hr hlk hS (Eq.symm (by subst ey1; simp only [f_X2_compare, if_pos c2])) dX2_compare_39
  · skip
    refine lv_iload_n hx hb dX2_compare_20 rfl (lv_at hl 0 rfl) ?_
    refine lv_goto (tgt := 39) hx hb dX2_compare_21 (by decide) ?_
    exact rp_i hQ hx hb hr hlk hS (Eq.symm (by subst ey1; simp only [f_X2_compare, if_neg c2])) dX2_compare_39
/-! X2_equal -/
theorem hs_X2_equal : yX2_equal.cls ≠ "java/lang/invoke/MethodHandle" ∧ yX2_equal.cls ≠ "java/lang/invoke/VarHandle" ∧ (parseMethodDescriptor yX2_equal.desc).map (fun d => d.parameters.length) = some 2 := by decide +kernel
theorem hd_X2_equal : yX2_equal.cls = RX2 ∧ yX2_equal.cls ≠ "java/lang/invoke/MethodHandle" ∧ yX2_equal.cls ≠ "java/lang/invoke/VarHandle" ∧ (parseMethodDescriptor yX2_equal.desc).map (fun d => d.parameters.length) = some 2 := ⟨rfl, hs_X2_equal⟩
def f_X2_equal (xs : Nat → Int32) (ys : Nat → Int32) (p1 : Int32) (p2 : Int32) : Int32 := (if (f_X2_compare xs ys p1 p2) = 0 then (1 : Int32) else (0 : Int32))
abbrev rm_X2_equal : Room := { frames := 2, cells := 0, slots := 0, locals := 44 }
set_option maxHeartbeats 8000000 in
set_option maxRecDepth 100000 in
theorem c_X2_equal (l : Launch) (dC : Nat → ClassId) (dI : Nat → Nat → Nat) (a : Nat → Nat) (cI cJ : ClassId) (xs : Nat → Int32) (ys : Nat → Int32) (pl : Nat → Int32) (kp : Nat → Int32) (lp : Nat → Int64) (lq : Nat → Int64) (lr : Nat → Int64) (v0 : Int32) (v1 : Int32) (v2 : Int32) (v3 : Int32) (v4 : Int32) (v5 : Int32) (v6 : Int32) (v7 : Int32) (v8 : Int32) (v9 : Int32) (v10 : Int32) (p1 : Int32) (p2 : Int32) (hi1 : vp_in p1 60) (hi2 : vp_in p2 60) : Met l yX2_equal (Cond.code yX2_equal cX2_equal 3 (some .boolean) :: lw_G) rm_X2_equal (pPc (dC, dI) (tIJ cI cJ) (wC a cI cJ xs ys pl kp lp lq lr v0 v1 v2 v3 v4 v5 v6 v7 v8 v9 v10) [.ref (a 1), .int p1, .int p2]) (pQi (f_X2_equal xs ys p1 p2)) 0 0 pNo := by
  refine pm_of (by decide) (Nat.le_of_ble_eq_true rfl) ?_
  intro p e s m args below meth c Q ls hQ hx hb hr hlk hml hown hts hP hK hS hl
  have hown : s.vm.findClass RX2 = some m.cls := hown
  have hl : lv_has ls 3 [(0, .ref (a 1)), (1, .int p1), (2, .int p2)] := hl
  refine lv_aload_n hx hb dX2_equal_0 rfl (lv_at hl 0 rfl) ?_
  refine lv_iload_n hx hb dX2_equal_1 rfl (lv_at hl 1 rfl) ?_
  refine lv_iload_n hx hb dX2_equal_2 rfl (lv_at hl 2 rfl) ?_
  refine cp_i (va_runV (As := [.int p1, .int p2]) (rest := []) ⟨hx, hb, hml, hown, hts⟩ (c_X2_compare l dC dI a cI cJ xs ys pl kp lp lq lr v0 v1 v2 v3 v4 v5 v6 v7 v8 v9 v10 p1 p2 (by first | with_reducible assumption | exact in0_24 | exact in0_60 | decide) (by first | with_reducible assumption | exact in0_24 | exact in0_60 | decide)) (cwV 2 hts (gG_V mG_9_20 mG_9_21 mG_9_22 mG_1_16 (gG_c mG_9_23 gG_G)) rfl rfl rfl hd_X2_compare ⟨Nat.le_of_ble_eq_true rfl, Nat.le_of_ble_eq_true rfl⟩) (pPcV (ci := 6) (q0 := 1) hK hP rfl rfl) rfl rfl hl.1 rfl (lv_room (Nat.le_of_ble_eq_true rfl)) dX2_equal_3 ⟨Nat.le_of_ble_eq_true rfl, Nat.le_of_ble_eq_true rfl⟩) hP hS (fun H hP hS => ?_)
  refine lv_if_ne (tgt := 13) hx hb dX2_equal_6 (by decide) (fun c1 => ?_) (fun c1 => ?_)
  · skip
    refine lv_iconst (v := (0 : Int32)) hx hb dX2_equal_13 (by decide) ?_
    exact rp_z hQ hx hb hr hlk hS (Eq.symm (by simp only [f_X2_equal, if_neg c1])) (by decide) dX2_equal_14
  · skip
    refine lv_iconst (v := (1 : Int32)) hx hb dX2_equal_9 (by decide) ?_
    refine lv_goto (tgt := 14) hx hb dX2_equal_10 (by decide) ?_
    exact rp_z hQ hx hb hr hlk hS (Eq.symm (by simp only [f_X2_equal, if_pos c1])) (by decide) dX2_equal_14
/-! X2_turn -/
theorem hs_X2_turn : yX2_turn.cls ≠ "java/lang/invoke/MethodHandle" ∧ yX2_turn.cls ≠ "java/lang/invoke/VarHandle" ∧ (parseMethodDescriptor yX2_turn.desc).map (fun d => d.parameters.length) = some 3 := by decide +kernel
theorem hd_X2_turn : yX2_turn.cls = RX2 ∧ yX2_turn.cls ≠ "java/lang/invoke/MethodHandle" ∧ yX2_turn.cls ≠ "java/lang/invoke/VarHandle" ∧ (parseMethodDescriptor yX2_turn.desc).map (fun d => d.parameters.length) = some 3 := ⟨rfl, hs_X2_turn⟩
def f_X2_turn (xs : Nat → Int32) (ys : Nat → Int32) (p1 : Int32) (p2 : Int32) (p3 : Int32) : Int32 := (f_X5_signOf (((Int32.toInt64 ((xs (Int32.toNatClampNeg p2)) - (xs (Int32.toNatClampNeg p1)))) * (Int32.toInt64 ((ys (Int32.toNatClampNeg p3)) - (ys (Int32.toNatClampNeg p1))))) - ((Int32.toInt64 ((ys (Int32.toNatClampNeg p2)) - (ys (Int32.toNatClampNeg p1)))) * (Int32.toInt64 ((xs (Int32.toNatClampNeg p3)) - (xs (Int32.toNatClampNeg p1)))))))
abbrev rm_X2_turn : Room := { frames := 2, cells := 0, slots := 0, locals := 44 }
set_option maxHeartbeats 8000000 in
set_option maxRecDepth 100000 in
theorem c_X2_turn (l : Launch) (dC : Nat → ClassId) (dI : Nat → Nat → Nat) (a : Nat → Nat) (cI cJ : ClassId) (xs : Nat → Int32) (ys : Nat → Int32) (pl : Nat → Int32) (kp : Nat → Int32) (lp : Nat → Int64) (lq : Nat → Int64) (lr : Nat → Int64) (v0 : Int32) (v1 : Int32) (v2 : Int32) (v3 : Int32) (v4 : Int32) (v5 : Int32) (v6 : Int32) (v7 : Int32) (v8 : Int32) (v9 : Int32) (v10 : Int32) (p1 : Int32) (p2 : Int32) (p3 : Int32) (hi1 : vp_in p1 60) (hi2 : vp_in p2 60) (hi3 : vp_in p3 60) : Met l yX2_turn (Cond.code yX2_turn cX2_turn 8 (some .int) :: lw_G) rm_X2_turn (pPc (dC, dI) (tIJ cI cJ) (wC a cI cJ xs ys pl kp lp lq lr v0 v1 v2 v3 v4 v5 v6 v7 v8 v9 v10) [.ref (a 1), .int p1, .int p2, .int p3]) (pQi (f_X2_turn xs ys p1 p2 p3)) 0 0 pNo := by
  refine pm_of (by decide) (Nat.le_of_ble_eq_true rfl) ?_
  intro p e s m args below meth c Q ls hQ hx hb hr hlk hml hown hts hP hK hS hl
  have hown : s.vm.findClass RX2 = some m.cls := hown
  have hl : lv_has ls 8 [(0, .ref (a 1)), (1, .int p1), (2, .int p2), (3, .int p3)] := hl
  refine lv_aload_n hx hb dX2_turn_0 rfl (lv_at hl 0 rfl) ?_
  refine va_get (D := (dC, dI)) (ci := 6) (v := .ref (a 2)) (C := RX2) (T := TX2) (N := 3) hx hb hts (fun _ h => gI_wsX20 h) hown hK.1 hP 1 rfl rfl 0 (by decide) (hts _ mG_2_14) (fun _ h9 => h9) rfl dX2_turn_1 ?_
  refine lv_iload_n hx hb dX2_turn_4 rfl (lv_at hl 2 rfl) ?_
  refine va_iald hx hb hK.1 hP 2 0 rfl rfl (by first | with_reducible assumption | exact in0_24 | exact in0_60 | decide) dX2_turn_5 ?_
  refine lv_aload_n hx hb dX2_turn_6 rfl (lv_at hl 0 rfl) ?_
  refine va_get (D := (dC, dI)) (ci := 6) (v := .ref (a 2)) (C := RX2) (T := TX2) (N := 3) hx hb hts (fun _ h => gI_wsX20 h) hown hK.1 hP 1 rfl rfl 0 (by decide) (hts _ mG_2_14) (fun _ h9 => h9) rfl dX2_turn_7 ?_
  refine lv_iload_n hx hb dX2_turn_10 rfl (lv_at hl 1 rfl) ?_
  refine va_iald hx hb hK.1 hP 2 0 rfl rfl (by first | with_reducible assumption | exact in0_24 | exact in0_60 | decide) dX2_turn_11 ?_
  refine lv_isub hx hb dX2_turn_12 ?_
  refine lv_i2l hx hb dX2_turn_13 rfl ?_
  refine lv_aload_n hx hb dX2_turn_14 rfl (lv_at hl 0 rfl) ?_
  refine va_get (D := (dC, dI)) (ci := 6) (v := .ref (a 3)) (C := RX2) (T := TX2) (N := 3) hx hb hts (fun _ h => gI_wsX20 h) hown hK.1 hP 1 rfl rfl 1 (by decide) (hts _ mG_2_15) (fun _ h9 => h9) rfl dX2_turn_15 ?_
  refine lv_iload_n hx hb dX2_turn_18 rfl (lv_at hl 3 rfl) ?_
  refine va_iald hx hb hK.1 hP 3 0 rfl rfl (by first | with_reducible assumption | exact in0_24 | exact in0_60 | decide) dX2_turn_19 ?_
  refine lv_aload_n hx hb dX2_turn_20 rfl (lv_at hl 0 rfl) ?_
  refine va_get (D := (dC, dI)) (ci := 6) (v := .ref (a 3)) (C := RX2) (T := TX2) (N := 3) hx hb hts (fun _ h => gI_wsX20 h) hown hK.1 hP 1 rfl rfl 1 (by decide) (hts _ mG_2_15) (fun _ h9 => h9) rfl dX2_turn_21 ?_
  refine lv_iload_n hx hb dX2_turn_24 rfl (lv_at hl 1 rfl) ?_
  refine va_iald hx hb hK.1 hP 3 0 rfl rfl (by first | with_reducible assumption | exact in0_24 | exact in0_60 | decide) dX2_turn_25 ?_
  refine lv_isub hx hb dX2_turn_26 ?_
  refine lv_i2l hx hb dX2_turn_27 rfl ?_
  refine lv_lmul hx hb dX2_turn_28 ?_
  refine lv_topl (fun y1 ey1 => ?_)
  refine lv_lstore (lv' := [(4, .long y1), (0, .ref (a 1)), (1, .int p1), (2, .int p2), (3, .int p3)]) hx hb dX2_turn_29 hl (by decide) rfl (fun ls hl => ?_)
  refine lv_aload_n hx hb dX2_turn_31 rfl (lv_at hl 1 rfl) ?_
  refine va_get (D := (dC, dI)) (ci := 6) (v := .ref (a 3)) (C := RX2) (T := TX2) (N := 3) hx hb hts (fun _ h => gI_wsX20 h) hown hK.1 hP 1 rfl rfl 1 (by decide) (hts _ mG_2_15) (fun _ h9 => h9) rfl dX2_turn_32 ?_
  refine lv_iload_n hx hb dX2_turn_35 rfl (lv_at hl 3 rfl) ?_
  refine va_iald hx hb hK.1 hP 3 0 rfl rfl (by first | with_reducible assumption | exact in0_24 | exact in0_60 | decide) dX2_turn_36 ?_
  refine lv_aload_n hx hb dX2_turn_37 rfl (lv_at hl 1 rfl) ?_
  refine va_get (D := (dC, dI)) (ci := 6) (v := .ref (a 3)) (C := RX2) (T := TX2) (N := 3) hx hb hts (fun _ h => gI_wsX20 h) hown hK.1 hP 1 rfl rfl 1 (by decide) (hts _ mG_2_15) (fun _ h9 => h9) rfl dX2_turn_38 ?_
  refine lv_iload_n hx hb dX2_turn_41 rfl (lv_at hl 2 rfl) ?_
  refine va_iald hx hb hK.1 hP 3 0 rfl rfl (by first | with_reducible assumption | exact in0_24 | exact in0_60 | decide) dX2_turn_42 ?_
  refine lv_isub hx hb dX2_turn_43 ?_
  refine lv_i2l hx hb dX2_turn_44 rfl ?_
  refine lv_aload_n hx hb dX2_turn_45 rfl (lv_at hl 1 rfl) ?_
  refine va_get (D := (dC, dI)) (ci := 6) (v := .ref (a 2)) (C := RX2) (T := TX2) (N := 3) hx hb hts (fun _ h => gI_wsX20 h) hown hK.1 hP 1 rfl rfl 0 (by decide) (hts _ mG_2_14) (fun _ h9 => h9) rfl dX2_turn_46 ?_
  refine lv_iload_n hx hb dX2_turn_49 rfl (lv_at hl 4 rfl) ?_
  refine va_iald hx hb hK.1 hP 2 0 rfl rfl (by first | with_reducible assumption | exact in0_24 | exact in0_60 | decide) dX2_turn_50 ?_
  refine lv_aload_n hx hb dX2_turn_51 rfl (lv_at hl 1 rfl) ?_
  refine va_get (D := (dC, dI)) (ci := 6) (v := .ref (a 2)) (C := RX2) (T := TX2) (N := 3) hx hb hts (fun _ h => gI_wsX20 h) hown hK.1 hP 1 rfl rfl 0 (by decide) (hts _ mG_2_14) (fun _ h9 => h9) rfl dX2_turn_52 ?_
  refine lv_iload_n hx hb dX2_turn_55 rfl (lv_at hl 2 rfl) ?_
  refine va_iald hx hb hK.1 hP 2 0 rfl rfl (by first | with_reducible assumption | exact in0_24 | exact in0_60 | decide) dX2_turn_56 ?_
  refine lv_isub hx hb dX2_turn_57 ?_
  refine lv_i2l hx hb dX2_turn_58 rfl ?_
  refine lv_lmul hx hb dX2_turn_59 ?_
  refine lv_topl (fun y2 ey2 => ?_)
  refine lv_lstore (lv' := [(6, .long y2), (4, .long y1), (0, .ref (a 1)), (1, .int p1), (2, .int p2), (3, .int p3)]) hx hb dX2_turn_60 hl (by decide) rfl (fun ls hl => ?_)
  refine lv_lload hx hb dX2_turn_62 (lv_at hl 1 rfl) ?_
  refine lv_lload hx hb dX2_turn_64 (lv_at hl 0 rfl) ?_
  refine lv_lsub hx hb dX2_turn_66 ?_
  refine cp_i (va_runSN (As := [.long (y1 - y2)]) (rest := []) ⟨hx, hb, hml, hown, hts⟩ (c_X5_signOf l (y1 - y2) ) ⟨va_cnB 1 hts (gG_c mG_11_11 gG_G) rfl rfl rfl hK.2.1 (hts _ mG_1_2) hs_X5_signOf ⟨Nat.le_of_ble_eq_true rfl, Nat.le_of_ble_eq_true rfl⟩, hts _ mG_11_10, trivial⟩ nPcS rfl rfl hl.1 rfl (lv_room (Nat.le_of_ble_eq_true rfl)) dX2_turn_67 ⟨Nat.le_of_ble_eq_true rfl, Nat.le_of_ble_eq_true rfl⟩) hP hS (fun H hP hS => ?_)
  exact rp_i hQ hx hb hr hlk hS (Eq.symm (by subst ey1; subst ey2; simp only [f_X2_turn])) dX2_turn_70
/-! X2_ring -/
theorem hs_X2_ring : yX2_ring.cls ≠ "java/lang/invoke/MethodHandle" ∧ yX2_ring.cls ≠ "java/lang/invoke/VarHandle" ∧ (parseMethodDescriptor yX2_ring.desc).map (fun d => d.parameters.length) = some 4 := by decide +kernel
theorem hd_X2_ring : yX2_ring.cls = RX2 ∧ yX2_ring.cls ≠ "java/lang/invoke/MethodHandle" ∧ yX2_ring.cls ≠ "java/lang/invoke/VarHandle" ∧ (parseMethodDescriptor yX2_ring.desc).map (fun d => d.parameters.length) = some 4 := ⟨rfl, hs_X2_ring⟩
def f_X2_ring (xs : Nat → Int32) (ys : Nat → Int32) (p1 : Int32) (p2 : Int32) (p3 : Int32) (p4 : Int32) : Int32 := ((f_X2_turn xs ys p1 p2 p3) * (f_X5_signOf ((((((Int32.toInt64 ((xs (Int32.toNatClampNeg p1)) - (xs (Int32.toNatClampNeg p4)))) * (Int32.toInt64 ((xs (Int32.toNatClampNeg p1)) - (xs (Int32.toNatClampNeg p4))))) + ((Int32.toInt64 ((ys (Int32.toNatClampNeg p1)) - (ys (Int32.toNatClampNeg p4)))) * (Int32.toInt64 ((ys (Int32.toNatClampNeg p1)) - (ys (Int32.toNatClampNeg p4)))))) * (((Int32.toInt64 ((xs (Int32.toNatClampNeg p2)) - (xs (Int32.toNatClampNeg p4)))) * (Int32.toInt64 ((ys (Int32.toNatClampNeg p3)) - (ys (Int32.toNatClampNeg p4))))) - ((Int32.toInt64 ((ys (Int32.toNatClampNeg p2)) - (ys (Int32.toNatClampNeg p4)))) * (Int32.toInt64 ((xs (Int32.toNatClampNeg p3)) - (xs (Int32.toNatClampNeg p4))))))) + ((((Int32.toInt64 ((xs (Int32.toNatClampNeg p2)) - (xs (Int32.toNatClampNeg p4)))) * (Int32.toInt64 ((xs (Int32.toNatClampNeg p2)) - (xs (Int32.toNatClampNeg p4))))) + ((Int32.toInt64 ((ys (Int32.toNatClampNeg p2)) - (ys (Int32.toNatClampNeg p4)))) * (Int32.toInt64 ((ys (Int32.toNatClampNeg p2)) - (ys (Int32.toNatClampNeg p4)))))) * (((Int32.toInt64 ((xs (Int32.toNatClampNeg p3)) - (xs (Int32.toNatClampNeg p4)))) * (Int32.toInt64 ((ys (Int32.toNatClampNeg p1)) - (ys (Int32.toNatClampNeg p4))))) - ((Int32.toInt64 ((ys (Int32.toNatClampNeg p3)) - (ys (Int32.toNatClampNeg p4)))) * (Int32.toInt64 ((xs (Int32.toNatClampNeg p1)) - (xs (Int32.toNatClampNeg p4)))))))) + ((((Int32.toInt64 ((xs (Int32.toNatClampNeg p3)) - (xs (Int32.toNatClampNeg p4)))) * (Int32.toInt64 ((xs (Int32.toNatClampNeg p3)) - (xs (Int32.toNatClampNeg p4))))) + ((Int32.toInt64 ((ys (Int32.toNatClampNeg p3)) - (ys (Int32.toNatClampNeg p4)))) * (Int32.toInt64 ((ys (Int32.toNatClampNeg p3)) - (ys (Int32.toNatClampNeg p4)))))) * (((Int32.toInt64 ((xs (Int32.toNatClampNeg p1)) - (xs (Int32.toNatClampNeg p4)))) * (Int32.toInt64 ((ys (Int32.toNatClampNeg p2)) - (ys (Int32.toNatClampNeg p4))))) - ((Int32.toInt64 ((ys (Int32.toNatClampNeg p1)) - (ys (Int32.toNatClampNeg p4)))) * (Int32.toInt64 ((xs (Int32.toNatClampNeg p2)) - (xs (Int32.toNatClampNeg p4))))))))))
abbrev rm_X2_ring : Room := { frames := 3, cells := 0, slots := 0, locals := 71 }
set_option maxHeartbeats 8000000 in
set_option maxRecDepth 100000 in
theorem c_X2_ring (l : Launch) (dC : Nat → ClassId) (dI : Nat → Nat → Nat) (a : Nat → Nat) (cI cJ : ClassId) (xs : Nat → Int32) (ys : Nat → Int32) (pl : Nat → Int32) (kp : Nat → Int32) (lp : Nat → Int64) (lq : Nat → Int64) (lr : Nat → Int64) (v0 : Int32) (v1 : Int32) (v2 : Int32) (v3 : Int32) (v4 : Int32) (v5 : Int32) (v6 : Int32) (v7 : Int32) (v8 : Int32) (v9 : Int32) (v10 : Int32) (p1 : Int32) (p2 : Int32) (p3 : Int32) (p4 : Int32) (hi1 : vp_in p1 60) (hi2 : vp_in p2 60) (hi3 : vp_in p3 60) (hi4 : vp_in p4 60) : Met l yX2_ring (Cond.code yX2_ring cX2_ring 19 (some .int) :: lw_G) rm_X2_ring (pPc (dC, dI) (tIJ cI cJ) (wC a cI cJ xs ys pl kp lp lq lr v0 v1 v2 v3 v4 v5 v6 v7 v8 v9 v10) [.ref (a 1), .int p1, .int p2, .int p3, .int p4]) (pQi (f_X2_ring xs ys p1 p2 p3 p4)) 0 0 pNo := by
  refine pm_of (by decide) (Nat.le_of_ble_eq_true rfl) ?_
  intro p e s m args below meth c Q ls hQ hx hb hr hlk hml hown hts hP hK hS hl
  have hown : s.vm.findClass RX2 = some m.cls := hown
  have hl : lv_has ls 19 [(0, .ref (a 1)), (1, .int p1), (2, .int p2), (3, .int p3), (4, .int p4)] := hl
  refine lv_aload_n hx hb dX2_ring_0 rfl (lv_at hl 0 rfl) ?_
  refine va_get (D := (dC, dI)) (ci := 6) (v := .ref (a 2)) (C := RX2) (T := TX2) (N := 3) hx hb hts (fun _ h => gI_wsX20 h) hown hK.1 hP 1 rfl rfl 0 (by decide) (hts _ mG_2_14) (fun _ h9 => h9) rfl dX2_ring_1 ?_
  refine lv_iload_n hx hb dX2_ring_4 rfl (lv_at hl 1 rfl) ?_
  refine va_iald hx hb hK.1 hP 2 0 rfl rfl (by first | with_reducible assumption | exact in0_24 | exact in0_60 | decide) dX2_ring_5 ?_
  refine lv_aload_n hx hb dX2_ring_6 rfl (lv_at hl 0 rfl) ?_
  refine va_get (D := (dC, dI)) (ci := 6) (v := .ref (a 2)) (C := RX2) (T := TX2) (N := 3) hx hb hts (fun _ h => gI_wsX20 h) hown hK.1 hP 1 rfl rfl 0 (by decide) (hts _ mG_2_14) (fun _ h9 => h9) rfl dX2_ring_7 ?_
  refine lv_iload hx hb dX2_ring_10 (lv_at hl 4 rfl) ?_
  refine va_iald hx hb hK.1 hP 2 0 rfl rfl (by first | with_reducible assumption | exact in0_24 | exact in0_60 | decide) dX2_ring_12 ?_
  refine lv_isub hx hb dX2_ring_13 ?_
  refine lv_i2l hx hb dX2_ring_14 rfl ?_
  refine lv_topl (fun y1 ey1 => ?_)
  refine lv_lstore (lv' := [(5, .long y1), (0, .ref (a 1)), (1, .int p1), (2, .int p2), (3, .int p3), (4, .int p4)]) hx hb dX2_ring_15 hl (by decide) rfl (fun ls hl => ?_)
  refine lv_aload_n hx hb dX2_ring_17 rfl (lv_at hl 1 rfl) ?_
  refine va_get (D := (dC, dI)) (ci := 6) (v := .ref (a 3)) (C := RX2) (T := TX2) (N := 3) hx hb hts (fun _ h => gI_wsX20 h) hown hK.1 hP 1 rfl rfl 1 (by decide) (hts _ mG_2_15) (fun _ h9 => h9) rfl dX2_ring_18 ?_
  refine lv_iload_n hx hb dX2_ring_21 rfl (lv_at hl 2 rfl) ?_
  refine va_iald hx hb hK.1 hP 3 0 rfl rfl (by first | with_reducible assumption | exact in0_24 | exact in0_60 | decide) dX2_ring_22 ?_
  refine lv_aload_n hx hb dX2_ring_23 rfl (lv_at hl 1 rfl) ?_
  refine va_get (D := (dC, dI)) (ci := 6) (v := .ref (a 3)) (C := RX2) (T := TX2) (N := 3) hx hb hts (fun _ h => gI_wsX20 h) hown hK.1 hP 1 rfl rfl 1 (by decide) (hts _ mG_2_15) (fun _ h9 => h9) rfl dX2_ring_24 ?_
  refine lv_iload hx hb dX2_ring_27 (lv_at hl 5 rfl) ?_
  refine va_iald hx hb hK.1 hP 3 0 rfl rfl (by first | with_reducible assumption | exact in0_24 | exact in0_60 | decide) dX2_ring_29 ?_
  refine lv_isub hx hb dX2_ring_30 ?_
  refine lv_i2l hx hb dX2_ring_31 rfl ?_
  refine lv_topl (fun y2 ey2 => ?_)
  refine lv_lstore (lv' := [(7, .long y2), (5, .long y1), (0, .ref (a 1)), (1, .int p1), (2, .int p2), (3, .int p3), (4, .int p4)]) hx hb dX2_ring_32 hl (by decide) rfl (fun ls hl => ?_)
  refine lv_aload_n hx hb dX2_ring_34 rfl (lv_at hl 2 rfl) ?_
  refine va_get (D := (dC, dI)) (ci := 6) (v := .ref (a 2)) (C := RX2) (T := TX2) (N := 3) hx hb hts (fun _ h => gI_wsX20 h) hown hK.1 hP 1 rfl rfl 0 (by decide) (hts _ mG_2_14) (fun _ h9 => h9) rfl dX2_ring_35 ?_
  refine lv_iload_n hx hb dX2_ring_38 rfl (lv_at hl 4 rfl) ?_
  refine va_iald hx hb hK.1 hP 2 0 rfl rfl (by first | with_reducible assumption | exact in0_24 | exact in0_60 | decide) dX2_ring_39 ?_
  refine lv_aload_n hx hb dX2_ring_40 rfl (lv_at hl 2 rfl) ?_
  refine va_get (D := (dC, dI)) (ci := 6) (v := .ref (a 2)) (C := RX2) (T := TX2) (N := 3) hx hb hts (fun _ h => gI_wsX20 h) hown hK.1 hP 1 rfl rfl 0 (by decide) (hts _ mG_2_14) (fun _ h9 => h9) rfl dX2_ring_41 ?_
  refine lv_iload hx hb dX2_ring_44 (lv_at hl 6 rfl) ?_
  refine va_iald hx hb hK.1 hP 2 0 rfl rfl (by first | with_reducible assumption | exact in0_24 | exact in0_60 | decide) dX2_ring_46 ?_
  refine lv_isub hx hb dX2_ring_47 ?_
  refine lv_i2l hx hb dX2_ring_48 rfl ?_
  refine lv_topl (fun y3 ey3 => ?_)
  refine lv_lstore (lv' := [(9, .long y3), (7, .long y2), (5, .long y1), (0, .ref (a 1)), (1, .int p1), (2, .int p2), (3, .int p3), (4, .int p4)]) hx hb dX2_ring_49 hl (by decide) rfl (fun ls hl => ?_)
  refine lv_aload_n hx hb dX2_ring_51 rfl (lv_at hl 3 rfl) ?_
  refine va_get (D := (dC, dI)) (ci := 6) (v := .ref (a 3)) (C := RX2) (T := TX2) (N := 3) hx hb hts (fun _ h => gI_wsX20 h) hown hK.1 hP 1 rfl rfl 1 (by decide) (hts _ mG_2_15) (fun _ h9 => h9) rfl dX2_ring_52 ?_
  refine lv_iload_n hx hb dX2_ring_55 rfl (lv_at hl 5 rfl) ?_
  refine va_iald hx hb hK.1 hP 3 0 rfl rfl (by first | with_reducible assumption | exact in0_24 | exact in0_60 | decide) dX2_ring_56 ?_
  refine lv_aload_n hx hb dX2_ring_57 rfl (lv_at hl 3 rfl) ?_
  refine va_get (D := (dC, dI)) (ci := 6) (v := .ref (a 3)) (C := RX2) (T := TX2) (N := 3) hx hb hts (fun _ h => gI_wsX20 h) hown hK.1 hP 1 rfl rfl 1 (by decide) (hts _ mG_2_15) (fun _ h9 => h9) rfl dX2_ring_58 ?_
  refine lv_iload hx hb dX2_ring_61 (lv_at hl 7 rfl) ?_
  refine va_iald hx hb hK.1 hP 3 0 rfl rfl (by first | with_reducible assumption | exact in0_24 | exact in0_60 | decide) dX2_ring_63 ?_
  refine lv_isub hx hb dX2_ring_64 ?_
  refine lv_i2l hx hb dX2_ring_65 rfl ?_
  refine lv_topl (fun y4 ey4 => ?_)
  refine lv_lstore (lv' := [(11, .long y4), (9, .long y3), (7, .long y2), (5, .long y1), (0, .ref (a 1)), (1, .int p1), (2, .int p2), (3, .int p3), (4, .int p4)]) hx hb dX2_ring_66 hl (by decide) rfl (fun ls hl => ?_)
  refine lv_aload_n hx hb dX2_ring_68 rfl (lv_at hl 4 rfl) ?_
  refine va_get (D := (dC, dI)) (ci := 6) (v := .ref (a 2)) (C := RX2) (T := TX2) (N := 3) hx hb hts (fun _ h => gI_wsX20 h) hown hK.1 hP 1 rfl rfl 0 (by decide) (hts _ mG_2_14) (fun _ h9 => h9) rfl dX2_ring_69 ?_
  refine lv_iload_n hx hb dX2_ring_72 rfl (lv_at hl 7 rfl) ?_
  refine va_iald hx hb hK.1 hP 2 0 rfl rfl (by first | with_reducible assumption | exact in0_24 | exact in0_60 | decide) dX2_ring_73 ?_
  refine lv_aload_n hx hb dX2_ring_74 rfl (lv_at hl 4 rfl) ?_
  refine va_get (D := (dC, dI)) (ci := 6) (v := .ref (a 2)) (C := RX2) (T := TX2) (N := 3) hx hb hts (fun _ h => gI_wsX20 h) hown hK.1 hP 1 rfl rfl 0 (by decide) (hts _ mG_2_14) (fun _ h9 => h9) rfl dX2_ring_75 ?_
  refine lv_iload hx hb dX2_ring_78 (lv_at hl 8 rfl) ?_
  refine va_iald hx hb hK.1 hP 2 0 rfl rfl (by first | with_reducible assumption | exact in0_24 | exact in0_60 | decide) dX2_ring_80 ?_
  refine lv_isub hx hb dX2_ring_81 ?_
  refine lv_i2l hx hb dX2_ring_82 rfl ?_
  refine lv_topl (fun y5 ey5 => ?_)
  refine lv_lstore (lv' := [(13, .long y5), (11, .long y4), (9, .long y3), (7, .long y2), (5, .long y1), (0, .ref (a 1)), (1, .int p1), (2, .int p2), (3, .int p3), (4, .int p4)]) hx hb dX2_ring_83 hl (by decide) rfl (fun ls hl => ?_)
  refine lv_aload_n hx hb dX2_ring_85 rfl (lv_at hl 5 rfl) ?_
  refine va_get (D := (dC, dI)) (ci := 6) (v := .ref (a 3)) (C := RX2) (T := TX2) (N := 3) hx hb hts (fun _ h => gI_wsX20 h) hown hK.1 hP 1 rfl rfl 1 (by decide) (hts _ mG_2_15) (fun _ h9 => h9) rfl dX2_ring_86 ?_
  refine lv_iload_n hx hb dX2_ring_89 rfl (lv_at hl 8 rfl) ?_
  refine va_iald hx hb hK.1 hP 3 0 rfl rfl (by first | with_reducible assumption | exact in0_24 | exact in0_60 | decide) dX2_ring_90 ?_
  refine lv_aload_n hx hb dX2_ring_91 rfl (lv_at hl 5 rfl) ?_
  refine va_get (D := (dC, dI)) (ci := 6) (v := .ref (a 3)) (C := RX2) (T := TX2) (N := 3) hx hb hts (fun _ h => gI_wsX20 h) hown hK.1 hP 1 rfl rfl 1 (by decide) (hts _ mG_2_15) (fun _ h9 => h9) rfl dX2_ring_92 ?_
  refine lv_iload hx hb dX2_ring_95 (lv_at hl 9 rfl) ?_
  refine va_iald hx hb hK.1 hP 3 0 rfl rfl (by first | with_reducible assumption | exact in0_24 | exact in0_60 | decide) dX2_ring_97 ?_
  refine lv_isub hx hb dX2_ring_98 ?_
  refine lv_i2l hx hb dX2_ring_99 rfl ?_
  refine lv_topl (fun y6 ey6 => ?_)
  refine lv_lstore (lv' := [(15, .long y6), (13, .long y5), (11, .long y4), (9, .long y3), (7, .long y2), (5, .long y1), (0, .ref (a 1)), (1, .int p1), (2, .int p2), (3, .int p3), (4, .int p4)]) hx hb dX2_ring_100 hl (by decide) rfl (fun ls hl => ?_)
  refine lv_lload hx hb dX2_ring_102 (lv_at hl 5 rfl) ?_
  refine lv_lload hx hb dX2_ring_104 (lv_at hl 5 rfl) ?_
  refine lv_lmul hx hb dX2_ring_106 ?_
  refine lv_lload hx hb dX2_ring_107 (lv_at hl 4 rfl) ?_
  refine lv_lload hx hb dX2_ring_109 (lv_at hl 4 rfl) ?_
  refine lv_lmul hx hb dX2_ring_111 ?_
  refine lv_ladd hx hb dX2_ring_112 ?_
  refine lv_lload hx hb dX2_ring_113 (lv_at hl 3 rfl) ?_
  refine lv_lload hx hb dX2_ring_115 (lv_at hl 0 rfl) ?_
  refine lv_lmul hx hb dX2_ring_117 ?_
  refine lv_lload hx hb dX2_ring_118 (lv_at hl 2 rfl) ?_
  refine lv_lload hx hb dX2_ring_120 (lv_at hl 1 rfl) ?_
  refine lv_lmul hx hb dX2_ring_122 ?_
  refine lv_lsub hx hb dX2_ring_123 ?_
  refine lv_lmul hx hb dX2_ring_124 ?_
  refine lv_lload hx hb dX2_ring_125 (lv_at hl 3 rfl) ?_
  refine lv_lload hx hb dX2_ring_127 (lv_at hl 3 rfl) ?_
  refine lv_lmul hx hb dX2_ring_129 ?_
  refine lv_lload hx hb dX2_ring_130 (lv_at hl 2 rfl) ?_
  refine lv_lload hx hb dX2_ring_132 (lv_at hl 2 rfl) ?_
  refine lv_lmul hx hb dX2_ring_134 ?_
  refine lv_ladd hx hb dX2_ring_135 ?_
  refine lv_lload hx hb dX2_ring_136 (lv_at hl 1 rfl) ?_
  refine lv_lload hx hb dX2_ring_138 (lv_at hl 4 rfl) ?_
  refine lv_lmul hx hb dX2_ring_140 ?_
  refine lv_lload hx hb dX2_ring_141 (lv_at hl 0 rfl) ?_
  refine lv_lload hx hb dX2_ring_143 (lv_at hl 5 rfl) ?_
  refine lv_lmul hx hb dX2_ring_145 ?_
  refine lv_lsub hx hb dX2_ring_146 ?_
  refine lv_lmul hx hb dX2_ring_147 ?_
  refine lv_ladd hx hb dX2_ring_148 ?_
  refine lv_lload hx hb dX2_ring_149 (lv_at hl 1 rfl) ?_
  refine lv_lload hx hb dX2_ring_151 (lv_at hl 1 rfl) ?_
  refine lv_lmul hx hb dX2_ring_153 ?_
  refine lv_lload hx hb dX2_ring_154 (lv_at hl 0 rfl) ?_
  refine lv_lload hx hb dX2_ring_156 (lv_at hl 0 rfl) ?_
  refine lv_lmul hx hb dX2_ring_158 ?_
  refine lv_ladd hx hb dX2_ring_159 ?_
  refine lv_lload hx hb dX2_ring_160 (lv_at hl 5 rfl) ?_
  refine lv_lload hx hb dX2_ring_162 (lv_at hl 2 rfl) ?_
  refine lv_lmul hx hb dX2_ring_164 ?_
  refine lv_lload hx hb dX2_ring_165 (lv_at hl 4 rfl) ?_
  refine lv_lload hx hb dX2_ring_167 (lv_at hl 3 rfl) ?_
  refine lv_lmul hx hb dX2_ring_169 ?_
  refine lv_lsub hx hb dX2_ring_170 ?_
  refine lv_lmul hx hb dX2_ring_171 ?_
  refine lv_ladd hx hb dX2_ring_172 ?_
  refine lv_topl (fun y7 ey7 => ?_)
  refine lv_lstore (lv' := [(17, .long y7), (15, .long y6), (13, .long y5), (11, .long y4), (9, .long y3), (7, .long y2), (5, .long y1), (0, .ref (a 1)), (1, .int p1), (2, .int p2), (3, .int p3), (4, .int p4)]) hx hb dX2_ring_173 hl (by decide) rfl (fun ls hl => ?_)
  refine lv_aload_n hx hb dX2_ring_175 rfl (lv_at hl 7 rfl) ?_
  refine lv_iload_n hx hb dX2_ring_176 rfl (lv_at hl 8 rfl) ?_
  refine lv_iload_n hx hb dX2_ring_177 rfl (lv_at hl 9 rfl) ?_
  refine lv_iload_n hx hb dX2_ring_178 rfl (lv_at hl 10 rfl) ?_
  refine cp_i (va_runV (As := [.int p1, .int p2, .int p3]) (rest := []) ⟨hx, hb, hml, hown, hts⟩ (c_X2_turn l dC dI a cI cJ xs ys pl kp lp lq lr v0 v1 v2 v3 v4 v5 v6 v7 v8 v9 v10 p1 p2 p3 (by first | with_reducible assumption | exact in0_24 | exact in0_60 | decide) (by first | with_reducible assumption | exact in0_24 | exact in0_60 | decide) (by first | with_reducible assumption | exact in0_24 | exact in0_60 | decide)) (cwV 3 hts (gG_V mG_14_7 mG_11_7 mG_11_8 mG_1_16 (gG_c mG_11_9 gG_G)) rfl rfl rfl hd_X2_turn ⟨Nat.le_of_ble_eq_true rfl, Nat.le_of_ble_eq_true rfl⟩) (pPcV (ci := 6) (q0 := 1) hK hP rfl rfl) rfl rfl hl.1 rfl (lv_room (Nat.le_of_ble_eq_true rfl)) dX2_ring_179 ⟨Nat.le_of_ble_eq_true rfl, Nat.le_of_ble_eq_true rfl⟩) hP hS (fun H hP hS => ?_)
  refine lv_lload hx hb dX2_ring_182 (lv_at hl 0 rfl) ?_
  refine cp_i (va_runSN (As := [.long y7]) (rest := [.int (f_X2_turn xs ys p1 p2 p3)]) ⟨hx, hb, hml, hown, hts⟩ (c_X5_signOf l y7 ) ⟨va_cnB 1 hts (gG_c mG_11_11 gG_G) rfl rfl rfl hK.2.1 (hts _ mG_1_2) hs_X5_signOf ⟨Nat.le_of_ble_eq_true rfl, Nat.le_of_ble_eq_true rfl⟩, hts _ mG_11_10, trivial⟩ nPcS rfl rfl hl.1 rfl (lv_room (Nat.le_of_ble_eq_true rfl)) dX2_ring_184 ⟨Nat.le_of_ble_eq_true rfl, Nat.le_of_ble_eq_true rfl⟩) hP hS (fun H hP hS => ?_)
  refine lv_imul hx hb dX2_ring_187 ?_
  exact rp_i hQ hx hb hr hlk hS (Eq.symm (by subst ey1; subst ey2; subst ey3; subst ey4; subst ey5; subst ey6; subst ey7; simp only [f_X2_ring])) dX2_ring_188
/-! X2_distance -/
theorem hs_X2_distance : yX2_distance.cls ≠ "java/lang/invoke/MethodHandle" ∧ yX2_distance.cls ≠ "java/lang/invoke/VarHandle" ∧ (parseMethodDescriptor yX2_distance.desc).map (fun d => d.parameters.length) = some 2 := by decide +kernel
theorem hd_X2_distance : yX2_distance.cls = RX2 ∧ yX2_distance.cls ≠ "java/lang/invoke/MethodHandle" ∧ yX2_distance.cls ≠ "java/lang/invoke/VarHandle" ∧ (parseMethodDescriptor yX2_distance.desc).map (fun d => d.parameters.length) = some 2 := ⟨rfl, hs_X2_distance⟩
def f_X2_distance (xs : Nat → Int32) (ys : Nat → Int32) (p1 : Int32) (p2 : Int32) : Int64 := (((Int32.toInt64 ((xs (Int32.toNatClampNeg p1)) - (xs (Int32.toNatClampNeg p2)))) * (Int32.toInt64 ((xs (Int32.toNatClampNeg p1)) - (xs (Int32.toNatClampNeg p2))))) + ((Int32.toInt64 ((ys (Int32.toNatClampNeg p1)) - (ys (Int32.toNatClampNeg p2)))) * (Int32.toInt64 ((ys (Int32.toNatClampNeg p1)) - (ys (Int32.toNatClampNeg p2))))))
abbrev rm_X2_distance : Room := { frames := 0, cells := 0, slots := 0, locals := 0 }
set_option maxHeartbeats 8000000 in
set_option maxRecDepth 100000 in
theorem c_X2_distance (l : Launch) (dC : Nat → ClassId) (dI : Nat → Nat → Nat) (a : Nat → Nat) (cI cJ : ClassId) (xs : Nat → Int32) (ys : Nat → Int32) (pl : Nat → Int32) (kp : Nat → Int32) (lp : Nat → Int64) (lq : Nat → Int64) (lr : Nat → Int64) (v0 : Int32) (v1 : Int32) (v2 : Int32) (v3 : Int32) (v4 : Int32) (v5 : Int32) (v6 : Int32) (v7 : Int32) (v8 : Int32) (v9 : Int32) (v10 : Int32) (p1 : Int32) (p2 : Int32) (hi1 : vp_in p1 60) (hi2 : vp_in p2 60) : Met l yX2_distance (Cond.code yX2_distance cX2_distance 7 (some .long) :: lw_G) rm_X2_distance (pPc (dC, dI) (tIJ cI cJ) (wC a cI cJ xs ys pl kp lp lq lr v0 v1 v2 v3 v4 v5 v6 v7 v8 v9 v10) [.ref (a 1), .int p1, .int p2]) (pQl (f_X2_distance xs ys p1 p2)) 0 0 pNo := by
  refine pm_of (by decide) (Nat.le_of_ble_eq_true rfl) ?_
  intro p e s m args below meth c Q ls hQ hx hb hr hlk hml hown hts hP hK hS hl
  have hown : s.vm.findClass RX2 = some m.cls := hown
  have hl : lv_has ls 7 [(0, .ref (a 1)), (1, .int p1), (2, .int p2)] := hl
  refine lv_aload_n hx hb dX2_distance_0 rfl (lv_at hl 0 rfl) ?_
  refine va_get (D := (dC, dI)) (ci := 6) (v := .ref (a 2)) (C := RX2) (T := TX2) (N := 3) hx hb hts (fun _ h => gI_wsX20 h) hown hK.1 hP 1 rfl rfl 0 (by decide) (hts _ mG_2_14) (fun _ h9 => h9) rfl dX2_distance_1 ?_
  refine lv_iload_n hx hb dX2_distance_4 rfl (lv_at hl 1 rfl) ?_
  refine va_iald hx hb hK.1 hP 2 0 rfl rfl (by first | with_reducible assumption | exact in0_24 | exact in0_60 | decide) dX2_distance_5 ?_
  refine lv_aload_n hx hb dX2_distance_6 rfl (lv_at hl 0 rfl) ?_
  refine va_get (D := (dC, dI)) (ci := 6) (v := .ref (a 2)) (C := RX2) (T := TX2) (N := 3) hx hb hts (fun _ h => gI_wsX20 h) hown hK.1 hP 1 rfl rfl 0 (by decide) (hts _ mG_2_14) (fun _ h9 => h9) rfl dX2_distance_7 ?_
  refine lv_iload_n hx hb dX2_distance_10 rfl (lv_at hl 2 rfl) ?_
  refine va_iald hx hb hK.1 hP 2 0 rfl rfl (by first | with_reducible assumption | exact in0_24 | exact in0_60 | decide) dX2_distance_11 ?_
  refine lv_isub hx hb dX2_distance_12 ?_
  refine lv_i2l hx hb dX2_distance_13 rfl ?_
  refine lv_topl (fun y1 ey1 => ?_)
  refine lv_lstore_n (lv' := [(3, .long y1), (0, .ref (a 1)), (1, .int p1), (2, .int p2)]) hx hb dX2_distance_14 rfl hl (by decide) rfl (fun ls hl => ?_)
  refine lv_aload_n hx hb dX2_distance_15 rfl (lv_at hl 1 rfl) ?_
  refine va_get (D := (dC, dI)) (ci := 6) (v := .ref (a 3)) (C := RX2) (T := TX2) (N := 3) hx hb hts (fun _ h => gI_wsX20 h) hown hK.1 hP 1 rfl rfl 1 (by decide) (hts _ mG_2_15) (fun _ h9 => h9) rfl dX2_distance_16 ?_
  refine lv_iload_n hx hb dX2_distance_19 rfl (lv_at hl 2 rfl) ?_
  refine va_iald hx hb hK.1 hP 3 0 rfl rfl (by first | with_reducible assumption | exact in0_24 | exact in0_60 | decide) dX2_distance_20 ?_
  refine lv_aload_n hx hb dX2_distance_21 rfl (lv_at hl 1 rfl) ?_
  refine va_get (D := (dC, dI)) (ci := 6) (v := .ref (a 3)) (C := RX2) (T := TX2) (N := 3) hx hb hts (fun _ h => gI_wsX20 h) hown hK.1 hP 1 rfl rfl 1 (by decide) (hts _ mG_2_15) (fun _ h9 => h9) rfl dX2_distance_22 ?_
  refine lv_iload_n hx hb dX2_distance_25 rfl (lv_at hl 3 rfl) ?_
  refine va_iald hx hb hK.1 hP 3 0 rfl rfl (by first | with_reducible assumption | exact in0_24 | exact in0_60 | decide) dX2_distance_26 ?_
  refine lv_isub hx hb dX2_distance_27 ?_
  refine lv_i2l hx hb dX2_distance_28 rfl ?_
  refine lv_topl (fun y2 ey2 => ?_)
  refine lv_lstore (lv' := [(5, .long y2), (3, .long y1), (0, .ref (a 1)), (1, .int p1), (2, .int p2)]) hx hb dX2_distance_29 hl (by decide) rfl (fun ls hl => ?_)
  refine lv_lload_n hx hb dX2_distance_31 rfl (lv_at hl 1 rfl) ?_
  refine lv_lload_n hx hb dX2_distance_32 rfl (lv_at hl 1 rfl) ?_
  refine lv_lmul hx hb dX2_distance_33 ?_
  refine lv_lload hx hb dX2_distance_34 (lv_at hl 0 rfl) ?_
  refine lv_lload hx hb dX2_distance_36 (lv_at hl 0 rfl) ?_
  refine lv_lmul hx hb dX2_distance_38 ?_
  refine lv_ladd hx hb dX2_distance_39 ?_
  exact rp_l hQ hx hb hr hlk hS (Eq.symm (by subst ey1; subst ey2; simp only [f_X2_distance])) dX2_distance_40
/-! X2_onSegment -/
theorem hs_X2_onSegment : yX2_onSegment.cls ≠ "java/lang/invoke/MethodHandle" ∧ yX2_onSegment.cls ≠ "java/lang/invoke/VarHandle" ∧ (parseMethodDescriptor yX2_onSegment.desc).map (fun d => d.parameters.length) = some 3 := by decide +kernel
theorem hd_X2_onSegment : yX2_onSegment.cls = RX2 ∧ yX2_onSegment.cls ≠ "java/lang/invoke/MethodHandle" ∧ yX2_onSegment.cls ≠ "java/lang/invoke/VarHandle" ∧ (parseMethodDescriptor yX2_onSegment.desc).map (fun d => d.parameters.length) = some 3 := ⟨rfl, hs_X2_onSegment⟩
def f_X2_onSegment (xs : Nat → Int32) (ys : Nat → Int32) (p1 : Int32) (p2 : Int32) (p3 : Int32) : Int32 := (if (f_X2_turn xs ys p1 p2 p3) = 0 then (if (f_X2_liesAmong (xs (Int32.toNatClampNeg p1)) (xs (Int32.toNatClampNeg p2)) (xs (Int32.toNatClampNeg p3))) = 0 then (0 : Int32) else (if (f_X2_liesAmong (ys (Int32.toNatClampNeg p1)) (ys (Int32.toNatClampNeg p2)) (ys (Int32.toNatClampNeg p3))) = 0 then (0 : Int32) else (1 : Int32))) else (0 : Int32))
abbrev rm_X2_onSegment : Room := { frames := 3, cells := 0, slots := 0, locals := 71 }
set_option maxHeartbeats 8000000 in
set_option maxRecDepth 100000 in
theorem c_X2_onSegment (l : Launch) (dC : Nat → ClassId) (dI : Nat → Nat → Nat) (a : Nat → Nat) (cI cJ : ClassId) (xs : Nat → Int32) (ys : Nat → Int32) (pl : Nat → Int32) (kp : Nat → Int32) (lp : Nat → Int64) (lq : Nat → Int64) (lr : Nat → Int64) (v0 : Int32) (v1 : Int32) (v2 : Int32) (v3 : Int32) (v4 : Int32) (v5 : Int32) (v6 : Int32) (v7 : Int32) (v8 : Int32) (v9 : Int32) (v10 : Int32) (p1 : Int32) (p2 : Int32) (p3 : Int32) (hi1 : vp_in p1 60) (hi2 : vp_in p2 60) (hi3 : vp_in p3 60) : Met l yX2_onSegment (Cond.code yX2_onSegment cX2_onSegment 4 (some .boolean) :: lw_G) rm_X2_onSegment (pPc (dC, dI) (tIJ cI cJ) (wC a cI cJ xs ys pl kp lp lq lr v0 v1 v2 v3 v4 v5 v6 v7 v8 v9 v10) [.ref (a 1), .int p1, .int p2, .int p3]) (pQi (f_X2_onSegment xs ys p1 p2 p3)) 0 0 pNo := by
  refine pm_of (by decide) (Nat.le_of_ble_eq_true rfl) ?_
  intro p e s m args below meth c Q ls hQ hx hb hr hlk hml hown hts hP hK hS hl
  have hown : s.vm.findClass RX2 = some m.cls := hown
  have hl : lv_has ls 4 [(0, .ref (a 1)), (1, .int p1), (2, .int p2), (3, .int p3)] := hl
  refine lv_aload_n hx hb dX2_onSegment_0 rfl (lv_at hl 0 rfl) ?_
  refine lv_iload_n hx hb dX2_onSegment_1 rfl (lv_at hl 1 rfl) ?_
  refine lv_iload_n hx hb dX2_onSegment_2 rfl (lv_at hl 2 rfl) ?_
  refine lv_iload_n hx hb dX2_onSegment_3 rfl (lv_at hl 3 rfl) ?_
  refine cp_i (va_runV (As := [.int p1, .int p2, .int p3]) (rest := []) ⟨hx, hb, hml, hown, hts⟩ (c_X2_turn l dC dI a cI cJ xs ys pl kp lp lq lr v0 v1 v2 v3 v4 v5 v6 v7 v8 v9 v10 p1 p2 p3 (by first | with_reducible assumption | exact in0_24 | exact in0_60 | decide) (by first | with_reducible assumption | exact in0_24 | exact in0_60 | decide) (by first | with_reducible assumption | exact in0_24 | exact in0_60 | decide)) (cwV 3 hts (gG_V mG_14_7 mG_11_7 mG_11_8 mG_1_16 (gG_c mG_11_9 gG_G)) rfl rfl rfl hd_X2_turn ⟨Nat.le_of_ble_eq_true rfl, Nat.le_of_ble_eq_true rfl⟩) (pPcV (ci := 6) (q0 := 1) hK hP rfl rfl) rfl rfl hl.1 rfl (lv_room (Nat.le_of_ble_eq_true rfl)) dX2_onSegment_4 ⟨Nat.le_of_ble_eq_true rfl, Nat.le_of_ble_eq_true rfl⟩) hP hS (fun H hP hS => ?_)
  refine lv_if_ne (tgt := 62) hx hb dX2_onSegment_7 (by decide) (fun c1 => ?_) (fun c1 => ?_)
  · skip
    refine lv_iconst (v := (0 : Int32)) hx hb dX2_onSegment_62 (by decide) ?_
    exact rp_z hQ hx hb hr hlk hS (Eq.symm (by simp only [f_X2_onSegment, if_neg c1])) (by decide) dX2_onSegment_63
  · skip
    refine lv_aload_n hx hb dX2_onSegment_10 rfl (lv_at hl 0 rfl) ?_
    refine va_get (D := (dC, dI)) (ci := 6) (v := .ref (a 2)) (C := RX2) (T := TX2) (N := 3) hx hb hts (fun _ h => gI_wsX20 h) hown hK.1 hP 1 rfl rfl 0 (by decide) (hts _ mG_2_14) (fun _ h9 => h9) rfl dX2_onSegment_11 ?_
    refine lv_iload_n hx hb dX2_onSegment_14 rfl (lv_at hl 1 rfl) ?_
    refine va_iald hx hb hK.1 hP 2 0 rfl rfl (by first | with_reducible assumption | exact in0_24 | exact in0_60 | decide) dX2_onSegment_15 ?_
    refine lv_aload_n hx hb dX2_onSegment_16 rfl (lv_at hl 0 rfl) ?_
    refine va_get (D := (dC, dI)) (ci := 6) (v := .ref (a 2)) (C := RX2) (T := TX2) (N := 3) hx hb hts (fun _ h => gI_wsX20 h) hown hK.1 hP 1 rfl rfl 0 (by decide) (hts _ mG_2_14) (fun _ h9 => h9) rfl dX2_onSegment_17 ?_
    refine lv_iload_n hx hb dX2_onSegment_20 rfl (lv_at hl 2 rfl) ?_
    refine va_iald hx hb hK.1 hP 2 0 rfl rfl (by first | with_reducible assumption | exact in0_24 | exact in0_60 | decide) dX2_onSegment_21 ?_
    refine lv_aload_n hx hb dX2_onSegment_22 rfl (lv_at hl 0 rfl) ?_
    refine va_get (D := (dC, dI)) (ci := 6) (v := .ref (a 2)) (C := RX2) (T := TX2) (N := 3) hx hb hts (fun _ h => gI_wsX20 h) hown hK.1 hP 1 rfl rfl 0 (by decide) (hts _ mG_2_14) (fun _ h9 => h9) rfl dX2_onSegment_23 ?_
    refine lv_iload_n hx hb dX2_onSegment_26 rfl (lv_at hl 3 rfl) ?_
    refine va_iald hx hb hK.1 hP 2 0 rfl rfl (by first | with_reducible assumption | exact in0_24 | exact in0_60 | decide) dX2_onSegment_27 ?_
    refine cp_i (va_runS (As := [.int (xs (Int32.toNatClampNeg p1)), .int (xs (Int32.toNatClampNeg p2)), .int (xs (Int32.toNatClampNeg p3))]) (rest := []) ⟨hx, hb, hml, hown, hts⟩ (c_X2_liesAmong l (xs (Int32.toNatClampNeg p1)) (xs (Int32.toNatClampNeg p2)) (xs (Int32.toNatClampNeg p3)) ) (va_cwS 3 hts (gG_S mG_16_6 mG_16_7 mG_1_16 (gG_c mG_16_8 gG_G)) rfl rfl rfl hs_X2_liesAmong ⟨Nat.le_of_ble_eq_true rfl, Nat.le_of_ble_eq_true rfl⟩) nPcS rfl rfl hl.1 rfl (lv_room (Nat.le_of_ble_eq_true rfl)) dX2_onSegment_28 ⟨Nat.le_of_ble_eq_true rfl, Nat.le_of_ble_eq_true rfl⟩) hP hS (fun H hP hS => ?_)
    refine lv_if_eq (tgt := 62) hx hb dX2_onSegment_31 (by decide) (fun c2 => ?_) (fun c2 => ?_)
    · skip
      refine lv_iconst (v := (0 : Int32)) hx hb dX2_onSegment_62 (by decide) ?_
      exact rp_z hQ hx hb hr hlk hS (Eq.symm (by simp only [f_X2_onSegment, if_pos c1, if_pos c2])) (by decide) dX2_onSegment_63
    · skip
      refine lv_aload_n hx hb dX2_onSegment_34 rfl (lv_at hl 0 rfl) ?_
      refine va_get (D := (dC, dI)) (ci := 6) (v := .ref (a 3)) (C := RX2) (T := TX2) (N := 3) hx hb hts (fun _ h => gI_wsX20 h) hown hK.1 hP 1 rfl rfl 1 (by decide) (hts _ mG_2_15) (fun _ h9 => h9) rfl dX2_onSegment_35 ?_
      refine lv_iload_n hx hb dX2_onSegment_38 rfl (lv_at hl 1 rfl) ?_
      refine va_iald hx hb hK.1 hP 3 0 rfl rfl (by first | with_reducible assumption | exact in0_24 | exact in0_60 | decide) dX2_onSegment_39 ?_
      refine lv_aload_n hx hb dX2_onSegment_40 rfl (lv_at hl 0 rfl) ?_
      refine va_get (D := (dC, dI)) (ci := 6) (v := .ref (a 3)) (C := RX2) (T := TX2) (N := 3) hx hb hts (fun _ h => gI_wsX20 h) hown hK.1 hP 1 rfl rfl 1 (by decide) (hts _ mG_2_15) (fun _ h9 => h9) rfl dX2_onSegment_41 ?_
      refine lv_iload_n hx hb dX2_onSegment_44 rfl (lv_at hl 2 rfl) ?_
      refine va_iald hx hb hK.1 hP 3 0 rfl rfl (by first | with_reducible assumption | exact in0_24 | exact in0_60 | decide) dX2_onSegment_45 ?_
      refine lv_aload_n hx hb dX2_onSegment_46 rfl (lv_at hl 0 rfl) ?_
      refine va_get (D := (dC, dI)) (ci := 6) (v := .ref (a 3)) (C := RX2) (T := TX2) (N := 3) hx hb hts (fun _ h => gI_wsX20 h) hown hK.1 hP 1 rfl rfl 1 (by decide) (hts _ mG_2_15) (fun _ h9 => h9) rfl dX2_onSegment_47 ?_
      refine lv_iload_n hx hb dX2_onSegment_50 rfl (lv_at hl 3 rfl) ?_
      refine va_iald hx hb hK.1 hP 3 0 rfl rfl (by first | with_reducible assumption | exact in0_24 | exact in0_60 | decide) dX2_onSegment_51 ?_
      refine cp_i (va_runS (As := [.int (ys (Int32.toNatClampNeg p1)), .int (ys (Int32.toNatClampNeg p2)), .int (ys (Int32.toNatClampNeg p3))]) (rest := []) ⟨hx, hb, hml, hown, hts⟩ (c_X2_liesAmong l (ys (Int32.toNatClampNeg p1)) (ys (Int32.toNatClampNeg p2)) (ys (Int32.toNatClampNeg p3)) ) (va_cwS 3 hts (gG_S mG_16_6 mG_16_7 mG_1_16 (gG_c mG_16_8 gG_G)) rfl rfl rfl hs_X2_liesAmong ⟨Nat.le_of_ble_eq_true rfl, Nat.le_of_ble_eq_true rfl⟩) nPcS rfl rfl hl.1 rfl (lv_room (Nat.le_of_ble_eq_true rfl)) dX2_onSegment_52 ⟨Nat.le_of_ble_eq_true rfl, Nat.le_of_ble_eq_true rfl⟩) hP hS (fun H hP hS => ?_)
      refine lv_if_eq (tgt := 62) hx hb dX2_onSegment_55 (by decide) (fun c3 => ?_) (fun c3 => ?_)
      · skip
        refine lv_iconst (v := (0 : Int32)) hx hb dX2_onSegment_62 (by decide) ?_
        exact rp_z hQ hx hb hr hlk hS (Eq.symm (by simp only [f_X2_onSegment, if_pos c1, if_neg c2, if_pos c3])) (by decide) dX2_onSegment_63
      · skip
        refine lv_iconst (v := (1 : Int32)) hx hb dX2_onSegment_58 (by decide) ?_
        refine lv_goto (tgt := 63) hx hb dX2_onSegment_59 (by decide) ?_
        exact rp_z hQ hx hb hr hlk hS (Eq.symm (by simp only [f_X2_onSegment, if_pos c1, if_neg c2, if_neg c3])) (by decide) dX2_onSegment_63
/-! X2_sameDirection -/
theorem hs_X2_sameDirection : yX2_sameDirection.cls ≠ "java/lang/invoke/MethodHandle" ∧ yX2_sameDirection.cls ≠ "java/lang/invoke/VarHandle" ∧ (parseMethodDescriptor yX2_sameDirection.desc).map (fun d => d.parameters.length) = some 3 := by decide +kernel
theorem hd_X2_sameDirection : yX2_sameDirection.cls = RX2 ∧ yX2_sameDirection.cls ≠ "java/lang/invoke/MethodHandle" ∧ yX2_sameDirection.cls ≠ "java/lang/invoke/VarHandle" ∧ (parseMethodDescriptor yX2_sameDirection.desc).map (fun d => d.parameters.length) = some 3 := ⟨rfl, hs_X2_sameDirection⟩
def f_X2_sameDirection (xs : Nat → Int32) (ys : Nat → Int32) (p1 : Int32) (p2 : Int32) (p3 : Int32) : Int32 := (if (lg_cmp (((Int32.toInt64 ((xs (Int32.toNatClampNeg p2)) - (xs (Int32.toNatClampNeg p1)))) * (Int32.toInt64 ((xs (Int32.toNatClampNeg p3)) - (xs (Int32.toNatClampNeg p1))))) + ((Int32.toInt64 ((ys (Int32.toNatClampNeg p2)) - (ys (Int32.toNatClampNeg p1)))) * (Int32.toInt64 ((ys (Int32.toNatClampNeg p3)) - (ys (Int32.toNatClampNeg p1)))))) (0 : Int64)) ≤ 0 then (0 : Int32) else (if (f_X2_turn xs ys p1 p2 p3) = 0 then (1 : Int32) else (0 : Int32)))
abbrev rm_X2_sameDirection : Room := { frames := 3, cells := 0, slots := 0, locals := 71 }
set_option maxHeartbeats 8000000 in
set_option maxRecDepth 100000 in
theorem c_X2_sameDirection (l : Launch) (dC : Nat → ClassId) (dI : Nat → Nat → Nat) (a : Nat → Nat) (cI cJ : ClassId) (xs : Nat → Int32) (ys : Nat → Int32) (pl : Nat → Int32) (kp : Nat → Int32) (lp : Nat → Int64) (lq : Nat → Int64) (lr : Nat → Int64) (v0 : Int32) (v1 : Int32) (v2 : Int32) (v3 : Int32) (v4 : Int32) (v5 : Int32) (v6 : Int32) (v7 : Int32) (v8 : Int32) (v9 : Int32) (v10 : Int32) (p1 : Int32) (p2 : Int32) (p3 : Int32) (hi1 : vp_in p1 60) (hi2 : vp_in p2 60) (hi3 : vp_in p3 60) : Met l yX2_sameDirection (Cond.code yX2_sameDirection cX2_sameDirection 6 (some .boolean) :: lw_G) rm_X2_sameDirection (pPc (dC, dI) (tIJ cI cJ) (wC a cI cJ xs ys pl kp lp lq lr v0 v1 v2 v3 v4 v5 v6 v7 v8 v9 v10) [.ref (a 1), .int p1, .int p2, .int p3]) (pQi (f_X2_sameDirection xs ys p1 p2 p3)) 0 0 pNo := by
  refine pm_of (by decide) (Nat.le_of_ble_eq_true rfl) ?_
  intro p e s m args below meth c Q ls hQ hx hb hr hlk hml hown hts hP hK hS hl
  have hown : s.vm.findClass RX2 = some m.cls := hown
  have hl : lv_has ls 6 [(0, .ref (a 1)), (1, .int p1), (2, .int p2), (3, .int p3)] := hl
  refine lv_aload_n hx hb dX2_sameDirection_0 rfl (lv_at hl 0 rfl) ?_
  refine va_get (D := (dC, dI)) (ci := 6) (v := .ref (a 2)) (C := RX2) (T := TX2) (N := 3) hx hb hts (fun _ h => gI_wsX20 h) hown hK.1 hP 1 rfl rfl 0 (by decide) (hts _ mG_2_14) (fun _ h9 => h9) rfl dX2_sameDirection_1 ?_
  refine lv_iload_n hx hb dX2_sameDirection_4 rfl (lv_at hl 2 rfl) ?_
  refine va_iald hx hb hK.1 hP 2 0 rfl rfl (by first | with_reducible assumption | exact in0_24 | exact in0_60 | decide) dX2_sameDirection_5 ?_
  refine lv_aload_n hx hb dX2_sameDirection_6 rfl (lv_at hl 0 rfl) ?_
  refine va_get (D := (dC, dI)) (ci := 6) (v := .ref (a 2)) (C := RX2) (T := TX2) (N := 3) hx hb hts (fun _ h => gI_wsX20 h) hown hK.1 hP 1 rfl rfl 0 (by decide) (hts _ mG_2_14) (fun _ h9 => h9) rfl dX2_sameDirection_7 ?_
  refine lv_iload_n hx hb dX2_sameDirection_10 rfl (lv_at hl 1 rfl) ?_
  refine va_iald hx hb hK.1 hP 2 0 rfl rfl (by first | with_reducible assumption | exact in0_24 | exact in0_60 | decide) dX2_sameDirection_11 ?_
  refine lv_isub hx hb dX2_sameDirection_12 ?_
  refine lv_i2l hx hb dX2_sameDirection_13 rfl ?_
  refine lv_aload_n hx hb dX2_sameDirection_14 rfl (lv_at hl 0 rfl) ?_
  refine va_get (D := (dC, dI)) (ci := 6) (v := .ref (a 2)) (C := RX2) (T := TX2) (N := 3) hx hb hts (fun _ h => gI_wsX20 h) hown hK.1 hP 1 rfl rfl 0 (by decide) (hts _ mG_2_14) (fun _ h9 => h9) rfl dX2_sameDirection_15 ?_
  refine lv_iload_n hx hb dX2_sameDirection_18 rfl (lv_at hl 3 rfl) ?_
  refine va_iald hx hb hK.1 hP 2 0 rfl rfl (by first | with_reducible assumption | exact in0_24 | exact in0_60 | decide) dX2_sameDirection_19 ?_
  refine lv_aload_n hx hb dX2_sameDirection_20 rfl (lv_at hl 0 rfl) ?_
  refine va_get (D := (dC, dI)) (ci := 6) (v := .ref (a 2)) (C := RX2) (T := TX2) (N := 3) hx hb hts (fun _ h => gI_wsX20 h) hown hK.1 hP 1 rfl rfl 0 (by decide) (hts _ mG_2_14) (fun _ h9 => h9) rfl dX2_sameDirection_21 ?_
  refine lv_iload_n hx hb dX2_sameDirection_24 rfl (lv_at hl 1 rfl) ?_
  refine va_iald hx hb hK.1 hP 2 0 rfl rfl (by first | with_reducible assumption | exact in0_24 | exact in0_60 | decide) dX2_sameDirection_25 ?_
  refine lv_isub hx hb dX2_sameDirection_26 ?_
  refine lv_i2l hx hb dX2_sameDirection_27 rfl ?_
  refine lv_lmul hx hb dX2_sameDirection_28 ?_
  refine lv_aload_n hx hb dX2_sameDirection_29 rfl (lv_at hl 0 rfl) ?_
  refine va_get (D := (dC, dI)) (ci := 6) (v := .ref (a 3)) (C := RX2) (T := TX2) (N := 3) hx hb hts (fun _ h => gI_wsX20 h) hown hK.1 hP 1 rfl rfl 1 (by decide) (hts _ mG_2_15) (fun _ h9 => h9) rfl dX2_sameDirection_30 ?_
  refine lv_iload_n hx hb dX2_sameDirection_33 rfl (lv_at hl 2 rfl) ?_
  refine va_iald hx hb hK.1 hP 3 0 rfl rfl (by first | with_reducible assumption | exact in0_24 | exact in0_60 | decide) dX2_sameDirection_34 ?_
  refine lv_aload_n hx hb dX2_sameDirection_35 rfl (lv_at hl 0 rfl) ?_
  refine va_get (D := (dC, dI)) (ci := 6) (v := .ref (a 3)) (C := RX2) (T := TX2) (N := 3) hx hb hts (fun _ h => gI_wsX20 h) hown hK.1 hP 1 rfl rfl 1 (by decide) (hts _ mG_2_15) (fun _ h9 => h9) rfl dX2_sameDirection_36 ?_
  refine lv_iload_n hx hb dX2_sameDirection_39 rfl (lv_at hl 1 rfl) ?_
  refine va_iald hx hb hK.1 hP 3 0 rfl rfl (by first | with_reducible assumption | exact in0_24 | exact in0_60 | decide) dX2_sameDirection_40 ?_
  refine lv_isub hx hb dX2_sameDirection_41 ?_
  refine lv_i2l hx hb dX2_sameDirection_42 rfl ?_
  refine lv_aload_n hx hb dX2_sameDirection_43 rfl (lv_at hl 0 rfl) ?_
  refine va_get (D := (dC, dI)) (ci := 6) (v := .ref (a 3)) (C := RX2) (T := TX2) (N := 3) hx hb hts (fun _ h => gI_wsX20 h) hown hK.1 hP 1 rfl rfl 1 (by decide) (hts _ mG_2_15) (fun _ h9 => h9) rfl dX2_sameDirection_44 ?_
  refine lv_iload_n hx hb dX2_sameDirection_47 rfl (lv_at hl 3 rfl) ?_
  refine va_iald hx hb hK.1 hP 3 0 rfl rfl (by first | with_reducible assumption | exact in0_24 | exact in0_60 | decide) dX2_sameDirection_48 ?_
  refine lv_aload_n hx hb dX2_sameDirection_49 rfl (lv_at hl 0 rfl) ?_
  refine va_get (D := (dC, dI)) (ci := 6) (v := .ref (a 3)) (C := RX2) (T := TX2) (N := 3) hx hb hts (fun _ h => gI_wsX20 h) hown hK.1 hP 1 rfl rfl 1 (by decide) (hts _ mG_2_15) (fun _ h9 => h9) rfl dX2_sameDirection_50 ?_
  refine lv_iload_n hx hb dX2_sameDirection_53 rfl (lv_at hl 1 rfl) ?_
  refine va_iald hx hb hK.1 hP 3 0 rfl rfl (by first | with_reducible assumption | exact in0_24 | exact in0_60 | decide) dX2_sameDirection_54 ?_
  refine lv_isub hx hb dX2_sameDirection_55 ?_
  refine lv_i2l hx hb dX2_sameDirection_56 rfl ?_
  refine lv_lmul hx hb dX2_sameDirection_57 ?_
  refine lv_ladd hx hb dX2_sameDirection_58 ?_
  refine lv_topl (fun y1 ey1 => ?_)
  refine lv_lstore (lv' := [(4, .long y1), (0, .ref (a 1)), (1, .int p1), (2, .int p2), (3, .int p3)]) hx hb dX2_sameDirection_59 hl (by decide) rfl (fun ls hl => ?_)
  refine lv_lload hx hb dX2_sameDirection_61 (lv_at hl 0 rfl) ?_
  refine lv_lconst (v := (0 : Int64)) hx hb dX2_sameDirection_63 (by decide) ?_
  refine W.lcmp hx hb dX2_sameDirection_64 ?_
  refine lv_if_le (tgt := 82) hx hb dX2_sameDirection_65 (by decide) (fun c2 => ?_) (fun c2 => ?_)
  · skip
    refine lv_iconst (v := (0 : Int32)) hx hb dX2_sameDirection_82 (by decide) ?_
    exact rp_z hQ hx hb hr hlk hS (Eq.symm (by subst ey1; simp only [f_X2_sameDirection, if_pos c2])) (by decide) dX2_sameDirection_83
  · skip
    refine lv_aload_n hx hb dX2_sameDirection_68 rfl (lv_at hl 1 rfl) ?_
    refine lv_iload_n hx hb dX2_sameDirection_69 rfl (lv_at hl 2 rfl) ?_
    refine lv_iload_n hx hb dX2_sameDirection_70 rfl (lv_at hl 3 rfl) ?_
    refine lv_iload_n hx hb dX2_sameDirection_71 rfl (lv_at hl 4 rfl) ?_
    refine cp_i (va_runV (As := [.int p1, .int p2, .int p3]) (rest := []) ⟨hx, hb, hml, hown, hts⟩ (c_X2_turn l dC dI a cI cJ xs ys pl kp lp lq lr v0 v1 v2 v3 v4 v5 v6 v7 v8 v9 v10 p1 p2 p3 (by first | with_reducible assumption | exact in0_24 | exact in0_60 | decide) (by first | with_reducible assumption | exact in0_24 | exact in0_60 | decide) (by first | with_reducible assumption | exact in0_24 | exact in0_60 | decide)) (cwV 3 hts (gG_V mG_14_7 mG_11_7 mG_11_8 mG_1_16 (gG_c mG_11_9 gG_G)) rfl rfl rfl hd_X2_turn ⟨Nat.le_of_ble_eq_true rfl, Nat.le_of_ble_eq_true rfl⟩) (pPcV (ci := 6) (q0 := 1) hK hP rfl rfl) rfl rfl hl.1 rfl (lv_room (Nat.le_of_ble_eq_true rfl)) dX2_sameDirection_72 ⟨Nat.le_of_ble_eq_true rfl, Nat.le_of_ble_eq_true rfl⟩) hP hS (fun H hP hS => ?_)
    refine lv_if_ne (tgt := 82) hx hb dX2_sameDirection_75 (by decide) (fun c3 => ?_) (fun c3 => ?_)
    · skip
      refine lv_iconst (v := (0 : Int32)) hx hb dX2_sameDirection_82 (by decide) ?_
      exact rp_z hQ hx hb hr hlk hS (Eq.symm (by subst ey1; simp only [f_X2_sameDirection, if_neg c2, if_neg c3])) (by decide) dX2_sameDirection_83
    · skip
      refine lv_iconst (v := (1 : Int32)) hx hb dX2_sameDirection_78 (by decide) ?_
      refine lv_goto (tgt := 83) hx hb dX2_sameDirection_79 (by decide) ?_
      exact rp_z hQ hx hb hr hlk hS (Eq.symm (by subst ey1; simp only [f_X2_sameDirection, if_neg c2, if_pos c3])) (by decide) dX2_sameDirection_83
