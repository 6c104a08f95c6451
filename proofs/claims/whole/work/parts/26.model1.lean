theorem nx_lt {i n : Int32} (hlt : ¬ n ≤ i) (c : ¬ i + 1 = n) : ¬ n ≤ i + 1 := by
  intro h
  apply c
  rw [← Int32.toInt_inj, in_1 hlt]
  have h1 := mt Int32.le_iff_toInt_le.mpr hlt
  have h2 := Int32.le_iff_toInt_le.mp h
  rw [in_1 hlt] at h2
  omega
theorem in12_le {p : Int32} (h : vp_in p 12) : p ≤ 24 := by
  rw [vp_in_iff] at h
  rw [Int32.le_iff_toInt_le, show (24 : Int32).toInt = 24 by decide]
  omega
theorem ne_in {v k : Int32} {n : Nat} (hk : k.toInt = n) (h0 : 0 ≤ v) (h : v ≤ k) (c : ¬ v = k) : vp_in v n := by
  rw [vp_in_iff]
  have h1 : (0 : Int32).toInt ≤ v.toInt := Int32.le_iff_toInt_le.mp h0
  have e0 : (0 : Int32).toInt = 0 := by decide
  have h2 := Int32.le_iff_toInt_le.mp h
  have h3 := sw_aux c
  omega
theorem in12_tr {p i : Int32} (hp : vp_in p 12) (h0 : 0 ≤ i) (c : ¬ p ≤ i) : vp_in i 12 := by
  rw [vp_in_iff] at *
  have h1 : (0 : Int32).toInt ≤ i.toInt := Int32.le_iff_toInt_le.mp h0
  have e0 : (0 : Int32).toInt = 0 := by decide
  have h2 := mt Int32.le_iff_toInt_le.mpr c
  omega
/-! X6_thrown -/
theorem hs_X6_thrown : yX6_thrown.cls ≠ "java/lang/invoke/MethodHandle" ∧ yX6_thrown.cls ≠ "java/lang/invoke/VarHandle" ∧ (parseMethodDescriptor yX6_thrown.desc).map (fun d => d.parameters.length) = some 0 := by decide +kernel
theorem hd_X6_thrown : yX6_thrown.cls = RX6 ∧ yX6_thrown.cls ≠ "java/lang/invoke/MethodHandle" ∧ yX6_thrown.cls ≠ "java/lang/invoke/VarHandle" ∧ (parseMethodDescriptor yX6_thrown.desc).map (fun d => d.parameters.length) = some 0 := ⟨rfl, hs_X6_thrown⟩
def f_X6_thrown (v0 : Int32)  : Int32 := v0
abbrev rm_X6_thrown : Room := { frames := 0, cells := 0, slots := 0, locals := 0 }
set_option maxHeartbeats 8000000 in
set_option maxRecDepth 100000 in
theorem c_X6_thrown (l : Launch) (dC : Nat → ClassId) (dI : Nat → Nat → Nat) (a : Nat → Nat) (cI cJ : ClassId) (xs : Nat → Int32) (ys : Nat → Int32) (pl : Nat → Int32) (lp : Nat → Int64) (lq : Nat → Int64) (lr : Nat → Int64) (v0 : Int32) (v1 : Int32) (v2 : Int32) (v3 : Int32) (v4 : Int32) (v5 : Int32) (v6 : Int32) (v7 : Int32) : Met l yX6_thrown (Cond.code yX6_thrown cX6_thrown 1 (some .int) :: lw_G) rm_X6_thrown (pPc (dC, dI) (tIJ cI cJ) (wM a cI cJ xs ys pl lp lq lr v0 v1 v2 v3 v4 v5 v6 v7) [.ref (a 0)]) (pQi (f_X6_thrown v0)) 0 0 pNo := by
  refine pm_of (by decide) (Nat.le_of_ble_eq_true rfl) ?_
  intro p e s m args below meth c Q ls hQ hx hb hr hlk hml hown hts hP hK hS hl
  have hown : s.vm.findClass RX6 = some m.cls := hown
  have hl : lv_has ls 1 [(0, .ref (a 0))] := hl
  refine lv_aload_n hx hb dX6_thrown_0 rfl (lv_at hl 0 rfl) ?_
  refine va_get (D := (dC, dI)) (ci := 10) (v := .int v0) (C := RX6) (T := TX6) (N := 14) hx hb hts (fun _ h => gI_wsX60 h) hown hK.1 hP 0 rfl rfl 0 (by decide) (hts _ mG_5_12) (fun _ h9 => h9) rfl dX6_thrown_1 ?_
  exact rp_i hQ hx hb hr hlk hS (Eq.symm (by simp only [f_X6_thrown])) dX6_thrown_4
/-! X6_isPoint -/
theorem hs_X6_isPoint : yX6_isPoint.cls ≠ "java/lang/invoke/MethodHandle" ∧ yX6_isPoint.cls ≠ "java/lang/invoke/VarHandle" ∧ (parseMethodDescriptor yX6_isPoint.desc).map (fun d => d.parameters.length) = some 1 := by decide +kernel
theorem hd_X6_isPoint : yX6_isPoint.cls = RX6 ∧ yX6_isPoint.cls ≠ "java/lang/invoke/MethodHandle" ∧ yX6_isPoint.cls ≠ "java/lang/invoke/VarHandle" ∧ (parseMethodDescriptor yX6_isPoint.desc).map (fun d => d.parameters.length) = some 1 := ⟨rfl, hs_X6_isPoint⟩
def f_X6_isPoint (v1 : Int32) (p1 : Int32) : Int32 := (if p1 < 0 then (0 : Int32) else (if v1 ≤ p1 then (0 : Int32) else (1 : Int32)))
abbrev rm_X6_isPoint : Room := { frames := 0, cells := 0, slots := 0, locals := 0 }
set_option maxHeartbeats 8000000 in
set_option maxRecDepth 100000 in
theorem c_X6_isPoint (l : Launch) (dC : Nat → ClassId) (dI : Nat → Nat → Nat) (a : Nat → Nat) (cI cJ : ClassId) (xs : Nat → Int32) (ys : Nat → Int32) (pl : Nat → Int32) (lp : Nat → Int64) (lq : Nat → Int64) (lr : Nat → Int64) (v0 : Int32) (v1 : Int32) (v2 : Int32) (v3 : Int32) (v4 : Int32) (v5 : Int32) (v6 : Int32) (v7 : Int32) (p1 : Int32) : Met l yX6_isPoint (Cond.code yX6_isPoint cX6_isPoint 2 (some .boolean) :: lw_G) rm_X6_isPoint (pPc (dC, dI) (tIJ cI cJ) (wM a cI cJ xs ys pl lp lq lr v0 v1 v2 v3 v4 v5 v6 v7) [.ref (a 0), .int p1]) (pQi (f_X6_isPoint v1 p1)) 0 0 pNo := by
  refine pm_of (by decide) (Nat.le_of_ble_eq_true rfl) ?_
  intro p e s m args below meth c Q ls hQ hx hb hr hlk hml hown hts hP hK hS hl
  have hown : s.vm.findClass RX6 = some m.cls := hown
  have hl : lv_has ls 2 [(0, .ref (a 0)), (1, .int p1)] := hl
  refine lv_iload_n hx hb dX6_isPoint_0 rfl (lv_at hl 1 rfl) ?_
  refine lv_if_lt (tgt := 16) hx hb dX6_isPoint_1 (by decide) (fun c1 => ?_) (fun c1 => ?_)
  · skip
    refine lv_iconst (v := (0 : Int32)) hx hb dX6_isPoint_16 (by decide) ?_
    exact rp_z hQ hx hb hr hlk hS (Eq.symm (by simp only [f_X6_isPoint, if_pos c1])) (by decide) dX6_isPoint_17
  · skip
    refine lv_iload_n hx hb dX6_isPoint_4 rfl (lv_at hl 1 rfl) ?_
    refine lv_aload_n hx hb dX6_isPoint_5 rfl (lv_at hl 0 rfl) ?_
    refine va_get (D := (dC, dI)) (ci := 10) (v := .int v1) (C := RX6) (T := TX6) (N := 14) hx hb hts (fun _ h => gI_wsX60 h) hown hK.1 hP 0 rfl rfl 1 (by decide) (hts _ mG_5_20) (fun _ h9 => h9) rfl dX6_isPoint_6 ?_
    refine lv_icmp_ge (tgt := 16) hx hb dX6_isPoint_9 (by decide) (fun c2 => ?_) (fun c2 => ?_)
    · skip
      refine lv_iconst (v := (0 : Int32)) hx hb dX6_isPoint_16 (by decide) ?_
      exact rp_z hQ hx hb hr hlk hS (Eq.symm (by simp only [f_X6_isPoint, if_neg c1, if_pos c2])) (by decide) dX6_isPoint_17
    · skip
      refine lv_iconst (v := (1 : Int32)) hx hb dX6_isPoint_12 (by decide) ?_
      refine lv_goto (tgt := 17) hx hb dX6_isPoint_13 (by decide) ?_
      exact rp_z hQ hx hb hr hlk hS (Eq.symm (by simp only [f_X6_isPoint, if_neg c1, if_neg c2])) (by decide) dX6_isPoint_17
/-! X6_isPlace -/
theorem hs_X6_isPlace : yX6_isPlace.cls ≠ "java/lang/invoke/MethodHandle" ∧ yX6_isPlace.cls ≠ "java/lang/invoke/VarHandle" ∧ (parseMethodDescriptor yX6_isPlace.desc).map (fun d => d.parameters.length) = some 1 := by decide +kernel
theorem hd_X6_isPlace : yX6_isPlace.cls = RX6 ∧ yX6_isPlace.cls ≠ "java/lang/invoke/MethodHandle" ∧ yX6_isPlace.cls ≠ "java/lang/invoke/VarHandle" ∧ (parseMethodDescriptor yX6_isPlace.desc).map (fun d => d.parameters.length) = some 1 := ⟨rfl, hs_X6_isPlace⟩
def f_X6_isPlace (v2 : Int32) (p1 : Int32) : Int32 := (if p1 < 0 then (0 : Int32) else (if v2 ≤ p1 then (0 : Int32) else (1 : Int32)))
abbrev rm_X6_isPlace : Room := { frames := 0, cells := 0, slots := 0, locals := 0 }
set_option maxHeartbeats 8000000 in
set_option maxRecDepth 100000 in
theorem c_X6_isPlace (l : Launch) (dC : Nat → ClassId) (dI : Nat → Nat → Nat) (a : Nat → Nat) (cI cJ : ClassId) (xs : Nat → Int32) (ys : Nat → Int32) (pl : Nat → Int32) (lp : Nat → Int64) (lq : Nat → Int64) (lr : Nat → Int64) (v0 : Int32) (v1 : Int32) (v2 : Int32) (v3 : Int32) (v4 : Int32) (v5 : Int32) (v6 : Int32) (v7 : Int32) (p1 : Int32) : Met l yX6_isPlace (Cond.code yX6_isPlace cX6_isPlace 2 (some .boolean) :: lw_G) rm_X6_isPlace (pPc (dC, dI) (tIJ cI cJ) (wM a cI cJ xs ys pl lp lq lr v0 v1 v2 v3 v4 v5 v6 v7) [.ref (a 0), .int p1]) (pQi (f_X6_isPlace v2 p1)) 0 0 pNo := by
  refine pm_of (by decide) (Nat.le_of_ble_eq_true rfl) ?_
  intro p e s m args below meth c Q ls hQ hx hb hr hlk hml hown hts hP hK hS hl
  have hown : s.vm.findClass RX6 = some m.cls := hown
  have hl : lv_has ls 2 [(0, .ref (a 0)), (1, .int p1)] := hl
  refine lv_iload_n hx hb dX6_isPlace_0 rfl (lv_at hl 1 rfl) ?_
  refine lv_if_lt (tgt := 16) hx hb dX6_isPlace_1 (by decide) (fun c1 => ?_) (fun c1 => ?_)
  · skip
    refine lv_iconst (v := (0 : Int32)) hx hb dX6_isPlace_16 (by decide) ?_
    exact rp_z hQ hx hb hr hlk hS (Eq.symm (by simp only [f_X6_isPlace, if_pos c1])) (by decide) dX6_isPlace_17
  · skip
    refine lv_iload_n hx hb dX6_isPlace_4 rfl (lv_at hl 1 rfl) ?_
    refine lv_aload_n hx hb dX6_isPlace_5 rfl (lv_at hl 0 rfl) ?_
    refine va_get (D := (dC, dI)) (ci := 10) (v := .int v2) (C := RX6) (T := TX6) (N := 14) hx hb hts (fun _ h => gI_wsX60 h) hown hK.1 hP 0 rfl rfl 4 (by decide) (hts _ mG_6_17) (fun _ h9 => h9) rfl dX6_isPlace_6 ?_
    refine lv_icmp_ge (tgt := 16) hx hb dX6_isPlace_9 (by decide) (fun c2 => ?_) (fun c2 => ?_)
    · skip
      refine lv_iconst (v := (0 : Int32)) hx hb dX6_isPlace_16 (by decide) ?_
      exact rp_z hQ hx hb hr hlk hS (Eq.symm (by simp only [f_X6_isPlace, if_neg c1, if_pos c2])) (by decide) dX6_isPlace_17
    · skip
      refine lv_iconst (v := (1 : Int32)) hx hb dX6_isPlace_12 (by decide) ?_
      refine lv_goto (tgt := 17) hx hb dX6_isPlace_13 (by decide) ?_
      exact rp_z hQ hx hb hr hlk hS (Eq.symm (by simp only [f_X6_isPlace, if_neg c1, if_neg c2])) (by decide) dX6_isPlace_17
/-! X6_isMany -/
theorem hs_X6_isMany : yX6_isMany.cls ≠ "java/lang/invoke/MethodHandle" ∧ yX6_isMany.cls ≠ "java/lang/invoke/VarHandle" ∧ (parseMethodDescriptor yX6_isMany.desc).map (fun d => d.parameters.length) = some 2 := by decide +kernel
theorem hd_X6_isMany : yX6_isMany.cls = RX6 ∧ yX6_isMany.cls ≠ "java/lang/invoke/MethodHandle" ∧ yX6_isMany.cls ≠ "java/lang/invoke/VarHandle" ∧ (parseMethodDescriptor yX6_isMany.desc).map (fun d => d.parameters.length) = some 2 := ⟨rfl, hs_X6_isMany⟩
def f_X6_isMany (v2 : Int32) (p1 : Int32) (p2 : Int32) : Int32 := (if p1 < p2 then (0 : Int32) else (if v2 < p1 then (0 : Int32) else (1 : Int32)))
abbrev rm_X6_isMany : Room := { frames := 0, cells := 0, slots := 0, locals := 0 }
set_option maxHeartbeats 8000000 in
set_option maxRecDepth 100000 in
theorem c_X6_isMany (l : Launch) (dC : Nat → ClassId) (dI : Nat → Nat → Nat) (a : Nat → Nat) (cI cJ : ClassId) (xs : Nat → Int32) (ys : Nat → Int32) (pl : Nat → Int32) (lp : Nat → Int64) (lq : Nat → Int64) (lr : Nat → Int64) (v0 : Int32) (v1 : Int32) (v2 : Int32) (v3 : Int32) (v4 : Int32) (v5 : Int32) (v6 : Int32) (v7 : Int32) (p1 : Int32) (p2 : Int32) : Met l yX6_isMany (Cond.code yX6_isMany cX6_isMany 3 (some .boolean) :: lw_G) rm_X6_isMany (pPc (dC, dI) (tIJ cI cJ) (wM a cI cJ xs ys pl lp lq lr v0 v1 v2 v3 v4 v5 v6 v7) [.ref (a 0), .int p1, .int p2]) (pQi (f_X6_isMany v2 p1 p2)) 0 0 pNo := by
  refine pm_of (by decide) (Nat.le_of_ble_eq_true rfl) ?_
  intro p e s m args below meth c Q ls hQ hx hb hr hlk hml hown hts hP hK hS hl
  have hown : s.vm.findClass RX6 = some m.cls := hown
  have hl : lv_has ls 3 [(0, .ref (a 0)), (1, .int p1), (2, .int p2)] := hl
  refine lv_iload_n hx hb dX6_isMany_0 rfl (lv_at hl 1 rfl) ?_
  refine lv_iload_n hx hb dX6_isMany_1 rfl (lv_at hl 2 rfl) ?_
  refine lv_icmp_lt (tgt := 17) hx hb dX6_isMany_2 (by decide) (fun c1 => ?_) (fun c1 => ?_)
  · skip
    refine lv_iconst (v := (0 : Int32)) hx hb dX6_isMany_17 (by decide) ?_
    exact rp_z hQ hx hb hr hlk hS (Eq.symm (by simp only [f_X6_isMany, if_pos c1])) (by decide) dX6_isMany_18
  · skip
    refine lv_iload_n hx hb dX6_isMany_5 rfl (lv_at hl 1 rfl) ?_
    refine lv_aload_n hx hb dX6_isMany_6 rfl (lv_at hl 0 rfl) ?_
    refine va_get (D := (dC, dI)) (ci := 10) (v := .int v2) (C := RX6) (T := TX6) (N := 14) hx hb hts (fun _ h => gI_wsX60 h) hown hK.1 hP 0 rfl rfl 4 (by decide) (hts _ mG_6_17) (fun _ h9 => h9) rfl dX6_isMany_7 ?_
    refine lv_icmp_gt (tgt := 17) hx hb dX6_isMany_10 (by decide) (fun c2 => ?_) (fun c2 => ?_)
    · skip
      refine lv_iconst (v := (0 : Int32)) hx hb dX6_isMany_17 (by decide) ?_
      exact rp_z hQ hx hb hr hlk hS (Eq.symm (by simp only [f_X6_isMany, if_neg c1, if_pos c2])) (by decide) dX6_isMany_18
    · skip
      refine lv_iconst (v := (1 : Int32)) hx hb dX6_isMany_13 (by decide) ?_
      refine lv_goto (tgt := 18) hx hb dX6_isMany_14 (by decide) ?_
      exact rp_z hQ hx hb hr hlk hS (Eq.symm (by simp only [f_X6_isMany, if_neg c1, if_neg c2])) (by decide) dX6_isMany_18
/-! X6_signOf -/
theorem hs_X6_signOf : yX6_signOf.cls ≠ "java/lang/invoke/MethodHandle" ∧ yX6_signOf.cls ≠ "java/lang/invoke/VarHandle" ∧ (parseMethodDescriptor yX6_signOf.desc).map (fun d => d.parameters.length) = some 1 := by decide +kernel
theorem hd_X6_signOf : yX6_signOf.cls = RX6 ∧ yX6_signOf.cls ≠ "java/lang/invoke/MethodHandle" ∧ yX6_signOf.cls ≠ "java/lang/invoke/VarHandle" ∧ (parseMethodDescriptor yX6_signOf.desc).map (fun d => d.parameters.length) = some 1 := ⟨rfl, hs_X6_signOf⟩
def f_X6_signOf  (p1 : Int64) : Int32 := (if (lg_cmp p1 (0 : Int64)) ≤ 0 then (if 0 ≤ (lg_cmp p1 (0 : Int64)) then (0 : Int32) else (-1 : Int32)) else (1 : Int32))
abbrev rm_X6_signOf : Room := { frames := 0, cells := 0, slots := 0, locals := 0 }
set_option maxHeartbeats 8000000 in
set_option maxRecDepth 100000 in
theorem c_X6_signOf (l : Launch) (p1 : Int64) : Met l yX6_signOf (Cond.code yX6_signOf cX6_signOf 2 (some .int) :: lw_G) rm_X6_signOf (nPc [.long p1]) (pQi (f_X6_signOf p1)) 0 0 pNo := by
  refine nm_of (by decide) (Nat.le_of_ble_eq_true rfl) ?_
  intro p e s m args below meth c Q ls hQ hx hb hr hlk hml hown hts hS hl
  have hown : s.vm.findClass RX6 = some m.cls := hown
  have hl : lv_has ls 2 [(0, .long p1)] := hl
  refine lv_lload_n hx hb dX6_signOf_0 rfl (lv_at hl 0 rfl) ?_
  refine lv_lconst (v := (0 : Int64)) hx hb dX6_signOf_1 (by decide) ?_
  refine W.lcmp hx hb dX6_signOf_2 ?_
  refine lv_if_le (tgt := 10) hx hb dX6_signOf_3 (by decide) (fun c1 => ?_) (fun c1 => ?_)
  · skip
    refine lv_lload_n hx hb dX6_signOf_10 rfl (lv_at hl 0 rfl) ?_
    refine lv_lconst (v := (0 : Int64)) hx hb dX6_signOf_11 (by decide) ?_
    refine W.lcmp hx hb dX6_signOf_12 ?_
    refine lv_if_ge (tgt := 20) hx hb dX6_signOf_13 (by decide) (fun c2 => ?_) (fun c2 => ?_)
    · skip
      refine lv_iconst (v := (0 : Int32)) hx hb dX6_signOf_20 (by decide) ?_
      exact rp_i hQ hx hb hr hlk hS (Eq.symm (by simp only [f_X6_signOf, if_pos c1, if_pos c2])) dX6_signOf_21
    · skip
      refine lv_iconst (v := (-1 : Int32)) hx hb dX6_signOf_16 (by decide) ?_
      refine lv_goto (tgt := 21) hx hb dX6_signOf_17 (by decide) ?_
      exact rp_i hQ hx hb hr hlk hS (Eq.symm (by simp only [f_X6_signOf, if_pos c1, if_neg c2])) dX6_signOf_21
  · skip
    refine lv_iconst (v := (1 : Int32)) hx hb dX6_signOf_6 (by decide) ?_
    refine lv_goto (tgt := 21) hx hb dX6_signOf_7 (by decide) ?_
    exact rp_i hQ hx hb hr hlk hS (Eq.symm (by simp only [f_X6_signOf, if_neg c1])) dX6_signOf_21
/-! X6_areEqual -/
theorem hs_X6_areEqual : yX6_areEqual.cls ≠ "java/lang/invoke/MethodHandle" ∧ yX6_areEqual.cls ≠ "java/lang/invoke/VarHandle" ∧ (parseMethodDescriptor yX6_areEqual.desc).map (fun d => d.parameters.length) = some 2 := by decide +kernel
theorem hd_X6_areEqual : yX6_areEqual.cls = RX6 ∧ yX6_areEqual.cls ≠ "java/lang/invoke/MethodHandle" ∧ yX6_areEqual.cls ≠ "java/lang/invoke/VarHandle" ∧ (parseMethodDescriptor yX6_areEqual.desc).map (fun d => d.parameters.length) = some 2 := ⟨rfl, hs_X6_areEqual⟩
def f_X6_areEqual (xs : Nat → Int32) (ys : Nat → Int32) (p1 : Int32) (p2 : Int32) : Int32 := (if (xs (Int32.toNatClampNeg p1)) = (xs (Int32.toNatClampNeg p2)) then (if (ys (Int32.toNatClampNeg p1)) = (ys (Int32.toNatClampNeg p2)) then (1 : Int32) else (0 : Int32)) else (0 : Int32))
abbrev rm_X6_areEqual : Room := { frames := 0, cells := 0, slots := 0, locals := 0 }
set_option maxHeartbeats 8000000 in
set_option maxRecDepth 100000 in
theorem c_X6_areEqual (l : Launch) (dC : Nat → ClassId) (dI : Nat → Nat → Nat) (a : Nat → Nat) (cI cJ : ClassId) (xs : Nat → Int32) (ys : Nat → Int32) (pl : Nat → Int32) (lp : Nat → Int64) (lq : Nat → Int64) (lr : Nat → Int64) (v0 : Int32) (v1 : Int32) (v2 : Int32) (v3 : Int32) (v4 : Int32) (v5 : Int32) (v6 : Int32) (v7 : Int32) (p1 : Int32) (p2 : Int32) (hi1 : vp_in p1 60) (hi2 : vp_in p2 60) : Met l yX6_areEqual (Cond.code yX6_areEqual cX6_areEqual 3 (some .boolean) :: lw_G) rm_X6_areEqual (pPc (dC, dI) (tIJ cI cJ) (wM a cI cJ xs ys pl lp lq lr v0 v1 v2 v3 v4 v5 v6 v7) [.ref (a 0), .int p1, .int p2]) (pQi (f_X6_areEqual xs ys p1 p2)) 0 0 pNo := by
  refine pm_of (by decide) (Nat.le_of_ble_eq_true rfl) ?_
  intro p e s m args below meth c Q ls hQ hx hb hr hlk hml hown hts hP hK hS hl
  have hown : s.vm.findClass RX6 = some m.cls := hown
  have hl : lv_has ls 3 [(0, .ref (a 0)), (1, .int p1), (2, .int p2)] := hl
  refine lv_aload_n hx hb dX6_areEqual_0 rfl (lv_at hl 0 rfl) ?_
  refine va_get (D := (dC, dI)) (ci := 10) (v := .ref (a 1)) (C := RX6) (T := TX6) (N := 14) hx hb hts (fun _ h => gI_wsX60 h) hown hK.1 hP 0 rfl rfl 2 (by decide) (hts _ mG_4_8) (fun _ h9 => h9) rfl dX6_areEqual_1 ?_
  refine lv_iload_n hx hb dX6_areEqual_4 rfl (lv_at hl 1 rfl) ?_
  refine va_iald hx hb hK.1 hP 1 0 rfl rfl (by first | with_reducible assumption | exact in0_24 | exact in0_60 | decide) dX6_areEqual_5 ?_
  refine lv_aload_n hx hb dX6_areEqual_6 rfl (lv_at hl 0 rfl) ?_
  refine va_get (D := (dC, dI)) (ci := 10) (v := .ref (a 1)) (C := RX6) (T := TX6) (N := 14) hx hb hts (fun _ h => gI_wsX60 h) hown hK.1 hP 0 rfl rfl 2 (by decide) (hts _ mG_4_8) (fun _ h9 => h9) rfl dX6_areEqual_7 ?_
  refine lv_iload_n hx hb dX6_areEqual_10 rfl (lv_at hl 2 rfl) ?_
  refine va_iald hx hb hK.1 hP 1 0 rfl rfl (by first | with_reducible assumption | exact in0_24 | exact in0_60 | decide) dX6_areEqual_11 ?_
  refine lv_icmp_ne (tgt := 34) hx hb dX6_areEqual_12 (by decide) (fun c1 => ?_) (fun c1 => ?_)
  · skip
    refine lv_iconst (v := (0 : Int32)) hx hb dX6_areEqual_34 (by decide) ?_
    exact rp_z hQ hx hb hr hlk hS (Eq.symm (by simp only [f_X6_areEqual, if_neg c1])) (by decide) dX6_areEqual_35
  · skip
    refine lv_aload_n hx hb dX6_areEqual_15 rfl (lv_at hl 0 rfl) ?_
    refine va_get (D := (dC, dI)) (ci := 10) (v := .ref (a 2)) (C := RX6) (T := TX6) (N := 14) hx hb hts (fun _ h => gI_wsX60 h) hown hK.1 hP 0 rfl rfl 3 (by decide) (hts _ mG_4_9) (fun _ h9 => h9) rfl dX6_areEqual_16 ?_
    refine lv_iload_n hx hb dX6_areEqual_19 rfl (lv_at hl 1 rfl) ?_
    refine va_iald hx hb hK.1 hP 2 0 rfl rfl (by first | with_reducible assumption | exact in0_24 | exact in0_60 | decide) dX6_areEqual_20 ?_
    refine lv_aload_n hx hb dX6_areEqual_21 rfl (lv_at hl 0 rfl) ?_
    refine va_get (D := (dC, dI)) (ci := 10) (v := .ref (a 2)) (C := RX6) (T := TX6) (N := 14) hx hb hts (fun _ h => gI_wsX60 h) hown hK.1 hP 0 rfl rfl 3 (by decide) (hts _ mG_4_9) (fun _ h9 => h9) rfl dX6_areEqual_22 ?_
    refine lv_iload_n hx hb dX6_areEqual_25 rfl (lv_at hl 2 rfl) ?_
    refine va_iald hx hb hK.1 hP 2 0 rfl rfl (by first | with_reducible assumption | exact in0_24 | exact in0_60 | decide) dX6_areEqual_26 ?_
    refine lv_icmp_ne (tgt := 34) hx hb dX6_areEqual_27 (by decide) (fun c2 => ?_) (fun c2 => ?_)
    · skip
      refine lv_iconst (v := (0 : Int32)) hx hb dX6_areEqual_34 (by decide) ?_
      exact rp_z hQ hx hb hr hlk hS (Eq.symm (by simp only [f_X6_areEqual, if_pos c1, if_neg c2])) (by decide) dX6_areEqual_35
    · skip
      refine lv_iconst (v := (1 : Int32)) hx hb dX6_areEqual_30 (by decide) ?_
      refine lv_goto (tgt := 35) hx hb dX6_areEqual_31 (by decide) ?_
      exact rp_z hQ hx hb hr hlk hS (Eq.symm (by simp only [f_X6_areEqual, if_pos c1, if_pos c2])) (by decide) dX6_areEqual_35
/-! X6_turn -/
theorem hs_X6_turn : yX6_turn.cls ≠ "java/lang/invoke/MethodHandle" ∧ yX6_turn.cls ≠ "java/lang/invoke/VarHandle" ∧ (parseMethodDescriptor yX6_turn.desc).map (fun d => d.parameters.length) = some 3 := by decide +kernel
theorem hd_X6_turn : yX6_turn.cls = RX6 ∧ yX6_turn.cls ≠ "java/lang/invoke/MethodHandle" ∧ yX6_turn.cls ≠ "java/lang/invoke/VarHandle" ∧ (parseMethodDescriptor yX6_turn.desc).map (fun d => d.parameters.length) = some 3 := ⟨rfl, hs_X6_turn⟩
def f_X6_turn (xs : Nat → Int32) (ys : Nat → Int32) (p1 : Int32) (p2 : Int32) (p3 : Int32) : Int32 := (f_X6_signOf (((Int32.toInt64 ((xs (Int32.toNatClampNeg p2)) - (xs (Int32.toNatClampNeg p1)))) * (Int32.toInt64 ((ys (Int32.toNatClampNeg p3)) - (ys (Int32.toNatClampNeg p1))))) - ((Int32.toInt64 ((ys (Int32.toNatClampNeg p2)) - (ys (Int32.toNatClampNeg p1)))) * (Int32.toInt64 ((xs (Int32.toNatClampNeg p3)) - (xs (Int32.toNatClampNeg p1)))))))
abbrev rm_X6_turn : Room := { frames := 1, cells := 0, slots := 0, locals := 21 }
set_option maxHeartbeats 8000000 in
set_option maxRecDepth 100000 in
theorem c_X6_turn (l : Launch) (dC : Nat → ClassId) (dI : Nat → Nat → Nat) (a : Nat → Nat) (cI cJ : ClassId) (xs : Nat → Int32) (ys : Nat → Int32) (pl : Nat → Int32) (lp : Nat → Int64) (lq : Nat → Int64) (lr : Nat → Int64) (v0 : Int32) (v1 : Int32) (v2 : Int32) (v3 : Int32) (v4 : Int32) (v5 : Int32) (v6 : Int32) (v7 : Int32) (p1 : Int32) (p2 : Int32) (p3 : Int32) (hi1 : vp_in p1 60) (hi2 : vp_in p2 60) (hi3 : vp_in p3 60) : Met l yX6_turn (Cond.code yX6_turn cX6_turn 4 (some .int) :: lw_G) rm_X6_turn (pPc (dC, dI) (tIJ cI cJ) (wM a cI cJ xs ys pl lp lq lr v0 v1 v2 v3 v4 v5 v6 v7) [.ref (a 0), .int p1, .int p2, .int p3]) (pQi (f_X6_turn xs ys p1 p2 p3)) 0 0 pNo := by
  refine pm_of (by decide) (Nat.le_of_ble_eq_true rfl) ?_
  intro p e s m args below meth c Q ls hQ hx hb hr hlk hml hown hts hP hK hS hl
  have hown : s.vm.findClass RX6 = some m.cls := hown
  have hl : lv_has ls 4 [(0, .ref (a 0)), (1, .int p1), (2, .int p2), (3, .int p3)] := hl
  refine lv_aload_n hx hb dX6_turn_0 rfl (lv_at hl 0 rfl) ?_
  refine va_get (D := (dC, dI)) (ci := 10) (v := .ref (a 1)) (C := RX6) (T := TX6) (N := 14) hx hb hts (fun _ h => gI_wsX60 h) hown hK.1 hP 0 rfl rfl 2 (by decide) (hts _ mG_4_8) (fun _ h9 => h9) rfl dX6_turn_1 ?_
  refine lv_iload_n hx hb dX6_turn_4 rfl (lv_at hl 2 rfl) ?_
  refine va_iald hx hb hK.1 hP 1 0 rfl rfl (by first | with_reducible assumption | exact in0_24 | exact in0_60 | decide) dX6_turn_5 ?_
  refine lv_aload_n hx hb dX6_turn_6 rfl (lv_at hl 0 rfl) ?_
  refine va_get (D := (dC, dI)) (ci := 10) (v := .ref (a 1)) (C := RX6) (T := TX6) (N := 14) hx hb hts (fun _ h => gI_wsX60 h) hown hK.1 hP 0 rfl rfl 2 (by decide) (hts _ mG_4_8) (fun _ h9 => h9) rfl dX6_turn_7 ?_
  refine lv_iload_n hx hb dX6_turn_10 rfl (lv_at hl 1 rfl) ?_
  refine va_iald hx hb hK.1 hP 1 0 rfl rfl (by first | with_reducible assumption | exact in0_24 | exact in0_60 | decide) dX6_turn_11 ?_
  refine lv_isub hx hb dX6_turn_12 ?_
  refine lv_i2l hx hb dX6_turn_13 rfl ?_
  refine lv_aload_n hx hb dX6_turn_14 rfl (lv_at hl 0 rfl) ?_
  refine va_get (D := (dC, dI)) (ci := 10) (v := .ref (a 2)) (C := RX6) (T := TX6) (N := 14) hx hb hts (fun _ h => gI_wsX60 h) hown hK.1 hP 0 rfl rfl 3 (by decide) (hts _ mG_4_9) (fun _ h9 => h9) rfl dX6_turn_15 ?_
  refine lv_iload_n hx hb dX6_turn_18 rfl (lv_at hl 3 rfl) ?_
  refine va_iald hx hb hK.1 hP 2 0 rfl rfl (by first | with_reducible assumption | exact in0_24 | exact in0_60 | decide) dX6_turn_19 ?_
  refine lv_aload_n hx hb dX6_turn_20 rfl (lv_at hl 0 rfl) ?_
  refine va_get (D := (dC, dI)) (ci := 10) (v := .ref (a 2)) (C := RX6) (T := TX6) (N := 14) hx hb hts (fun _ h => gI_wsX60 h) hown hK.1 hP 0 rfl rfl 3 (by decide) (hts _ mG_4_9) (fun _ h9 => h9) rfl dX6_turn_21 ?_
  refine lv_iload_n hx hb dX6_turn_24 rfl (lv_at hl 1 rfl) ?_
  refine va_iald hx hb hK.1 hP 2 0 rfl rfl (by first | with_reducible assumption | exact in0_24 | exact in0_60 | decide) dX6_turn_25 ?_
  refine lv_isub hx hb dX6_turn_26 ?_
  refine lv_i2l hx hb dX6_turn_27 rfl ?_
  refine lv_lmul hx hb dX6_turn_28 ?_
  refine lv_aload_n hx hb dX6_turn_29 rfl (lv_at hl 0 rfl) ?_
  refine va_get (D := (dC, dI)) (ci := 10) (v := .ref (a 2)) (C := RX6) (T := TX6) (N := 14) hx hb hts (fun _ h => gI_wsX60 h) hown hK.1 hP 0 rfl rfl 3 (by decide) (hts _ mG_4_9) (fun _ h9 => h9) rfl dX6_turn_30 ?_
  refine lv_iload_n hx hb dX6_turn_33 rfl (lv_at hl 2 rfl) ?_
  refine va_iald hx hb hK.1 hP 2 0 rfl rfl (by first | with_reducible assumption | exact in0_24 | exact in0_60 | decide) dX6_turn_34 ?_
  refine lv_aload_n hx hb dX6_turn_35 rfl (lv_at hl 0 rfl) ?_
  refine va_get (D := (dC, dI)) (ci := 10) (v := .ref (a 2)) (C := RX6) (T := TX6) (N := 14) hx hb hts (fun _ h => gI_wsX60 h) hown hK.1 hP 0 rfl rfl 3 (by decide) (hts _ mG_4_9) (fun _ h9 => h9) rfl dX6_turn_36 ?_
  refine lv_iload_n hx hb dX6_turn_39 rfl (lv_at hl 1 rfl) ?_
  refine va_iald hx hb hK.1 hP 2 0 rfl rfl (by first | with_reducible assumption | exact in0_24 | exact in0_60 | decide) dX6_turn_40 ?_
  refine lv_isub hx hb dX6_turn_41 ?_
  refine lv_i2l hx hb dX6_turn_42 rfl ?_
  refine lv_aload_n hx hb dX6_turn_43 rfl (lv_at hl 0 rfl) ?_
  refine va_get (D := (dC, dI)) (ci := 10) (v := .ref (a 1)) (C := RX6) (T := TX6) (N := 14) hx hb hts (fun _ h => gI_wsX60 h) hown hK.1 hP 0 rfl rfl 2 (by decide) (hts _ mG_4_8) (fun _ h9 => h9) rfl dX6_turn_44 ?_
  refine lv_iload_n hx hb dX6_turn_47 rfl (lv_at hl 3 rfl) ?_
  refine va_iald hx hb hK.1 hP 1 0 rfl rfl (by first | with_reducible assumption | exact in0_24 | exact in0_60 | decide) dX6_turn_48 ?_
  refine lv_aload_n hx hb dX6_turn_49 rfl (lv_at hl 0 rfl) ?_
  refine va_get (D := (dC, dI)) (ci := 10) (v := .ref (a 1)) (C := RX6) (T := TX6) (N := 14) hx hb hts (fun _ h => gI_wsX60 h) hown hK.1 hP 0 rfl rfl 2 (by decide) (hts _ mG_4_8) (fun _ h9 => h9) rfl dX6_turn_50 ?_
  refine lv_iload_n hx hb dX6_turn_53 rfl (lv_at hl 1 rfl) ?_
  refine va_iald hx hb hK.1 hP 1 0 rfl rfl (by first | with_reducible assumption | exact in0_24 | exact in0_60 | decide) dX6_turn_54 ?_
  refine lv_isub hx hb dX6_turn_55 ?_
  refine lv_i2l hx hb dX6_turn_56 rfl ?_
  refine lv_lmul hx hb dX6_turn_57 ?_
  refine lv_lsub hx hb dX6_turn_58 ?_
  refine cp_i (va_runS (As := [.long (((Int32.toInt64 ((xs (Int32.toNatClampNeg p2)) - (xs (Int32.toNatClampNeg p1)))) * (Int32.toInt64 ((ys (Int32.toNatClampNeg p3)) - (ys (Int32.toNatClampNeg p1))))) - ((Int32.toInt64 ((ys (Int32.toNatClampNeg p2)) - (ys (Int32.toNatClampNeg p1)))) * (Int32.toInt64 ((xs (Int32.toNatClampNeg p3)) - (xs (Int32.toNatClampNeg p1))))))]) (rest := []) ⟨hx, hb, hml, hown, hts⟩ (c_X6_signOf l (((Int32.toInt64 ((xs (Int32.toNatClampNeg p2)) - (xs (Int32.toNatClampNeg p1)))) * (Int32.toInt64 ((ys (Int32.toNatClampNeg p3)) - (ys (Int32.toNatClampNeg p1))))) - ((Int32.toInt64 ((ys (Int32.toNatClampNeg p2)) - (ys (Int32.toNatClampNeg p1)))) * (Int32.toInt64 ((xs (Int32.toNatClampNeg p3)) - (xs (Int32.toNatClampNeg p1)))))) ) (va_cwS 1 hts (gG_S mG_13_8 mG_13_9 mG_1_5 (gG_c mG_13_10 gG_G)) rfl rfl rfl hs_X6_signOf ⟨Nat.le_of_ble_eq_true rfl, Nat.le_of_ble_eq_true rfl⟩) nPcS rfl rfl hl.1 rfl (lv_room (Nat.le_of_ble_eq_true rfl)) dX6_turn_59 ⟨Nat.le_of_ble_eq_true rfl, Nat.le_of_ble_eq_true rfl⟩) hP hS (fun H hP hS => ?_)
  exact rp_i hQ hx hb hr hlk hS (Eq.symm (by simp only [f_X6_turn])) dX6_turn_62
/-! X6_along -/
theorem hs_X6_along : yX6_along.cls ≠ "java/lang/invoke/MethodHandle" ∧ yX6_along.cls ≠ "java/lang/invoke/VarHandle" ∧ (parseMethodDescriptor yX6_along.desc).map (fun d => d.parameters.length) = some 3 := by decide +kernel
theorem hd_X6_along : yX6_along.cls = RX6 ∧ yX6_along.cls ≠ "java/lang/invoke/MethodHandle" ∧ yX6_along.cls ≠ "java/lang/invoke/VarHandle" ∧ (parseMethodDescriptor yX6_along.desc).map (fun d => d.parameters.length) = some 3 := ⟨rfl, hs_X6_along⟩
def f_X6_along (xs : Nat → Int32) (ys : Nat → Int32) (p1 : Int32) (p2 : Int32) (p3 : Int32) : Int64 := (((Int32.toInt64 ((xs (Int32.toNatClampNeg p2)) - (xs (Int32.toNatClampNeg p1)))) * (Int32.toInt64 ((xs (Int32.toNatClampNeg p3)) - (xs (Int32.toNatClampNeg p1))))) + ((Int32.toInt64 ((ys (Int32.toNatClampNeg p2)) - (ys (Int32.toNatClampNeg p1)))) * (Int32.toInt64 ((ys (Int32.toNatClampNeg p3)) - (ys (Int32.toNatClampNeg p1))))))
abbrev rm_X6_along : Room := { frames := 0, cells := 0, slots := 0, locals := 0 }
set_option maxHeartbeats 8000000 in
set_option maxRecDepth 100000 in
theorem c_X6_along (l : Launch) (dC : Nat → ClassId) (dI : Nat → Nat → Nat) (a : Nat → Nat) (cI cJ : ClassId) (xs : Nat → Int32) (ys : Nat → Int32) (pl : Nat → Int32) (lp : Nat → Int64) (lq : Nat → Int64) (lr : Nat → Int64) (v0 : Int32) (v1 : Int32) (v2 : Int32) (v3 : Int32) (v4 : Int32) (v5 : Int32) (v6 : Int32) (v7 : Int32) (p1 : Int32) (p2 : Int32) (p3 : Int32) (hi1 : vp_in p1 60) (hi2 : vp_in p2 60) (hi3 : vp_in p3 60) : Met l yX6_along (Cond.code yX6_along cX6_along 4 (some .long) :: lw_G) rm_X6_along (pPc (dC, dI) (tIJ cI cJ) (wM a cI cJ xs ys pl lp lq lr v0 v1 v2 v3 v4 v5 v6 v7) [.ref (a 0), .int p1, .int p2, .int p3]) (pQl (f_X6_along xs ys p1 p2 p3)) 0 0 pNo := by
  refine pm_of (by decide) (Nat.le_of_ble_eq_true rfl) ?_
  intro p e s m args below meth c Q ls hQ hx hb hr hlk hml hown hts hP hK hS hl
  have hown : s.vm.findClass RX6 = some m.cls := hown
  have hl : lv_has ls 4 [(0, .ref (a 0)), (1, .int p1), (2, .int p2), (3, .int p3)] := hl
  refine lv_aload_n hx hb dX6_along_0 rfl (lv_at hl 0 rfl) ?_
  refine va_get (D := (dC, dI)) (ci := 10) (v := .ref (a 1)) (C := RX6) (T := TX6) (N := 14) hx hb hts (fun _ h => gI_wsX60 h) hown hK.1 hP 0 rfl rfl 2 (by decide) (hts _ mG_4_8) (fun _ h9 => h9) rfl dX6_along_1 ?_
  refine lv_iload_n hx hb dX6_along_4 rfl (lv_at hl 2 rfl) ?_
  refine va_iald hx hb hK.1 hP 1 0 rfl rfl (by first | with_reducible assumption | exact in0_24 | exact in0_60 | decide) dX6_along_5 ?_
  refine lv_aload_n hx hb dX6_along_6 rfl (lv_at hl 0 rfl) ?_
  refine va_get (D := (dC, dI)) (ci := 10) (v := .ref (a 1)) (C := RX6) (T := TX6) (N := 14) hx hb hts (fun _ h => gI_wsX60 h) hown hK.1 hP 0 rfl rfl 2 (by decide) (hts _ mG_4_8) (fun _ h9 => h9) rfl dX6_along_7 ?_
  refine lv_iload_n hx hb dX6_along_10 rfl (lv_at hl 1 rfl) ?_
  refine va_iald hx hb hK.1 hP 1 0 rfl rfl (by first | with_reducible assumption | exact in0_24 | exact in0_60 | decide) dX6_along_11 ?_
  refine lv_isub hx hb dX6_along_12 ?_
  refine lv_i2l hx hb dX6_along_13 rfl ?_
  refine lv_aload_n hx hb dX6_along_14 rfl (lv_at hl 0 rfl) ?_
  refine va_get (D := (dC, dI)) (ci := 10) (v := .ref (a 1)) (C := RX6) (T := TX6) (N := 14) hx hb hts (fun _ h => gI_wsX60 h) hown hK.1 hP 0 rfl rfl 2 (by decide) (hts _ mG_4_8) (fun _ h9 => h9) rfl dX6_along_15 ?_
  refine lv_iload_n hx hb dX6_along_18 rfl (lv_at hl 3 rfl) ?_
  refine va_iald hx hb hK.1 hP 1 0 rfl rfl (by first | with_reducible assumption | exact in0_24 | exact in0_60 | decide) dX6_along_19 ?_
  refine lv_aload_n hx hb dX6_along_20 rfl (lv_at hl 0 rfl) ?_
  refine va_get (D := (dC, dI)) (ci := 10) (v := .ref (a 1)) (C := RX6) (T := TX6) (N := 14) hx hb hts (fun _ h => gI_wsX60 h) hown hK.1 hP 0 rfl rfl 2 (by decide) (hts _ mG_4_8) (fun _ h9 => h9) rfl dX6_along_21 ?_
  refine lv_iload_n hx hb dX6_along_24 rfl (lv_at hl 1 rfl) ?_
  refine va_iald hx hb hK.1 hP 1 0 rfl rfl (by first | with_reducible assumption | exact in0_24 | exact in0_60 | decide) dX6_along_25 ?_
  refine lv_isub hx hb dX6_along_26 ?_
  refine lv_i2l hx hb dX6_along_27 rfl ?_
  refine lv_lmul hx hb dX6_along_28 ?_
  refine lv_aload_n hx hb dX6_along_29 rfl (lv_at hl 0 rfl) ?_
  refine va_get (D := (dC, dI)) (ci := 10) (v := .ref (a 2)) (C := RX6) (T := TX6) (N := 14) hx hb hts (fun _ h => gI_wsX60 h) hown hK.1 hP 0 rfl rfl 3 (by decide) (hts _ mG_4_9) (fun _ h9 => h9) rfl dX6_along_30 ?_
  refine lv_iload_n hx hb dX6_along_33 rfl (lv_at hl 2 rfl) ?_
  refine va_iald hx hb hK.1 hP 2 0 rfl rfl (by first | with_reducible assumption | exact in0_24 | exact in0_60 | decide) dX6_along_34 ?_
  refine lv_aload_n hx hb dX6_along_35 rfl (lv_at hl 0 rfl) ?_
  refine va_get (D := (dC, dI)) (ci := 10) (v := .ref (a 2)) (C := RX6) (T := TX6) (N := 14) hx hb hts (fun _ h => gI_wsX60 h) hown hK.1 hP 0 rfl rfl 3 (by decide) (hts _ mG_4_9) (fun _ h9 => h9) rfl dX6_along_36 ?_
  refine lv_iload_n hx hb dX6_along_39 rfl (lv_at hl 1 rfl) ?_
  refine va_iald hx hb hK.1 hP 2 0 rfl rfl (by first | with_reducible assumption | exact in0_24 | exact in0_60 | decide) dX6_along_40 ?_
  refine lv_isub hx hb dX6_along_41 ?_
  refine lv_i2l hx hb dX6_along_42 rfl ?_
  refine lv_aload_n hx hb dX6_along_43 rfl (lv_at hl 0 rfl) ?_
  refine va_get (D := (dC, dI)) (ci := 10) (v := .ref (a 2)) (C := RX6) (T := TX6) (N := 14) hx hb hts (fun _ h => gI_wsX60 h) hown hK.1 hP 0 rfl rfl 3 (by decide) (hts _ mG_4_9) (fun _ h9 => h9) rfl dX6_along_44 ?_
  refine lv_iload_n hx hb dX6_along_47 rfl (lv_at hl 3 rfl) ?_
  refine va_iald hx hb hK.1 hP 2 0 rfl rfl (by first | with_reducible assumption | exact in0_24 | exact in0_60 | decide) dX6_along_48 ?_
  refine lv_aload_n hx hb dX6_along_49 rfl (lv_at hl 0 rfl) ?_
  refine va_get (D := (dC, dI)) (ci := 10) (v := .ref (a 2)) (C := RX6) (T := TX6) (N := 14) hx hb hts (fun _ h => gI_wsX60 h) hown hK.1 hP 0 rfl rfl 3 (by decide) (hts _ mG_4_9) (fun _ h9 => h9) rfl dX6_along_50 ?_
  refine lv_iload_n hx hb dX6_along_53 rfl (lv_at hl 1 rfl) ?_
  refine va_iald hx hb hK.1 hP 2 0 rfl rfl (by first | with_reducible assumption | exact in0_24 | exact in0_60 | decide) dX6_along_54 ?_
  refine lv_isub hx hb dX6_along_55 ?_
  refine lv_i2l hx hb dX6_along_56 rfl ?_
  refine lv_lmul hx hb dX6_along_57 ?_
  refine lv_ladd hx hb dX6_along_58 ?_
  exact rp_l hQ hx hb hr hlk hS (Eq.symm (by simp only [f_X6_along])) dX6_along_59
/-! X6_ring -/
theorem hs_X6_ring : yX6_ring.cls ≠ "java/lang/invoke/MethodHandle" ∧ yX6_ring.cls ≠ "java/lang/invoke/VarHandle" ∧ (parseMethodDescriptor yX6_ring.desc).map (fun d => d.parameters.length) = some 4 := by decide +kernel
theorem hd_X6_ring : yX6_ring.cls = RX6 ∧ yX6_ring.cls ≠ "java/lang/invoke/MethodHandle" ∧ yX6_ring.cls ≠ "java/lang/invoke/VarHandle" ∧ (parseMethodDescriptor yX6_ring.desc).map (fun d => d.parameters.length) = some 4 := ⟨rfl, hs_X6_ring⟩
def f_X6_ring (xs : Nat → Int32) (ys : Nat → Int32) (p1 : Int32) (p2 : Int32) (p3 : Int32) (p4 : Int32) : Int32 := ((f_X6_turn xs ys p1 p2 p3) * (f_X6_signOf ((((((Int32.toInt64 ((xs (Int32.toNatClampNeg p1)) - (xs (Int32.toNatClampNeg p4)))) * (Int32.toInt64 ((xs (Int32.toNatClampNeg p1)) - (xs (Int32.toNatClampNeg p4))))) + ((Int32.toInt64 ((ys (Int32.toNatClampNeg p1)) - (ys (Int32.toNatClampNeg p4)))) * (Int32.toInt64 ((ys (Int32.toNatClampNeg p1)) - (ys (Int32.toNatClampNeg p4)))))) * (((Int32.toInt64 ((xs (Int32.toNatClampNeg p2)) - (xs (Int32.toNatClampNeg p4)))) * (Int32.toInt64 ((ys (Int32.toNatClampNeg p3)) - (ys (Int32.toNatClampNeg p4))))) - ((Int32.toInt64 ((ys (Int32.toNatClampNeg p2)) - (ys (Int32.toNatClampNeg p4)))) * (Int32.toInt64 ((xs (Int32.toNatClampNeg p3)) - (xs (Int32.toNatClampNeg p4))))))) + ((((Int32.toInt64 ((xs (Int32.toNatClampNeg p2)) - (xs (Int32.toNatClampNeg p4)))) * (Int32.toInt64 ((xs (Int32.toNatClampNeg p2)) - (xs (Int32.toNatClampNeg p4))))) + ((Int32.toInt64 ((ys (Int32.toNatClampNeg p2)) - (ys (Int32.toNatClampNeg p4)))) * (Int32.toInt64 ((ys (Int32.toNatClampNeg p2)) - (ys (Int32.toNatClampNeg p4)))))) * (((Int32.toInt64 ((xs (Int32.toNatClampNeg p3)) - (xs (Int32.toNatClampNeg p4)))) * (Int32.toInt64 ((ys (Int32.toNatClampNeg p1)) - (ys (Int32.toNatClampNeg p4))))) - ((Int32.toInt64 ((ys (Int32.toNatClampNeg p3)) - (ys (Int32.toNatClampNeg p4)))) * (Int32.toInt64 ((xs (Int32.toNatClampNeg p1)) - (xs (Int32.toNatClampNeg p4)))))))) + ((((Int32.toInt64 ((xs (Int32.toNatClampNeg p3)) - (xs (Int32.toNatClampNeg p4)))) * (Int32.toInt64 ((xs (Int32.toNatClampNeg p3)) - (xs (Int32.toNatClampNeg p4))))) + ((Int32.toInt64 ((ys (Int32.toNatClampNeg p3)) - (ys (Int32.toNatClampNeg p4)))) * (Int32.toInt64 ((ys (Int32.toNatClampNeg p3)) - (ys (Int32.toNatClampNeg p4)))))) * (((Int32.toInt64 ((xs (Int32.toNatClampNeg p1)) - (xs (Int32.toNatClampNeg p4)))) * (Int32.toInt64 ((ys (Int32.toNatClampNeg p2)) - (ys (Int32.toNatClampNeg p4))))) - ((Int32.toInt64 ((ys (Int32.toNatClampNeg p1)) - (ys (Int32.toNatClampNeg p4)))) * (Int32.toInt64 ((xs (Int32.toNatClampNeg p2)) - (xs (Int32.toNatClampNeg p4))))))))))
abbrev rm_X6_ring : Room := { frames := 2, cells := 0, slots := 0, locals := 44 }
set_option maxHeartbeats 8000000 in
set_option maxRecDepth 100000 in
theorem c_X6_ring (l : Launch) (dC : Nat → ClassId) (dI : Nat → Nat → Nat) (a : Nat → Nat) (cI cJ : ClassId) (xs : Nat → Int32) (ys : Nat → Int32) (pl : Nat → Int32) (lp : Nat → Int64) (lq : Nat → Int64) (lr : Nat → Int64) (v0 : Int32) (v1 : Int32) (v2 : Int32) (v3 : Int32) (v4 : Int32) (v5 : Int32) (v6 : Int32) (v7 : Int32) (p1 : Int32) (p2 : Int32) (p3 : Int32) (p4 : Int32) (hi1 : vp_in p1 60) (hi2 : vp_in p2 60) (hi3 : vp_in p3 60) (hi4 : vp_in p4 60) : Met l yX6_ring (Cond.code yX6_ring cX6_ring 23 (some .int) :: lw_G) rm_X6_ring (pPc (dC, dI) (tIJ cI cJ) (wM a cI cJ xs ys pl lp lq lr v0 v1 v2 v3 v4 v5 v6 v7) [.ref (a 0), .int p1, .int p2, .int p3, .int p4]) (pQi (f_X6_ring xs ys p1 p2 p3 p4)) 0 0 pNo := by
  refine pm_of (by decide) (Nat.le_of_ble_eq_true rfl) ?_
  intro p e s m args below meth c Q ls hQ hx hb hr hlk hml hown hts hP hK hS hl
  have hown : s.vm.findClass RX6 = some m.cls := hown
  have hl : lv_has ls 23 [(0, .ref (a 0)), (1, .int p1), (2, .int p2), (3, .int p3), (4, .int p4)] := hl
  refine lv_aload_n hx hb dX6_ring_0 rfl (lv_at hl 0 rfl) ?_
  refine va_get (D := (dC, dI)) (ci := 10) (v := .ref (a 1)) (C := RX6) (T := TX6) (N := 14) hx hb hts (fun _ h => gI_wsX60 h) hown hK.1 hP 0 rfl rfl 2 (by decide) (hts _ mG_4_8) (fun _ h9 => h9) rfl dX6_ring_1 ?_
  refine lv_iload_n hx hb dX6_ring_4 rfl (lv_at hl 1 rfl) ?_
  refine va_iald hx hb hK.1 hP 1 0 rfl rfl (by first | with_reducible assumption | exact in0_24 | exact in0_60 | decide) dX6_ring_5 ?_
  refine lv_aload_n hx hb dX6_ring_6 rfl (lv_at hl 0 rfl) ?_
  refine va_get (D := (dC, dI)) (ci := 10) (v := .ref (a 1)) (C := RX6) (T := TX6) (N := 14) hx hb hts (fun _ h => gI_wsX60 h) hown hK.1 hP 0 rfl rfl 2 (by decide) (hts _ mG_4_8) (fun _ h9 => h9) rfl dX6_ring_7 ?_
  refine lv_iload hx hb dX6_ring_10 (lv_at hl 4 rfl) ?_
  refine va_iald hx hb hK.1 hP 1 0 rfl rfl (by first | with_reducible assumption | exact in0_24 | exact in0_60 | decide) dX6_ring_12 ?_
  refine lv_isub hx hb dX6_ring_13 ?_
  refine lv_i2l hx hb dX6_ring_14 rfl ?_
  refine lv_topl (fun y1 ey1 => ?_)
  refine lv_lstore (lv' := [(5, .long y1), (0, .ref (a 0)), (1, .int p1), (2, .int p2), (3, .int p3), (4, .int p4)]) hx hb dX6_ring_15 hl (by decide) rfl (fun ls hl => ?_)
  refine lv_aload_n hx hb dX6_ring_17 rfl (lv_at hl 1 rfl) ?_
  refine va_get (D := (dC, dI)) (ci := 10) (v := .ref (a 2)) (C := RX6) (T := TX6) (N := 14) hx hb hts (fun _ h => gI_wsX60 h) hown hK.1 hP 0 rfl rfl 3 (by decide) (hts _ mG_4_9) (fun _ h9 => h9) rfl dX6_ring_18 ?_
  refine lv_iload_n hx hb dX6_ring_21 rfl (lv_at hl 2 rfl) ?_
  refine va_iald hx hb hK.1 hP 2 0 rfl rfl (by first | with_reducible assumption | exact in0_24 | exact in0_60 | decide) dX6_ring_22 ?_
  refine lv_aload_n hx hb dX6_ring_23 rfl (lv_at hl 1 rfl) ?_
  refine va_get (D := (dC, dI)) (ci := 10) (v := .ref (a 2)) (C := RX6) (T := TX6) (N := 14) hx hb hts (fun _ h => gI_wsX60 h) hown hK.1 hP 0 rfl rfl 3 (by decide) (hts _ mG_4_9) (fun _ h9 => h9) rfl dX6_ring_24 ?_
  refine lv_iload hx hb dX6_ring_27 (lv_at hl 5 rfl) ?_
  refine va_iald hx hb hK.1 hP 2 0 rfl rfl (by first | with_reducible assumption | exact in0_24 | exact in0_60 | decide) dX6_ring_29 ?_
  refine lv_isub hx hb dX6_ring_30 ?_
  refine lv_i2l hx hb dX6_ring_31 rfl ?_
  refine lv_topl (fun y2 ey2 => ?_)
  refine lv_lstore (lv' := [(7, .long y2), (5, .long y1), (0, .ref (a 0)), (1, .int p1), (2, .int p2), (3, .int p3), (4, .int p4)]) hx hb dX6_ring_32 hl (by decide) rfl (fun ls hl => ?_)
  refine lv_aload_n hx hb dX6_ring_34 rfl (lv_at hl 2 rfl) ?_
  refine va_get (D := (dC, dI)) (ci := 10) (v := .ref (a 1)) (C := RX6) (T := TX6) (N := 14) hx hb hts (fun _ h => gI_wsX60 h) hown hK.1 hP 0 rfl rfl 2 (by decide) (hts _ mG_4_8) (fun _ h9 => h9) rfl dX6_ring_35 ?_
  refine lv_iload_n hx hb dX6_ring_38 rfl (lv_at hl 4 rfl) ?_
  refine va_iald hx hb hK.1 hP 1 0 rfl rfl (by first | with_reducible assumption | exact in0_24 | exact in0_60 | decide) dX6_ring_39 ?_
  refine lv_aload_n hx hb dX6_ring_40 rfl (lv_at hl 2 rfl) ?_
  refine va_get (D := (dC, dI)) (ci := 10) (v := .ref (a 1)) (C := RX6) (T := TX6) (N := 14) hx hb hts (fun _ h => gI_wsX60 h) hown hK.1 hP 0 rfl rfl 2 (by decide) (hts _ mG_4_8) (fun _ h9 => h9) rfl dX6_ring_41 ?_
  refine lv_iload hx hb dX6_ring_44 (lv_at hl 6 rfl) ?_
  refine va_iald hx hb hK.1 hP 1 0 rfl rfl (by first | with_reducible assumption | exact in0_24 | exact in0_60 | decide) dX6_ring_46 ?_
  refine lv_isub hx hb dX6_ring_47 ?_
  refine lv_i2l hx hb dX6_ring_48 rfl ?_
  refine lv_topl (fun y3 ey3 => ?_)
  refine lv_lstore (lv' := [(9, .long y3), (7, .long y2), (5, .long y1), (0, .ref (a 0)), (1, .int p1), (2, .int p2), (3, .int p3), (4, .int p4)]) hx hb dX6_ring_49 hl (by decide) rfl (fun ls hl => ?_)
  refine lv_aload_n hx hb dX6_ring_51 rfl (lv_at hl 3 rfl) ?_
  refine va_get (D := (dC, dI)) (ci := 10) (v := .ref (a 2)) (C := RX6) (T := TX6) (N := 14) hx hb hts (fun _ h => gI_wsX60 h) hown hK.1 hP 0 rfl rfl 3 (by decide) (hts _ mG_4_9) (fun _ h9 => h9) rfl dX6_ring_52 ?_
  refine lv_iload_n hx hb dX6_ring_55 rfl (lv_at hl 5 rfl) ?_
  refine va_iald hx hb hK.1 hP 2 0 rfl rfl (by first | with_reducible assumption | exact in0_24 | exact in0_60 | decide) dX6_ring_56 ?_
  refine lv_aload_n hx hb dX6_ring_57 rfl (lv_at hl 3 rfl) ?_
  refine va_get (D := (dC, dI)) (ci := 10) (v := .ref (a 2)) (C := RX6) (T := TX6) (N := 14) hx hb hts (fun _ h => gI_wsX60 h) hown hK.1 hP 0 rfl rfl 3 (by decide) (hts _ mG_4_9) (fun _ h9 => h9) rfl dX6_ring_58 ?_
  refine lv_iload hx hb dX6_ring_61 (lv_at hl 7 rfl) ?_
  refine va_iald hx hb hK.1 hP 2 0 rfl rfl (by first | with_reducible assumption | exact in0_24 | exact in0_60 | decide) dX6_ring_63 ?_
  refine lv_isub hx hb dX6_ring_64 ?_
  refine lv_i2l hx hb dX6_ring_65 rfl ?_
  refine lv_topl (fun y4 ey4 => ?_)
  refine lv_lstore (lv' := [(11, .long y4), (9, .long y3), (7, .long y2), (5, .long y1), (0, .ref (a 0)), (1, .int p1), (2, .int p2), (3, .int p3), (4, .int p4)]) hx hb dX6_ring_66 hl (by decide) rfl (fun ls hl => ?_)
  refine lv_aload_n hx hb dX6_ring_68 rfl (lv_at hl 4 rfl) ?_
  refine va_get (D := (dC, dI)) (ci := 10) (v := .ref (a 1)) (C := RX6) (T := TX6) (N := 14) hx hb hts (fun _ h => gI_wsX60 h) hown hK.1 hP 0 rfl rfl 2 (by decide) (hts _ mG_4_8) (fun _ h9 => h9) rfl dX6_ring_69 ?_
  refine lv_iload_n hx hb dX6_ring_72 rfl (lv_at hl 7 rfl) ?_
  refine va_iald hx hb hK.1 hP 1 0 rfl rfl (by first | with_reducible assumption | exact in0_24 | exact in0_60 | decide) dX6_ring_73 ?_
  refine lv_aload_n hx hb dX6_ring_74 rfl (lv_at hl 4 rfl) ?_
  refine va_get (D := (dC, dI)) (ci := 10) (v := .ref (a 1)) (C := RX6) (T := TX6) (N := 14) hx hb hts (fun _ h => gI_wsX60 h) hown hK.1 hP 0 rfl rfl 2 (by decide) (hts _ mG_4_8) (fun _ h9 => h9) rfl dX6_ring_75 ?_
  refine lv_iload hx hb dX6_ring_78 (lv_at hl 8 rfl) ?_
  refine va_iald hx hb hK.1 hP 1 0 rfl rfl (by first | with_reducible assumption | exact in0_24 | exact in0_60 | decide) dX6_ring_80 ?_
  refine lv_isub hx hb dX6_ring_81 ?_
  refine lv_i2l hx hb dX6_ring_82 rfl ?_
  refine lv_topl (fun y5 ey5 => ?_)
  refine lv_lstore (lv' := [(13, .long y5), (11, .long y4), (9, .long y3), (7, .long y2), (5, .long y1), (0, .ref (a 0)), (1, .int p1), (2, .int p2), (3, .int p3), (4, .int p4)]) hx hb dX6_ring_83 hl (by decide) rfl (fun ls hl => ?_)
  refine lv_aload_n hx hb dX6_ring_85 rfl (lv_at hl 5 rfl) ?_
  refine va_get (D := (dC, dI)) (ci := 10) (v := .ref (a 2)) (C := RX6) (T := TX6) (N := 14) hx hb hts (fun _ h => gI_wsX60 h) hown hK.1 hP 0 rfl rfl 3 (by decide) (hts _ mG_4_9) (fun _ h9 => h9) rfl dX6_ring_86 ?_
  refine lv_iload_n hx hb dX6_ring_89 rfl (lv_at hl 8 rfl) ?_
  refine va_iald hx hb hK.1 hP 2 0 rfl rfl (by first | with_reducible assumption | exact in0_24 | exact in0_60 | decide) dX6_ring_90 ?_
  refine lv_aload_n hx hb dX6_ring_91 rfl (lv_at hl 5 rfl) ?_
  refine va_get (D := (dC, dI)) (ci := 10) (v := .ref (a 2)) (C := RX6) (T := TX6) (N := 14) hx hb hts (fun _ h => gI_wsX60 h) hown hK.1 hP 0 rfl rfl 3 (by decide) (hts _ mG_4_9) (fun _ h9 => h9) rfl dX6_ring_92 ?_
  refine lv_iload hx hb dX6_ring_95 (lv_at hl 9 rfl) ?_
  refine va_iald hx hb hK.1 hP 2 0 rfl rfl (by first | with_reducible assumption | exact in0_24 | exact in0_60 | decide) dX6_ring_97 ?_
  refine lv_isub hx hb dX6_ring_98 ?_
  refine lv_i2l hx hb dX6_ring_99 rfl ?_
  refine lv_topl (fun y6 ey6 => ?_)
  refine lv_lstore (lv' := [(15, .long y6), (13, .long y5), (11, .long y4), (9, .long y3), (7, .long y2), (5, .long y1), (0, .ref (a 0)), (1, .int p1), (2, .int p2), (3, .int p3), (4, .int p4)]) hx hb dX6_ring_100 hl (by decide) rfl (fun ls hl => ?_)
  refine lv_lload hx hb dX6_ring_102 (lv_at hl 5 rfl) ?_
  refine lv_lload hx hb dX6_ring_104 (lv_at hl 5 rfl) ?_
  refine lv_lmul hx hb dX6_ring_106 ?_
  refine lv_lload hx hb dX6_ring_107 (lv_at hl 4 rfl) ?_
  refine lv_lload hx hb dX6_ring_109 (lv_at hl 4 rfl) ?_
  refine lv_lmul hx hb dX6_ring_111 ?_
  refine lv_ladd hx hb dX6_ring_112 ?_
  refine lv_topl (fun y7 ey7 => ?_)
  refine lv_lstore (lv' := [(17, .long y7), (15, .long y6), (13, .long y5), (11, .long y4), (9, .long y3), (7, .long y2), (5, .long y1), (0, .ref (a 0)), (1, .int p1), (2, .int p2), (3, .int p3), (4, .int p4)]) hx hb dX6_ring_113 hl (by decide) rfl (fun ls hl => ?_)
  refine lv_lload hx hb dX6_ring_115 (lv_at hl 4 rfl) ?_
  refine lv_lload hx hb dX6_ring_117 (lv_at hl 4 rfl) ?_
  refine lv_lmul hx hb dX6_ring_119 ?_
  refine lv_lload hx hb dX6_ring_120 (lv_at hl 3 rfl) ?_
  refine lv_lload hx hb dX6_ring_122 (lv_at hl 3 rfl) ?_
  refine lv_lmul hx hb dX6_ring_124 ?_
  refine lv_ladd hx hb dX6_ring_125 ?_
  refine lv_topl (fun y8 ey8 => ?_)
  refine lv_lstore (lv' := [(19, .long y8), (17, .long y7), (15, .long y6), (13, .long y5), (11, .long y4), (9, .long y3), (7, .long y2), (5, .long y1), (0, .ref (a 0)), (1, .int p1), (2, .int p2), (3, .int p3), (4, .int p4)]) hx hb dX6_ring_126 hl (by decide) rfl (fun ls hl => ?_)
  refine lv_lload hx hb dX6_ring_128 (lv_at hl 3 rfl) ?_
  refine lv_lload hx hb dX6_ring_130 (lv_at hl 3 rfl) ?_
  refine lv_lmul hx hb dX6_ring_132 ?_
  refine lv_lload hx hb dX6_ring_133 (lv_at hl 2 rfl) ?_
  refine lv_lload hx hb dX6_ring_135 (lv_at hl 2 rfl) ?_
  refine lv_lmul hx hb dX6_ring_137 ?_
  refine lv_ladd hx hb dX6_ring_138 ?_
  refine lv_topl (fun y9 ey9 => ?_)
  refine lv_lstore (lv' := [(21, .long y9), (19, .long y8), (17, .long y7), (15, .long y6), (13, .long y5), (11, .long y4), (9, .long y3), (7, .long y2), (5, .long y1), (0, .ref (a 0)), (1, .int p1), (2, .int p2), (3, .int p3), (4, .int p4)]) hx hb dX6_ring_139 hl (by decide) rfl (fun ls hl => ?_)
  refine lv_aload_n hx hb dX6_ring_141 rfl (lv_at hl 9 rfl) ?_
  refine lv_iload_n hx hb dX6_ring_142 rfl (lv_at hl 10 rfl) ?_
  refine lv_iload_n hx hb dX6_ring_143 rfl (lv_at hl 11 rfl) ?_
  refine lv_iload_n hx hb dX6_ring_144 rfl (lv_at hl 12 rfl) ?_
  refine cp_i (va_runV (As := [.int p1, .int p2, .int p3]) (rest := []) ⟨hx, hb, hml, hown, hts⟩ (c_X6_turn l dC dI a cI cJ xs ys pl lp lq lr v0 v1 v2 v3 v4 v5 v6 v7 p1 p2 p3 (by first | with_reducible assumption | exact in0_24 | exact in0_60 | decide) (by first | with_reducible assumption | exact in0_24 | exact in0_60 | decide) (by first | with_reducible assumption | exact in0_24 | exact in0_60 | decide)) (cwV 3 hts (gG_V mG_13_4 mG_13_5 mG_13_6 mG_1_5 (gG_c mG_13_7 gG_G)) rfl rfl rfl hd_X6_turn ⟨Nat.le_of_ble_eq_true rfl, Nat.le_of_ble_eq_true rfl⟩) (pPcV (ci := 10) (q0 := 0) hK hP rfl rfl) rfl rfl hl.1 rfl (lv_room (Nat.le_of_ble_eq_true rfl)) dX6_ring_145 ⟨Nat.le_of_ble_eq_true rfl, Nat.le_of_ble_eq_true rfl⟩) hP hS (fun H hP hS => ?_)
  refine lv_lload hx hb dX6_ring_148 (lv_at hl 2 rfl) ?_
  refine lv_lload hx hb dX6_ring_150 (lv_at hl 6 rfl) ?_
  refine lv_lload hx hb dX6_ring_152 (lv_at hl 3 rfl) ?_
  refine lv_lmul hx hb dX6_ring_154 ?_
  refine lv_lload hx hb dX6_ring_155 (lv_at hl 5 rfl) ?_
  refine lv_lload hx hb dX6_ring_157 (lv_at hl 4 rfl) ?_
  refine lv_lmul hx hb dX6_ring_159 ?_
  refine lv_lsub hx hb dX6_ring_160 ?_
  refine lv_lmul hx hb dX6_ring_161 ?_
  refine lv_lload hx hb dX6_ring_162 (lv_at hl 1 rfl) ?_
  refine lv_lload hx hb dX6_ring_164 (lv_at hl 4 rfl) ?_
  refine lv_lload hx hb dX6_ring_166 (lv_at hl 7 rfl) ?_
  refine lv_lmul hx hb dX6_ring_168 ?_
  refine lv_lload hx hb dX6_ring_169 (lv_at hl 3 rfl) ?_
  refine lv_lload hx hb dX6_ring_171 (lv_at hl 8 rfl) ?_
  refine lv_lmul hx hb dX6_ring_173 ?_
  refine lv_lsub hx hb dX6_ring_174 ?_
  refine lv_lmul hx hb dX6_ring_175 ?_
  refine lv_ladd hx hb dX6_ring_176 ?_
  refine lv_lload hx hb dX6_ring_177 (lv_at hl 0 rfl) ?_
  refine lv_lload hx hb dX6_ring_179 (lv_at hl 8 rfl) ?_
  refine lv_lload hx hb dX6_ring_181 (lv_at hl 5 rfl) ?_
  refine lv_lmul hx hb dX6_ring_183 ?_
  refine lv_lload hx hb dX6_ring_184 (lv_at hl 7 rfl) ?_
  refine lv_lload hx hb dX6_ring_186 (lv_at hl 6 rfl) ?_
  refine lv_lmul hx hb dX6_ring_188 ?_
  refine lv_lsub hx hb dX6_ring_189 ?_
  refine lv_lmul hx hb dX6_ring_190 ?_
  refine lv_ladd hx hb dX6_ring_191 ?_
  refine cp_i (va_runS (As := [.long (((y7 * ((y3 * y6) - (y4 * y5))) + (y8 * ((y5 * y2) - (y6 * y1)))) + (y9 * ((y1 * y4) - (y2 * y3))))]) (rest := [.int (f_X6_turn xs ys p1 p2 p3)]) ⟨hx, hb, hml, hown, hts⟩ (c_X6_signOf l (((y7 * ((y3 * y6) - (y4 * y5))) + (y8 * ((y5 * y2) - (y6 * y1)))) + (y9 * ((y1 * y4) - (y2 * y3)))) ) (va_cwS 1 hts (gG_S mG_13_8 mG_13_9 mG_1_5 (gG_c mG_13_10 gG_G)) rfl rfl rfl hs_X6_signOf ⟨Nat.le_of_ble_eq_true rfl, Nat.le_of_ble_eq_true rfl⟩) nPcS rfl rfl hl.1 rfl (lv_room (Nat.le_of_ble_eq_true rfl)) dX6_ring_192 ⟨Nat.le_of_ble_eq_true rfl, Nat.le_of_ble_eq_true rfl⟩) hP hS (fun H hP hS => ?_)
  refine lv_imul hx hb dX6_ring_195 ?_
  exact rp_i hQ hx hb hr hlk hS (Eq.symm (by subst ey1; subst ey2; subst ey3; subst ey4; subst ey5; subst ey6; subst ey7; subst ey8; subst ey9; simp only [f_X6_ring])) dX6_ring_196
/-! X6_isOn -/
theorem hs_X6_isOn : yX6_isOn.cls ≠ "java/lang/invoke/MethodHandle" ∧ yX6_isOn.cls ≠ "java/lang/invoke/VarHandle" ∧ (parseMethodDescriptor yX6_isOn.desc).map (fun d => d.parameters.length) = some 3 := by decide +kernel
theorem hd_X6_isOn : yX6_isOn.cls = RX6 ∧ yX6_isOn.cls ≠ "java/lang/invoke/MethodHandle" ∧ yX6_isOn.cls ≠ "java/lang/invoke/VarHandle" ∧ (parseMethodDescriptor yX6_isOn.desc).map (fun d => d.parameters.length) = some 3 := ⟨rfl, hs_X6_isOn⟩
def f_X6_isOn (xs : Nat → Int32) (ys : Nat → Int32) (p1 : Int32) (p2 : Int32) (p3 : Int32) : Int32 := (if (f_X6_turn xs ys p1 p2 p3) = 0 then (if (f_X6_areEqual xs ys p1 p2) = 0 then (if 0 < (lg_cmp (f_X6_along xs ys p3 p1 p2) (0 : Int64)) then (0 : Int32) else (1 : Int32)) else (if (f_X6_areEqual xs ys p1 p3) = 0 then (0 : Int32) else (1 : Int32))) else (0 : Int32))
abbrev rm_X6_isOn : Room := { frames := 2, cells := 0, slots := 0, locals := 44 }
set_option maxHeartbeats 8000000 in
set_option maxRecDepth 100000 in
theorem c_X6_isOn (l : Launch) (dC : Nat → ClassId) (dI : Nat → Nat → Nat) (a : Nat → Nat) (cI cJ : ClassId) (xs : Nat → Int32) (ys : Nat → Int32) (pl : Nat → Int32) (lp : Nat → Int64) (lq : Nat → Int64) (lr : Nat → Int64) (v0 : Int32) (v1 : Int32) (v2 : Int32) (v3 : Int32) (v4 : Int32) (v5 : Int32) (v6 : Int32) (v7 : Int32) (p1 : Int32) (p2 : Int32) (p3 : Int32) (hi1 : vp_in p1 60) (hi2 : vp_in p2 60) (hi3 : vp_in p3 60) : Met l yX6_isOn (Cond.code yX6_isOn cX6_isOn 4 (some .boolean) :: lw_G) rm_X6_isOn (pPc (dC, dI) (tIJ cI cJ) (wM a cI cJ xs ys pl lp lq lr v0 v1 v2 v3 v4 v5 v6 v7) [.ref (a 0), .int p1, .int p2, .int p3]) (pQi (f_X6_isOn xs ys p1 p2 p3)) 0 0 pNo := by
  refine pm_of (by decide) (Nat.le_of_ble_eq_true rfl) ?_
  intro p e s m args below meth c Q ls hQ hx hb hr hlk hml hown hts hP hK hS hl
  have hown : s.vm.findClass RX6 = some m.cls := hown
  have hl : lv_has ls 4 [(0, .ref (a 0)), (1, .int p1), (2, .int p2), (3, .int p3)] := hl
  refine lv_aload_n hx hb dX6_isOn_0 rfl (lv_at hl 0 rfl) ?_
  refine lv_iload_n hx hb dX6_isOn_1 rfl (lv_at hl 1 rfl) ?_
  refine lv_iload_n hx hb dX6_isOn_2 rfl (lv_at hl 2 rfl) ?_
  refine lv_iload_n hx hb dX6_isOn_3 rfl (lv_at hl 3 rfl) ?_
  refine cp_i (va_runV (As := [.int p1, .int p2, .int p3]) (rest := []) ⟨hx, hb, hml, hown, hts⟩ (c_X6_turn l dC dI a cI cJ xs ys pl lp lq lr v0 v1 v2 v3 v4 v5 v6 v7 p1 p2 p3 (by first | with_reducible assumption | exact in0_24 | exact in0_60 | decide) (by first | with_reducible assumption | exact in0_24 | exact in0_60 | decide) (by first | with_reducible assumption | exact in0_24 | exact in0_60 | decide)) (cwV 3 hts (gG_V mG_13_4 mG_13_5 mG_13_6 mG_1_5 (gG_c mG_13_7 gG_G)) rfl rfl rfl hd_X6_turn ⟨Nat.le_of_ble_eq_true rfl, Nat.le_of_ble_eq_true rfl⟩) (pPcV (ci := 10) (q0 := 0) hK hP rfl rfl) rfl rfl hl.1 rfl (lv_room (Nat.le_of_ble_eq_true rfl)) dX6_isOn_4 ⟨Nat.le_of_ble_eq_true rfl, Nat.le_of_ble_eq_true rfl⟩) hP hS (fun H hP hS => ?_)
  refine lv_if_ne (tgt := 47) hx hb dX6_isOn_7 (by decide) (fun c1 => ?_) (fun c1 => ?_)
  · skip
    refine lv_iconst (v := (0 : Int32)) hx hb dX6_isOn_47 (by decide) ?_
    exact rp_z hQ hx hb hr hlk hS (Eq.symm (by simp only [f_X6_isOn, if_neg c1])) (by decide) dX6_isOn_48
  · skip
    refine lv_aload_n hx hb dX6_isOn_10 rfl (lv_at hl 0 rfl) ?_
    refine lv_iload_n hx hb dX6_isOn_11 rfl (lv_at hl 1 rfl) ?_
    refine lv_iload_n hx hb dX6_isOn_12 rfl (lv_at hl 2 rfl) ?_
    refine cp_i (va_runV (As := [.int p1, .int p2]) (rest := []) ⟨hx, hb, hml, hown, hts⟩ (c_X6_areEqual l dC dI a cI cJ xs ys pl lp lq lr v0 v1 v2 v3 v4 v5 v6 v7 p1 p2 (by first | with_reducible assumption | exact in0_24 | exact in0_60 | decide) (by first | with_reducible assumption | exact in0_24 | exact in0_60 | decide)) (cwV 2 hts (gG_V mG_12_0 mG_12_1 mG_12_2 mG_1_5 (gG_c mG_12_3 gG_G)) rfl rfl rfl hd_X6_areEqual ⟨Nat.le_of_ble_eq_true rfl, Nat.le_of_ble_eq_true rfl⟩) (pPcV (ci := 10) (q0 := 0) hK hP rfl rfl) rfl rfl hl.1 rfl (lv_room (Nat.le_of_ble_eq_true rfl)) dX6_isOn_13 ⟨Nat.le_of_ble_eq_true rfl, Nat.le_of_ble_eq_true rfl⟩) hP hS (fun H hP hS => ?_)
    refine lv_if_eq (tgt := 31) hx hb dX6_isOn_16 (by decide) (fun c2 => ?_) (fun c2 => ?_)
    · skip
      refine lv_aload_n hx hb dX6_isOn_31 rfl (lv_at hl 0 rfl) ?_
      refine lv_iload_n hx hb dX6_isOn_32 rfl (lv_at hl 3 rfl) ?_
      refine lv_iload_n hx hb dX6_isOn_33 rfl (lv_at hl 1 rfl) ?_
      refine lv_iload_n hx hb dX6_isOn_34 rfl (lv_at hl 2 rfl) ?_
      refine cp_l (va_runV (As := [.int p3, .int p1, .int p2]) (rest := []) ⟨hx, hb, hml, hown, hts⟩ (c_X6_along l dC dI a cI cJ xs ys pl lp lq lr v0 v1 v2 v3 v4 v5 v6 v7 p3 p1 p2 (by first | with_reducible assumption | exact in0_24 | exact in0_60 | decide) (by first | with_reducible assumption | exact in0_24 | exact in0_60 | decide) (by first | with_reducible assumption | exact in0_24 | exact in0_60 | decide)) (cwV 3 hts (gG_V mG_17_0 mG_17_1 mG_17_2 mG_1_5 (gG_c mG_17_3 gG_G)) rfl rfl rfl hd_X6_along ⟨Nat.le_of_ble_eq_true rfl, Nat.le_of_ble_eq_true rfl⟩) (pPcV (ci := 10) (q0 := 0) hK hP rfl rfl) rfl rfl hl.1 rfl (lv_room (Nat.le_of_ble_eq_true rfl)) dX6_isOn_35 ⟨Nat.le_of_ble_eq_true rfl, Nat.le_of_ble_eq_true rfl⟩) hP hS (fun H hP hS => ?_)
      refine lv_lconst (v := (0 : Int64)) hx hb dX6_isOn_38 (by decide) ?_
      refine W.lcmp hx hb dX6_isOn_39 ?_
      refine lv_if_gt (tgt := 47) hx hb dX6_isOn_40 (by decide) (fun c3 => ?_) (fun c3 => ?_)
      · skip
        refine lv_iconst (v := (0 : Int32)) hx hb dX6_isOn_47 (by decide) ?_
        exact rp_z hQ hx hb hr hlk hS (Eq.symm (by simp only [f_X6_isOn, if_pos c1, if_pos c2, if_pos c3])) (by decide) dX6_isOn_48
      · skip
        refine lv_iconst (v := (1 : Int32)) hx hb dX6_isOn_43 (by decide) ?_
        refine lv_goto (tgt := 48) hx hb dX6_isOn_44 (by decide) ?_
        exact rp_z hQ hx hb hr hlk hS (Eq.symm (by simp only [f_X6_isOn, if_pos c1, if_pos c2, if_neg c3])) (by decide) dX6_isOn_48
    · skip
      refine lv_aload_n hx hb dX6_isOn_19 rfl (lv_at hl 0 rfl) ?_
      refine lv_iload_n hx hb dX6_isOn_20 rfl (lv_at hl 1 rfl) ?_
      refine lv_iload_n hx hb dX6_isOn_21 rfl (lv_at hl 3 rfl) ?_
      refine cp_i (va_runV (As := [.int p1, .int p3]) (rest := []) ⟨hx, hb, hml, hown, hts⟩ (c_X6_areEqual l dC dI a cI cJ xs ys pl lp lq lr v0 v1 v2 v3 v4 v5 v6 v7 p1 p3 (by first | with_reducible assumption | exact in0_24 | exact in0_60 | decide) (by first | with_reducible assumption | exact in0_24 | exact in0_60 | decide)) (cwV 2 hts (gG_V mG_12_0 mG_12_1 mG_12_2 mG_1_5 (gG_c mG_12_3 gG_G)) rfl rfl rfl hd_X6_areEqual ⟨Nat.le_of_ble_eq_true rfl, Nat.le_of_ble_eq_true rfl⟩) (pPcV (ci := 10) (q0 := 0) hK hP rfl rfl) rfl rfl hl.1 rfl (lv_room (Nat.le_of_ble_eq_true rfl)) dX6_isOn_22 ⟨Nat.le_of_ble_eq_true rfl, Nat.le_of_ble_eq_true rfl⟩) hP hS (fun H hP hS => ?_)
      refine lv_if_eq (tgt := 47) hx hb dX6_isOn_25 (by decide) (fun c4 => ?_) (fun c4 => ?_)
      · skip
        refine lv_iconst (v := (0 : Int32)) hx hb dX6_isOn_47 (by decide) ?_
        exact rp_z hQ hx hb hr hlk hS (Eq.symm (by simp only [f_X6_isOn, if_pos c1, if_neg c2, if_pos c4])) (by decide) dX6_isOn_48
      · skip
        refine lv_goto (tgt := 43) hx hb dX6_isOn_28 (by decide) ?_
        refine lv_iconst (v := (1 : Int32)) hx hb dX6_isOn_43 (by decide) ?_
        refine lv_goto (tgt := 48) hx hb dX6_isOn_44 (by decide) ?_
        exact rp_z hQ hx hb hr hlk hS (Eq.symm (by simp only [f_X6_isOn, if_pos c1, if_neg c2, if_neg c4])) (by decide) dX6_isOn_48
/-! X6_isOneWay -/
theorem hs_X6_isOneWay : yX6_isOneWay.cls ≠ "java/lang/invoke/MethodHandle" ∧ yX6_isOneWay.cls ≠ "java/lang/invoke/VarHandle" ∧ (parseMethodDescriptor yX6_isOneWay.desc).map (fun d => d.parameters.length) = some 3 := by decide +kernel
theorem hd_X6_isOneWay : yX6_isOneWay.cls = RX6 ∧ yX6_isOneWay.cls ≠ "java/lang/invoke/MethodHandle" ∧ yX6_isOneWay.cls ≠ "java/lang/invoke/VarHandle" ∧ (parseMethodDescriptor yX6_isOneWay.desc).map (fun d => d.parameters.length) = some 3 := ⟨rfl, hs_X6_isOneWay⟩
def f_X6_isOneWay (xs : Nat → Int32) (ys : Nat → Int32) (p1 : Int32) (p2 : Int32) (p3 : Int32) : Int32 := (if (f_X6_turn xs ys p1 p2 p3) = 0 then (if (lg_cmp (f_X6_along xs ys p1 p2 p3) (0 : Int64)) ≤ 0 then (0 : Int32) else (1 : Int32)) else (0 : Int32))
abbrev rm_X6_isOneWay : Room := { frames := 2, cells := 0, slots := 0, locals := 44 }
set_option maxHeartbeats 8000000 in
set_option maxRecDepth 100000 in
theorem c_X6_isOneWay (l : Launch) (dC : Nat → ClassId) (dI : Nat → Nat → Nat) (a : Nat → Nat) (cI cJ : ClassId) (xs : Nat → Int32) (ys : Nat → Int32) (pl : Nat → Int32) (lp : Nat → Int64) (lq : Nat → Int64) (lr : Nat → Int64) (v0 : Int32) (v1 : Int32) (v2 : Int32) (v3 : Int32) (v4 : Int32) (v5 : Int32) (v6 : Int32) (v7 : Int32) (p1 : Int32) (p2 : Int32) (p3 : Int32) (hi1 : vp_in p1 60) (hi2 : vp_in p2 60) (hi3 : vp_in p3 60) : Met l yX6_isOneWay (Cond.code yX6_isOneWay cX6_isOneWay 4 (some .boolean) :: lw_G) rm_X6_isOneWay (pPc (dC, dI) (tIJ cI cJ) (wM a cI cJ xs ys pl lp lq lr v0 v1 v2 v3 v4 v5 v6 v7) [.ref (a 0), .int p1, .int p2, .int p3]) (pQi (f_X6_isOneWay xs ys p1 p2 p3)) 0 0 pNo := by
  refine pm_of (by decide) (Nat.le_of_ble_eq_true rfl) ?_
  intro p e s m args below meth c Q ls hQ hx hb hr hlk hml hown hts hP hK hS hl
  have hown : s.vm.findClass RX6 = some m.cls := hown
  have hl : lv_has ls 4 [(0, .ref (a 0)), (1, .int p1), (2, .int p2), (3, .int p3)] := hl
  refine lv_aload_n hx hb dX6_isOneWay_0 rfl (lv_at hl 0 rfl) ?_
  refine lv_iload_n hx hb dX6_isOneWay_1 rfl (lv_at hl 1 rfl) ?_
  refine lv_iload_n hx hb dX6_isOneWay_2 rfl (lv_at hl 2 rfl) ?_
  refine lv_iload_n hx hb dX6_isOneWay_3 rfl (lv_at hl 3 rfl) ?_
  refine cp_i (va_runV (As := [.int p1, .int p2, .int p3]) (rest := []) ⟨hx, hb, hml, hown, hts⟩ (c_X6_turn l dC dI a cI cJ xs ys pl lp lq lr v0 v1 v2 v3 v4 v5 v6 v7 p1 p2 p3 (by first | with_reducible assumption | exact in0_24 | exact in0_60 | decide) (by first | with_reducible assumption | exact in0_24 | exact in0_60 | decide) (by first | with_reducible assumption | exact in0_24 | exact in0_60 | decide)) (cwV 3 hts (gG_V mG_13_4 mG_13_5 mG_13_6 mG_1_5 (gG_c mG_13_7 gG_G)) rfl rfl rfl hd_X6_turn ⟨Nat.le_of_ble_eq_true rfl, Nat.le_of_ble_eq_true rfl⟩) (pPcV (ci := 10) (q0 := 0) hK hP rfl rfl) rfl rfl hl.1 rfl (lv_room (Nat.le_of_ble_eq_true rfl)) dX6_isOneWay_4 ⟨Nat.le_of_ble_eq_true rfl, Nat.le_of_ble_eq_true rfl⟩) hP hS (fun H hP hS => ?_)
  refine lv_if_ne (tgt := 26) hx hb dX6_isOneWay_7 (by decide) (fun c1 => ?_) (fun c1 => ?_)
  · skip
    refine lv_iconst (v := (0 : Int32)) hx hb dX6_isOneWay_26 (by decide) ?_
    exact rp_z hQ hx hb hr hlk hS (Eq.symm (by simp only [f_X6_isOneWay, if_neg c1])) (by decide) dX6_isOneWay_27
  · skip
    refine lv_aload_n hx hb dX6_isOneWay_10 rfl (lv_at hl 0 rfl) ?_
    refine lv_iload_n hx hb dX6_isOneWay_11 rfl (lv_at hl 1 rfl) ?_
    refine lv_iload_n hx hb dX6_isOneWay_12 rfl (lv_at hl 2 rfl) ?_
    refine lv_iload_n hx hb dX6_isOneWay_13 rfl (lv_at hl 3 rfl) ?_
    refine cp_l (va_runV (As := [.int p1, .int p2, .int p3]) (rest := []) ⟨hx, hb, hml, hown, hts⟩ (c_X6_along l dC dI a cI cJ xs ys pl lp lq lr v0 v1 v2 v3 v4 v5 v6 v7 p1 p2 p3 (by first | with_reducible assumption | exact in0_24 | exact in0_60 | decide) (by first | with_reducible assumption | exact in0_24 | exact in0_60 | decide) (by first | with_reducible assumption | exact in0_24 | exact in0_60 | decide)) (cwV 3 hts (gG_V mG_17_0 mG_17_1 mG_17_2 mG_1_5 (gG_c mG_17_3 gG_G)) rfl rfl rfl hd_X6_along ⟨Nat.le_of_ble_eq_true rfl, Nat.le_of_ble_eq_true rfl⟩) (pPcV (ci := 10) (q0 := 0) hK hP rfl rfl) rfl rfl hl.1 rfl (lv_room (Nat.le_of_ble_eq_true rfl)) dX6_isOneWay_14 ⟨Nat.le_of_ble_eq_true rfl, Nat.le_of_ble_eq_true rfl⟩) hP hS (fun H hP hS => ?_)
    refine lv_lconst (v := (0 : Int64)) hx hb dX6_isOneWay_17 (by decide) ?_
    refine W.lcmp hx hb dX6_isOneWay_18 ?_
    refine lv_if_le (tgt := 26) hx hb dX6_isOneWay_19 (by decide) (fun c2 => ?_) (fun c2 => ?_)
    · skip
      refine lv_iconst (v := (0 : Int32)) hx hb dX6_isOneWay_26 (by decide) ?_
      exact rp_z hQ hx hb hr hlk hS (Eq.symm (by simp only [f_X6_isOneWay, if_pos c1, if_pos c2])) (by decide) dX6_isOneWay_27
    · skip
      refine lv_iconst (v := (1 : Int32)) hx hb dX6_isOneWay_22 (by decide) ?_
      refine lv_goto (tgt := 27) hx hb dX6_isOneWay_23 (by decide) ?_
      exact rp_z hQ hx hb hr hlk hS (Eq.symm (by simp only [f_X6_isOneWay, if_pos c1, if_neg c2])) (by decide) dX6_isOneWay_27
/-! X6_far -/
theorem hs_X6_far : yX6_far.cls ≠ "java/lang/invoke/MethodHandle" ∧ yX6_far.cls ≠ "java/lang/invoke/VarHandle" ∧ (parseMethodDescriptor yX6_far.desc).map (fun d => d.parameters.length) = some 2 := by decide +kernel
theorem hd_X6_far : yX6_far.cls = RX6 ∧ yX6_far.cls ≠ "java/lang/invoke/MethodHandle" ∧ yX6_far.cls ≠ "java/lang/invoke/VarHandle" ∧ (parseMethodDescriptor yX6_far.desc).map (fun d => d.parameters.length) = some 2 := ⟨rfl, hs_X6_far⟩
def f_X6_far (xs : Nat → Int32) (ys : Nat → Int32) (p1 : Int32) (p2 : Int32) : Int64 := (f_X6_along xs ys p1 p2 p2)
abbrev rm_X6_far : Room := { frames := 1, cells := 0, slots := 0, locals := 23 }
set_option maxHeartbeats 8000000 in
set_option maxRecDepth 100000 in
theorem c_X6_far (l : Launch) (dC : Nat → ClassId) (dI : Nat → Nat → Nat) (a : Nat → Nat) (cI cJ : ClassId) (xs : Nat → Int32) (ys : Nat → Int32) (pl : Nat → Int32) (lp : Nat → Int64) (lq : Nat → Int64) (lr : Nat → Int64) (v0 : Int32) (v1 : Int32) (v2 : Int32) (v3 : Int32) (v4 : Int32) (v5 : Int32) (v6 : Int32) (v7 : Int32) (p1 : Int32) (p2 : Int32) (hi1 : vp_in p1 60) (hi2 : vp_in p2 60) : Met l yX6_far (Cond.code yX6_far cX6_far 3 (some .long) :: lw_G) rm_X6_far (pPc (dC, dI) (tIJ cI cJ) (wM a cI cJ xs ys pl lp lq lr v0 v1 v2 v3 v4 v5 v6 v7) [.ref (a 0), .int p1, .int p2]) (pQl (f_X6_far xs ys p1 p2)) 0 0 pNo := by
  refine pm_of (by decide) (Nat.le_of_ble_eq_true rfl) ?_
  intro p e s m args below meth c Q ls hQ hx hb hr hlk hml hown hts hP hK hS hl
  have hown : s.vm.findClass RX6 = some m.cls := hown
  have hl : lv_has ls 3 [(0, .ref (a 0)), (1, .int p1), (2, .int p2)] := hl
  refine lv_aload_n hx hb dX6_far_0 rfl (lv_at hl 0 rfl) ?_
  refine lv_iload_n hx hb dX6_far_1 rfl (lv_at hl 1 rfl) ?_
  refine lv_iload_n hx hb dX6_far_2 rfl (lv_at hl 2 rfl) ?_
  refine lv_iload_n hx hb dX6_far_3 rfl (lv_at hl 2 rfl) ?_
  refine cp_l (va_runV (As := [.int p1, .int p2, .int p2]) (rest := []) ⟨hx, hb, hml, hown, hts⟩ (c_X6_along l dC dI a cI cJ xs ys pl lp lq lr v0 v1 v2 v3 v4 v5 v6 v7 p1 p2 p2 (by first | with_reducible assumption | exact in0_24 | exact in0_60 | decide) (by first | with_reducible assumption | exact in0_24 | exact in0_60 | decide) (by first | with_reducible assumption | exact in0_24 | exact in0_60 | decide)) (cwV 3 hts (gG_V mG_17_0 mG_17_1 mG_17_2 mG_1_5 (gG_c mG_17_3 gG_G)) rfl rfl rfl hd_X6_along ⟨Nat.le_of_ble_eq_true rfl, Nat.le_of_ble_eq_true rfl⟩) (pPcV (ci := 10) (q0 := 0) hK hP rfl rfl) rfl rfl hl.1 rfl (lv_room (Nat.le_of_ble_eq_true rfl)) dX6_far_4 ⟨Nat.le_of_ble_eq_true rfl, Nat.le_of_ble_eq_true rfl⟩) hP hS (fun H hP hS => ?_)
  exact rp_l hQ hx hb hr hlk hS (Eq.symm (by simp only [f_X6_far])) dX6_far_7
/-! X6_half -/
theorem hs_X6_half : yX6_half.cls ≠ "java/lang/invoke/MethodHandle" ∧ yX6_half.cls ≠ "java/lang/invoke/VarHandle" ∧ (parseMethodDescriptor yX6_half.desc).map (fun d => d.parameters.length) = some 2 := by decide +kernel
theorem hd_X6_half : yX6_half.cls = RX6 ∧ yX6_half.cls ≠ "java/lang/invoke/MethodHandle" ∧ yX6_half.cls ≠ "java/lang/invoke/VarHandle" ∧ (parseMethodDescriptor yX6_half.desc).map (fun d => d.parameters.length) = some 2 := ⟨rfl, hs_X6_half⟩
def f_X6_half (xs : Nat → Int32) (ys : Nat → Int32) (p1 : Int32) (p2 : Int32) : Int32 := (if (ys (Int32.toNatClampNeg p1)) < (ys (Int32.toNatClampNeg p2)) then (0 : Int32) else (if (ys (Int32.toNatClampNeg p2)) = (ys (Int32.toNatClampNeg p1)) then (if (xs (Int32.toNatClampNeg p2)) ≤ (xs (Int32.toNatClampNeg p1)) then (1 : Int32) else (0 : Int32)) else (1 : Int32)))
abbrev rm_X6_half : Room := { frames := 0, cells := 0, slots := 0, locals := 0 }
set_option maxHeartbeats 8000000 in
set_option maxRecDepth 100000 in
theorem c_X6_half (l : Launch) (dC : Nat → ClassId) (dI : Nat → Nat → Nat) (a : Nat → Nat) (cI cJ : ClassId) (xs : Nat → Int32) (ys : Nat → Int32) (pl : Nat → Int32) (lp : Nat → Int64) (lq : Nat → Int64) (lr : Nat → Int64) (v0 : Int32) (v1 : Int32) (v2 : Int32) (v3 : Int32) (v4 : Int32) (v5 : Int32) (v6 : Int32) (v7 : Int32) (p1 : Int32) (p2 : Int32) (hi1 : vp_in p1 60) (hi2 : vp_in p2 60) : Met l yX6_half (Cond.code yX6_half cX6_half 3 (some .int) :: lw_G) rm_X6_half (pPc (dC, dI) (tIJ cI cJ) (wM a cI cJ xs ys pl lp lq lr v0 v1 v2 v3 v4 v5 v6 v7) [.ref (a 0), .int p1, .int p2]) (pQi (f_X6_half xs ys p1 p2)) 0 0 pNo := by
  refine pm_of (by decide) (Nat.le_of_ble_eq_true rfl) ?_
  intro p e s m args below meth c Q ls hQ hx hb hr hlk hml hown hts hP hK hS hl
  have hown : s.vm.findClass RX6 = some m.cls := hown
  have hl : lv_has ls 3 [(0, .ref (a 0)), (1, .int p1), (2, .int p2)] := hl
  refine lv_aload_n hx hb dX6_half_0 rfl (lv_at hl 0 rfl) ?_
  refine va_get (D := (dC, dI)) (ci := 10) (v := .ref (a 2)) (C := RX6) (T := TX6) (N := 14) hx hb hts (fun _ h => gI_wsX60 h) hown hK.1 hP 0 rfl rfl 3 (by decide) (hts _ mG_4_9) (fun _ h9 => h9) rfl dX6_half_1 ?_
  refine lv_iload_n hx hb dX6_half_4 rfl (lv_at hl 2 rfl) ?_
  refine va_iald hx hb hK.1 hP 2 0 rfl rfl (by first | with_reducible assumption | exact in0_24 | exact in0_60 | decide) dX6_half_5 ?_
  refine lv_aload_n hx hb dX6_half_6 rfl (lv_at hl 0 rfl) ?_
  refine va_get (D := (dC, dI)) (ci := 10) (v := .ref (a 2)) (C := RX6) (T := TX6) (N := 14) hx hb hts (fun _ h => gI_wsX60 h) hown hK.1 hP 0 rfl rfl 3 (by decide) (hts _ mG_4_9) (fun _ h9 => h9) rfl dX6_half_7 ?_
  refine lv_iload_n hx hb dX6_half_10 rfl (lv_at hl 1 rfl) ?_
  refine va_iald hx hb hK.1 hP 2 0 rfl rfl (by first | with_reducible assumption | exact in0_24 | exact in0_60 | decide) dX6_half_11 ?_
  refine lv_icmp_gt (tgt := 45) hx hb dX6_half_12 (by decide) (fun c1 => ?_) (fun c1 => ?_)
  · skip
    refine lv_iconst (v := (0 : Int32)) hx hb dX6_half_45 (by decide) ?_
    refine lv_goto (tgt := 50) hx hb dX6_half_46 (by decide) ?_
    exact rp_i hQ hx hb hr hlk hS (Eq.symm (by simp only [f_X6_half, if_pos c1])) dX6_half_50
  · skip
    refine lv_aload_n hx hb dX6_half_15 rfl (lv_at hl 0 rfl) ?_
    refine va_get (D := (dC, dI)) (ci := 10) (v := .ref (a 2)) (C := RX6) (T := TX6) (N := 14) hx hb hts (fun _ h => gI_wsX60 h) hown hK.1 hP 0 rfl rfl 3 (by decide) (hts _ mG_4_9) (fun _ h9 => h9) rfl dX6_half_16 ?_
    refine lv_iload_n hx hb dX6_half_19 rfl (lv_at hl 2 rfl) ?_
    refine va_iald hx hb hK.1 hP 2 0 rfl rfl (by first | with_reducible assumption | exact in0_24 | exact in0_60 | decide) dX6_half_20 ?_
    refine lv_aload_n hx hb dX6_half_21 rfl (lv_at hl 0 rfl) ?_
    refine va_get (D := (dC, dI)) (ci := 10) (v := .ref (a 2)) (C := RX6) (T := TX6) (N := 14) hx hb hts (fun _ h => gI_wsX60 h) hown hK.1 hP 0 rfl rfl 3 (by decide) (hts _ mG_4_9) (fun _ h9 => h9) rfl dX6_half_22 ?_
    refine lv_iload_n hx hb dX6_half_25 rfl (lv_at hl 1 rfl) ?_
    refine va_iald hx hb hK.1 hP 2 0 rfl rfl (by first | with_reducible assumption | exact in0_24 | exact in0_60 | decide) dX6_half_26 ?_
    refine lv_icmp_ne (tgt := 49) hx hb dX6_half_27 (by decide) (fun c2 => ?_) (fun c2 => ?_)
    · skip
      refine lv_iconst (v := (1 : Int32)) hx hb dX6_half_49 (by decide) ?_
      exact rp_i hQ hx hb hr hlk hS (Eq.symm (by simp only [f_X6_half, if_neg c1, if_neg c2])) dX6_half_50
    · skip
      refine lv_aload_n hx hb dX6_half_30 rfl (lv_at hl 0 rfl) ?_
      refine va_get (D := (dC, dI)) (ci := 10) (v := .ref (a 1)) (C := RX6) (T := TX6) (N := 14) hx hb hts (fun _ h => gI_wsX60 h) hown hK.1 hP 0 rfl rfl 2 (by decide) (hts _ mG_4_8) (fun _ h9 => h9) rfl dX6_half_31 ?_
      refine lv_iload_n hx hb dX6_half_34 rfl (lv_at hl 2 rfl) ?_
      refine va_iald hx hb hK.1 hP 1 0 rfl rfl (by first | with_reducible assumption | exact in0_24 | exact in0_60 | decide) dX6_half_35 ?_
      refine lv_aload_n hx hb dX6_half_36 rfl (lv_at hl 0 rfl) ?_
      refine va_get (D := (dC, dI)) (ci := 10) (v := .ref (a 1)) (C := RX6) (T := TX6) (N := 14) hx hb hts (fun _ h => gI_wsX60 h) hown hK.1 hP 0 rfl rfl 2 (by decide) (hts _ mG_4_8) (fun _ h9 => h9) rfl dX6_half_37 ?_
      refine lv_iload_n hx hb dX6_half_40 rfl (lv_at hl 1 rfl) ?_
      refine va_iald hx hb hK.1 hP 1 0 rfl rfl (by first | with_reducible assumption | exact in0_24 | exact in0_60 | decide) dX6_half_41 ?_
      refine lv_icmp_le (tgt := 49) hx hb dX6_half_42 (by decide) (fun c3 => ?_) (fun c3 => ?_)
      · skip
        refine lv_iconst (v := (1 : Int32)) hx hb dX6_half_49 (by decide) ?_
        exact rp_i hQ hx hb hr hlk hS (Eq.symm (by simp only [f_X6_half, if_neg c1, if_pos c2, if_pos c3])) dX6_half_50
      · skip
        refine lv_iconst (v := (0 : Int32)) hx hb dX6_half_45 (by decide) ?_
        refine lv_goto (tgt := 50) hx hb dX6_half_46 (by decide) ?_
        exact rp_i hQ hx hb hr hlk hS (Eq.symm (by simp only [f_X6_half, if_neg c1, if_pos c2, if_neg c3])) dX6_half_50
/-! X6_common -/
theorem hs_X6_common : yX6_common.cls ≠ "java/lang/invoke/MethodHandle" ∧ yX6_common.cls ≠ "java/lang/invoke/VarHandle" ∧ (parseMethodDescriptor yX6_common.desc).map (fun d => d.parameters.length) = some 4 := by decide +kernel
theorem hd_X6_common : yX6_common.cls = RX6 ∧ yX6_common.cls ≠ "java/lang/invoke/MethodHandle" ∧ yX6_common.cls ≠ "java/lang/invoke/VarHandle" ∧ (parseMethodDescriptor yX6_common.desc).map (fun d => d.parameters.length) = some 4 := ⟨rfl, hs_X6_common⟩
def f_X6_common_J116 (xs : Nat → Int32) (ys : Nat → Int32) (p1 : Int32) (p2 : Int32) (p3 : Int32) (p4 : Int32) (y4 : Int32) (x5_116 : Int32) : Int32 := (if y4 = 0 then (if (x5_116 + (0 : Int32)) ≤ (1 : Int32) then (x5_116 + (0 : Int32)) else (2 : Int32)) else (if (f_X6_areEqual xs ys p2 p3) = 0 then (if (f_X6_areEqual xs ys p2 p4) = 0 then (if (f_X6_areEqual xs ys p1 p2) = 0 then (if (x5_116 + (1 : Int32)) ≤ (1 : Int32) then (x5_116 + (1 : Int32)) else (2 : Int32)) else (if (x5_116 + (0 : Int32)) ≤ (1 : Int32) then (x5_116 + (0 : Int32)) else (2 : Int32))) else (if (x5_116 + (0 : Int32)) ≤ (1 : Int32) then (x5_116 + (0 : Int32)) else (2 : Int32))) else (if (x5_116 + (0 : Int32)) ≤ (1 : Int32) then (x5_116 + (0 : Int32)) else (2 : Int32))))
def f_X6_common_J82 (xs : Nat → Int32) (ys : Nat → Int32) (p1 : Int32) (p2 : Int32) (p3 : Int32) (p4 : Int32) (y3 : Int32) (y4 : Int32) (x5_82 : Int32) : Int32 := (if y3 = 0 then (f_X6_common_J116 xs ys p1 p2 p3 p4 y4 (x5_82 + (0 : Int32))) else (if (f_X6_areEqual xs ys p1 p3) = 0 then (if (f_X6_areEqual xs ys p1 p4) = 0 then (f_X6_common_J116 xs ys p1 p2 p3 p4 y4 (x5_82 + (1 : Int32))) else (f_X6_common_J116 xs ys p1 p2 p3 p4 y4 (x5_82 + (0 : Int32)))) else (f_X6_common_J116 xs ys p1 p2 p3 p4 y4 (x5_82 + (0 : Int32)))))
def f_X6_common_J57 (xs : Nat → Int32) (ys : Nat → Int32) (p1 : Int32) (p2 : Int32) (p3 : Int32) (p4 : Int32) (y2 : Int32) (y3 : Int32) (y4 : Int32) (x5_57 : Int32) : Int32 := (if y2 = 0 then (f_X6_common_J82 xs ys p1 p2 p3 p4 y3 y4 (x5_57 + (0 : Int32))) else (if (f_X6_areEqual xs ys p3 p4) = 0 then (f_X6_common_J82 xs ys p1 p2 p3 p4 y3 y4 (x5_57 + (1 : Int32))) else (f_X6_common_J82 xs ys p1 p2 p3 p4 y3 y4 (x5_57 + (0 : Int32)))))
def f_X6_common (xs : Nat → Int32) (ys : Nat → Int32) (p1 : Int32) (p2 : Int32) (p3 : Int32) (p4 : Int32) : Int32 := (if (f_X6_isOn xs ys p1 p2 p3) = 0 then (f_X6_common_J57 xs ys p1 p2 p3 p4 (f_X6_isOn xs ys p1 p2 p4) (f_X6_isOn xs ys p3 p4 p1) (f_X6_isOn xs ys p3 p4 p2) ((0 : Int32) + (0 : Int32))) else (f_X6_common_J57 xs ys p1 p2 p3 p4 (f_X6_isOn xs ys p1 p2 p4) (f_X6_isOn xs ys p3 p4 p1) (f_X6_isOn xs ys p3 p4 p2) ((0 : Int32) + (1 : Int32))))
abbrev rm_X6_common : Room := { frames := 3, cells := 0, slots := 0, locals := 67 }
set_option maxHeartbeats 8000000 in
set_option maxRecDepth 100000 in
theorem c_X6_common (l : Launch) (dC : Nat → ClassId) (dI : Nat → Nat → Nat) (a : Nat → Nat) (cI cJ : ClassId) (xs : Nat → Int32) (ys : Nat → Int32) (pl : Nat → Int32) (lp : Nat → Int64) (lq : Nat → Int64) (lr : Nat → Int64) (v0 : Int32) (v1 : Int32) (v2 : Int32) (v3 : Int32) (v4 : Int32) (v5 : Int32) (v6 : Int32) (v7 : Int32) (p1 : Int32) (p2 : Int32) (p3 : Int32) (p4 : Int32) (hi1 : vp_in p1 60) (hi2 : vp_in p2 60) (hi3 : vp_in p3 60) (hi4 : vp_in p4 60) : Met l yX6_common (Cond.code yX6_common cX6_common 10 (some .int) :: lw_G) rm_X6_common (pPc (dC, dI) (tIJ cI cJ) (wM a cI cJ xs ys pl lp lq lr v0 v1 v2 v3 v4 v5 v6 v7) [.ref (a 0), .int p1, .int p2, .int p3, .int p4]) (pQi (f_X6_common xs ys p1 p2 p3 p4)) 0 0 pNo := by
  refine pm_of (by decide) (Nat.le_of_ble_eq_true rfl) ?_
  intro p e s m args below meth c Q ls hQ hx hb hr hlk hml hown hts hP hK hS hl
  have hown : s.vm.findClass RX6 = some m.cls := hown
  have hl : lv_has ls 10 [(0, .ref (a 0)), (1, .int p1), (2, .int p2), (3, .int p3), (4, .int p4)] := hl
  obtain ⟨F, eF⟩ : ∃ F, F = (f_X6_common xs ys p1 p2 p3 p4) := ⟨_, rfl⟩
  refine lv_iconst (v := (0 : Int32)) hx hb dX6_common_0 (by decide) ?_
  refine lv_istore (lv' := [(5, .int (0 : Int32)), (0, .ref (a 0)), (1, .int p1), (2, .int p2), (3, .int p3), (4, .int p4)]) hx hb dX6_common_1 hl (by decide) rfl (fun ls hl => ?_)
  refine lv_aload_n hx hb dX6_common_3 rfl (lv_at hl 1 rfl) ?_
  refine lv_iload_n hx hb dX6_common_4 rfl (lv_at hl 2 rfl) ?_
  refine lv_iload_n hx hb dX6_common_5 rfl (lv_at hl 3 rfl) ?_
  refine lv_iload_n hx hb dX6_common_6 rfl (lv_at hl 4 rfl) ?_
  refine cp_i (va_runV (As := [.int p1, .int p2, .int p3]) (rest := []) ⟨hx, hb, hml, hown, hts⟩ (c_X6_isOn l dC dI a cI cJ xs ys pl lp lq lr v0 v1 v2 v3 v4 v5 v6 v7 p1 p2 p3 (by first | with_reducible assumption | exact in0_24 | exact in0_60 | decide) (by first | with_reducible assumption | exact in0_24 | exact in0_60 | decide) (by first | with_reducible assumption | exact in0_24 | exact in0_60 | decide)) (cwV 3 hts (gG_V mG_16_20 mG_16_21 mG_16_22 mG_1_5 (gG_c mG_16_23 gG_G)) rfl rfl rfl hd_X6_isOn ⟨Nat.le_of_ble_eq_true rfl, Nat.le_of_ble_eq_true rfl⟩) (pPcV (ci := 10) (q0 := 0) hK hP rfl rfl) rfl rfl hl.1 rfl (lv_room (Nat.le_of_ble_eq_true rfl)) dX6_common_7 ⟨Nat.le_of_ble_eq_true rfl, Nat.le_of_ble_eq_true rfl⟩) hP hS (fun H hP hS => ?_)
  refine lv_topi (fun y1 ey1 => ?_)
  refine lv_istore (lv' := [(6, .int y1), (5, .int (0 : Int32)), (0, .ref (a 0)), (1, .int p1), (2, .int p2), (3, .int p3), (4, .int p4)]) hx hb dX6_common_10 hl (by decide) rfl (fun ls hl => ?_)
  refine lv_aload_n hx hb dX6_common_12 rfl (lv_at hl 2 rfl) ?_
  refine lv_iload_n hx hb dX6_common_13 rfl (lv_at hl 3 rfl) ?_
  refine lv_iload_n hx hb dX6_common_14 rfl (lv_at hl 4 rfl) ?_
  refine lv_iload hx hb dX6_common_15 (lv_at hl 6 rfl) ?_
  refine cp_i (va_runV (As := [.int p1, .int p2, .int p4]) (rest := []) ⟨hx, hb, hml, hown, hts⟩ (c_X6_isOn l dC dI a cI cJ xs ys pl lp lq lr v0 v1 v2 v3 v4 v5 v6 v7 p1 p2 p4 (by first | with_reducible assumption | exact in0_24 | exact in0_60 | decide) (by first | with_reducible assumption | exact in0_24 | exact in0_60 | decide) (by first | with_reducible assumption | exact in0_24 | exact in0_60 | decide)) (cwV 3 hts (gG_V mG_16_20 mG_16_21 mG_16_22 mG_1_5 (gG_c mG_16_23 gG_G)) rfl rfl rfl hd_X6_isOn ⟨Nat.le_of_ble_eq_true rfl, Nat.le_of_ble_eq_true rfl⟩) (pPcV (ci := 10) (q0 := 0) hK hP rfl rfl) rfl rfl hl.1 rfl (lv_room (Nat.le_of_ble_eq_true rfl)) dX6_common_17 ⟨Nat.le_of_ble_eq_true rfl, Nat.le_of_ble_eq_true rfl⟩) hP hS (fun H hP hS => ?_)
  refine lv_topi (fun y2 ey2 => ?_)
  refine lv_istore (lv' := [(7, .int y2), (6, .int y1), (5, .int (0 : Int32)), (0, .ref (a 0)), (1, .int p1), (2, .int p2), (3, .int p3), (4, .int p4)]) hx hb dX6_common_20 hl (by decide) rfl (fun ls hl => ?_)
  refine lv_aload_n hx hb dX6_common_22 rfl (lv_at hl 3 rfl) ?_
  refine lv_iload_n hx hb dX6_common_23 rfl (lv_at hl 6 rfl) ?_
  refine lv_iload hx hb dX6_common_24 (lv_at hl 7 rfl) ?_
  refine lv_iload_n hx hb dX6_common_26 rfl (lv_at hl 4 rfl) ?_
  refine cp_i (va_runV (As := [.int p3, .int p4, .int p1]) (rest := []) ⟨hx, hb, hml, hown, hts⟩ (c_X6_isOn l dC dI a cI cJ xs ys pl lp lq lr v0 v1 v2 v3 v4 v5 v6 v7 p3 p4 p1 (by first | with_reducible assumption | exact in0_24 | exact in0_60 | decide) (by first | with_reducible assumption | exact in0_24 | exact in0_60 | decide) (by first | with_reducible assumption | exact in0_24 | exact in0_60 | decide)) (cwV 3 hts (gG_V mG_16_20 mG_16_21 mG_16_22 mG_1_5 (gG_c mG_16_23 gG_G)) rfl rfl rfl hd_X6_isOn ⟨Nat.le_of_ble_eq_true rfl, Nat.le_of_ble_eq_true rfl⟩) (pPcV (ci := 10) (q0 := 0) hK hP rfl rfl) rfl rfl hl.1 rfl (lv_room (Nat.le_of_ble_eq_true rfl)) dX6_common_27 ⟨Nat.le_of_ble_eq_true rfl, Nat.le_of_ble_eq_true rfl⟩) hP hS (fun H hP hS => ?_)
  refine lv_topi (fun y3 ey3 => ?_)
  refine lv_istore (lv' := [(8, .int y3), (7, .int y2), (6, .int y1), (5, .int (0 : Int32)), (0, .ref (a 0)), (1, .int p1), (2, .int p2), (3, .int p3), (4, .int p4)]) hx hb dX6_common_30 hl (by decide) rfl (fun ls hl => ?_)
  refine lv_aload_n hx hb dX6_common_32 rfl (lv_at hl 4 rfl) ?_
  refine lv_iload_n hx hb dX6_common_33 rfl (lv_at hl 7 rfl) ?_
  refine lv_iload hx hb dX6_common_34 (lv_at hl 8 rfl) ?_
  refine lv_iload_n hx hb dX6_common_36 rfl (lv_at hl 6 rfl) ?_
  refine cp_i (va_runV (As := [.int p3, .int p4, .int p2]) (rest := []) ⟨hx, hb, hml, hown, hts⟩ (c_X6_isOn l dC dI a cI cJ xs ys pl lp lq lr v0 v1 v2 v3 v4 v5 v6 v7 p3 p4 p2 (by first | with_reducible assumption | exact in0_24 | exact in0_60 | decide) (by first | with_reducible assumption | exact in0_24 | exact in0_60 | decide) (by first | with_reducible assumption | exact in0_24 | exact in0_60 | decide)) (cwV 3 hts (gG_V mG_16_20 mG_16_21 mG_16_22 mG_1_5 (gG_c mG_16_23 gG_G)) rfl rfl rfl hd_X6_isOn ⟨Nat.le_of_ble_eq_true rfl, Nat.le_of_ble_eq_true rfl⟩) (pPcV (ci := 10) (q0 := 0) hK hP rfl rfl) rfl rfl hl.1 rfl (lv_room (Nat.le_of_ble_eq_true rfl)) dX6_common_37 ⟨Nat.le_of_ble_eq_true rfl, Nat.le_of_ble_eq_true rfl⟩) hP hS (fun H hP hS => ?_)
  refine lv_topi (fun y4 ey4 => ?_)
  refine lv_istore (lv' := [(9, .int y4), (8, .int y3), (7, .int y2), (6, .int y1), (5, .int (0 : Int32)), (0, .ref (a 0)), (1, .int p1), (2, .int p2), (3, .int p3), (4, .int p4)]) hx hb dX6_common_40 hl (by decide) rfl (fun ls hl => ?_)
  have K116 : ∀ (x5_116 : Int32), F = f_X6_common_J116 xs ys p1 p2 p3 p4 y4 x5_116 → ∀ (H : Heap) (locs : List Loc), va_P (dC, dI) vwCl (wM a cI cJ xs ys pl lp lq lr v0 v1 v2 v3 v4 v5 v6 v7) H → va_S pNo s.heap H locs → ∀ (ls : Array Slot), lv_has ls 10 [(0, .ref (a 0)), (1, .int p1), (2, .int p2), (3, .int p3), (4, .int p4), (5, .int x5_116), (9, .int y4)] → W p l e rm_X6_common s m args below meth c H locs 0 0 Q (F0 m 116 ls []) := by
    intro x5_116 hF H locs hP hS ls hl
    refine lv_iload hx hb dX6_common_116 (lv_at hl 5 rfl) ?_
    refine lv_iload hx hb dX6_common_118 (lv_at hl 6 rfl) ?_
    refine lv_if_eq (tgt := 155) hx hb dX6_common_120 (by decide) (fun c5 => ?_) (fun c5 => ?_)
    · skip
      refine lv_iconst (v := (0 : Int32)) hx hb dX6_common_155 (by decide) ?_
      refine lv_iadd hx hb dX6_common_156 ?_
      refine lv_topi (fun y6 ey6 => ?_)
      refine lv_istore (lv' := [(5, .int y6), (0, .ref (a 0)), (1, .int p1), (2, .int p2), (3, .int p3), (4, .int p4), (9, .int y4)]) hx hb dX6_common_157 hl (by decide) rfl (fun ls hl => ?_)
      refine lv_iload hx hb dX6_common_159 (lv_at hl 0 rfl) ?_
      refine lv_iconst (v := (1 : Int32)) hx hb dX6_common_161 (by decide) ?_
      refine lv_icmp_le (tgt := 169) hx hb dX6_common_162 (by decide) (fun c7 => ?_) (fun c7 => ?_)
      · skip
        refine lv_iload hx hb dX6_common_169 (lv_at hl 0 rfl) ?_
        exact rp_i hQ hx hb hr hlk hS (Eq.symm (eF.symm.trans (by subst ey6; rw [hF]; simp only [f_X6_common_J116, if_pos c5, if_pos c7]))) dX6_common_171
      · skip
        refine lv_iconst (v := (2 : Int32)) hx hb dX6_common_165 (by decide) ?_
        refine lv_goto (tgt := 171) hx hb dX6_common_166 (by decide) ?_
        exact rp_i hQ hx hb hr hlk hS (Eq.symm (eF.symm.trans (by subst ey6; rw [hF]; simp only [f_X6_common_J116, if_pos c5, if_neg c7]))) dX6_common_171
    · skip
      refine lv_aload_n hx hb dX6_common_123 rfl (lv_at hl 0 rfl) ?_
      refine lv_iload_n hx hb dX6_common_124 rfl (lv_at hl 2 rfl) ?_
      refine lv_iload_n hx hb dX6_common_125 rfl (lv_at hl 3 rfl) ?_
      refine cp_i (va_runV (As := [.int p2, .int p3]) (rest := [.int x5_116]) ⟨hx, hb, hml, hown, hts⟩ (c_X6_areEqual l dC dI a cI cJ xs ys pl lp lq lr v0 v1 v2 v3 v4 v5 v6 v7 p2 p3 (by first | with_reducible assumption | exact in0_24 | exact in0_60 | decide) (by first | with_reducible assumption | exact in0_24 | exact in0_60 | decide)) (cwV 2 hts (gG_V mG_12_0 mG_12_1 mG_12_2 mG_1_5 (gG_c mG_12_3 gG_G)) rfl rfl rfl hd_X6_areEqual ⟨Nat.le_of_ble_eq_true rfl, Nat.le_of_ble_eq_true rfl⟩) (pPcV (ci := 10) (q0 := 0) hK hP rfl rfl) rfl rfl hl.1 rfl (lv_room (Nat.le_of_ble_eq_true rfl)) dX6_common_126 ⟨Nat.le_of_ble_eq_true rfl, Nat.le_of_ble_eq_true rfl⟩) hP hS (fun H hP hS => ?_)
      refine lv_if_ne (tgt := 155) hx hb dX6_common_129 (by decide) (fun c8 => ?_) (fun c8 => ?_)
      · skip
        refine lv_iconst (v := (0 : Int32)) hx hb dX6_common_155 (by decide) ?_
        refine lv_iadd hx hb dX6_common_156 ?_
        refine lv_topi (fun y9 ey9 => ?_)
        refine lv_istore (lv' := [(5, .int y9), (0, .ref (a 0)), (1, .int p1), (2, .int p2), (3, .int p3), (4, .int p4), (9, .int y4)]) hx hb dX6_common_157 hl (by decide) rfl (fun ls hl => ?_)
        refine lv_iload hx hb dX6_common_159 (lv_at hl 0 rfl) ?_
        refine lv_iconst (v := (1 : Int32)) hx hb dX6_common_161 (by decide) ?_
        refine lv_icmp_le (tgt := 169) hx hb dX6_common_162 (by decide) (fun c10 => ?_) (fun c10 => ?_)
        · skip
          refine lv_iload hx hb dX6_common_169 (lv_at hl 0 rfl) ?_
          exact rp_i hQ hx hb hr hlk hS (Eq.symm (eF.symm.trans (by subst ey9; rw [hF]; simp only [f_X6_common_J116, if_neg c5, if_neg c8, if_pos c10]))) dX6_common_171
        · skip
          refine lv_iconst (v := (2 : Int32)) hx hb dX6_common_165 (by decide) ?_
          refine lv_goto (tgt := 171) hx hb dX6_common_166 (by decide) ?_
          exact rp_i hQ hx hb hr hlk hS (Eq.symm (eF.symm.trans (by subst ey9; rw [hF]; simp only [f_X6_common_J116, if_neg c5, if_neg c8, if_neg c10]))) dX6_common_171
      · skip
        refine lv_aload_n hx hb dX6_common_132 rfl (lv_at hl 0 rfl) ?_
        refine lv_iload_n hx hb dX6_common_133 rfl (lv_at hl 2 rfl) ?_
        refine lv_iload hx hb dX6_common_134 (lv_at hl 4 rfl) ?_
        refine cp_i (va_runV (As := [.int p2, .int p4]) (rest := [.int x5_116]) ⟨hx, hb, hml, hown, hts⟩ (c_X6_areEqual l dC dI a cI cJ xs ys pl lp lq lr v0 v1 v2 v3 v4 v5 v6 v7 p2 p4 (by first | with_reducible assumption | exact in0_24 | exact in0_60 | decide) (by first | with_reducible assumption | exact in0_24 | exact in0_60 | decide)) (cwV 2 hts (gG_V mG_12_0 mG_12_1 mG_12_2 mG_1_5 (gG_c mG_12_3 gG_G)) rfl rfl rfl hd_X6_areEqual ⟨Nat.le_of_ble_eq_true rfl, Nat.le_of_ble_eq_true rfl⟩) (pPcV (ci := 10) (q0 := 0) hK hP rfl rfl) rfl rfl hl.1 rfl (lv_room (Nat.le_of_ble_eq_true rfl)) dX6_common_136 ⟨Nat.le_of_ble_eq_true rfl, Nat.le_of_ble_eq_true rfl⟩) hP hS (fun H hP hS => ?_)
        refine lv_if_ne (tgt := 155) hx hb dX6_common_139 (by decide) (fun c11 => ?_) (fun c11 => ?_)
        · skip
          refine lv_iconst (v := (0 : Int32)) hx hb dX6_common_155 (by decide) ?_
          refine lv_iadd hx hb dX6_common_156 ?_
          refine lv_topi (fun y12 ey12 => ?_)
          refine lv_istore (lv' := [(5, .int y12), (0, .ref (a 0)), (1, .int p1), (2, .int p2), (3, .int p3), (4, .int p4), (9, .int y4)]) hx hb dX6_common_157 hl (by decide) rfl (fun ls hl => ?_)
          refine lv_iload hx hb dX6_common_159 (lv_at hl 0 rfl) ?_
          refine lv_iconst (v := (1 : Int32)) hx hb dX6_common_161 (by decide) ?_
          refine lv_icmp_le (tgt := 169) hx hb dX6_common_162 (by decide) (fun c13 => ?_) (fun c13 => ?_)
          · skip
            refine lv_iload hx hb dX6_common_169 (lv_at hl 0 rfl) ?_
            exact rp_i hQ hx hb hr hlk hS (Eq.symm (eF.symm.trans (by subst ey12; rw [hF]; simp only [f_X6_common_J116, if_neg c5, if_pos c8, if_neg c11, if_pos c13]))) dX6_common_171
          · skip
            refine lv_iconst (v := (2 : Int32)) hx hb dX6_common_165 (by decide) ?_
            refine lv_goto (tgt := 171) hx hb dX6_common_166 (by decide) ?_
            exact rp_i hQ hx hb hr hlk hS (Eq.symm (eF.symm.trans (by subst ey12; rw [hF]; simp only [f_X6_common_J116, if_neg c5, if_pos c8, if_neg c11, if_neg c13]))) dX6_common_171
        · skip
          refine lv_aload_n hx hb dX6_common_142 rfl (lv_at hl 0 rfl) ?_
          refine lv_iload_n hx hb dX6_common_143 rfl (lv_at hl 1 rfl) ?_
          refine lv_iload_n hx hb dX6_common_144 rfl (lv_at hl 2 rfl) ?_
          refine cp_i (va_runV (As := [.int p1, .int p2]) (rest := [.int x5_116]) ⟨hx, hb, hml, hown, hts⟩ (c_X6_areEqual l dC dI a cI cJ xs ys pl lp lq lr v0 v1 v2 v3 v4 v5 v6 v7 p1 p2 (by first | with_reducible assumption | exact in0_24 | exact in0_60 | decide) (by first | with_reducible assumption | exact in0_24 | exact in0_60 | decide)) (cwV 2 hts (gG_V mG_12_0 mG_12_1 mG_12_2 mG_1_5 (gG_c mG_12_3 gG_G)) rfl rfl rfl hd_X6_areEqual ⟨Nat.le_of_ble_eq_true rfl, Nat.le_of_ble_eq_true rfl⟩) (pPcV (ci := 10) (q0 := 0) hK hP rfl rfl) rfl rfl hl.1 rfl (lv_room (Nat.le_of_ble_eq_true rfl)) dX6_common_145 ⟨Nat.le_of_ble_eq_true rfl, Nat.le_of_ble_eq_true rfl⟩) hP hS (fun H hP hS => ?_)
          refine lv_if_ne (tgt := 155) hx hb dX6_common_148 (by decide) (fun c14 => ?_) (fun c14 => ?_)
          · skip
            refine lv_iconst (v := (0 : Int32)) hx hb dX6_common_155 (by decide) ?_
            refine lv_iadd hx hb dX6_common_156 ?_
            refine lv_topi (fun y15 ey15 => ?_)
            refine lv_istore (lv' := [(5, .int y15), (0, .ref (a 0)), (1, .int p1), (2, .int p2), (3, .int p3), (4, .int p4), (9, .int y4)]) hx hb dX6_common_157 hl (by decide) rfl (fun ls hl => ?_)
            refine lv_iload hx hb dX6_common_159 (lv_at hl 0 rfl) ?_
            refine lv_iconst (v := (1 : Int32)) hx hb dX6_common_161 (by decide) ?_
            refine lv_icmp_le (tgt := 169) hx hb dX6_common_162 (by decide) (fun c16 => ?_) (fun c16 => ?_)
            · skip
              refine lv_iload hx hb dX6_common_169 (lv_at hl 0 rfl) ?_
              exact rp_i hQ hx hb hr hlk hS (Eq.symm (eF.symm.trans (by subst ey15; rw [hF]; simp only [f_X6_common_J116, if_neg c5, if_pos c8, if_pos c11, if_neg c14, if_pos c16]))) dX6_common_171
            · skip
              refine lv_iconst (v := (2 : Int32)) hx hb dX6_common_165 (by decide) ?_
              refine lv_goto (tgt := 171) hx hb dX6_common_166 (by decide) ?_
              exact rp_i hQ hx hb hr hlk hS (Eq.symm (eF.symm.trans (by subst ey15; rw [hF]; simp only [f_X6_common_J116, if_neg c5, if_pos c8, if_pos c11, if_neg c14, if_neg c16]))) dX6_common_171
          · skip
            refine lv_iconst (v := (1 : Int32)) hx hb dX6_common_151 (by decide) ?_
            refine lv_goto (tgt := 156) hx hb dX6_common_152 (by decide) ?_
            refine lv_iadd hx hb dX6_common_156 ?_
            refine lv_topi (fun y17 ey17 => ?_)
            refine lv_istore (lv' := [(5, .int y17), (0, .ref (a 0)), (1, .int p1), (2, .int p2), (3, .int p3), (4, .int p4), (9, .int y4)]) hx hb dX6_common_157 hl (by decide) rfl (fun ls hl => ?_)
            refine lv_iload hx hb dX6_common_159 (lv_at hl 0 rfl) ?_
            refine lv_iconst (v := (1 : Int32)) hx hb dX6_common_161 (by decide) ?_
            refine lv_icmp_le (tgt := 169) hx hb dX6_common_162 (by decide) (fun c18 => ?_) (fun c18 => ?_)
            · skip
              refine lv_iload hx hb dX6_common_169 (lv_at hl 0 rfl) ?_
              exact rp_i hQ hx hb hr hlk hS (Eq.symm (eF.symm.trans (by subst ey17; rw [hF]; simp only [f_X6_common_J116, if_neg c5, if_pos c8, if_pos c11, if_pos c14, if_pos c18]))) dX6_common_171
            · skip
              refine lv_iconst (v := (2 : Int32)) hx hb dX6_common_165 (by decide) ?_
              refine lv_goto (tgt := 171) hx hb dX6_common_166 (by decide) ?_
              exact rp_i hQ hx hb hr hlk hS (Eq.symm (eF.symm.trans (by subst ey17; rw [hF]; simp only [f_X6_common_J116, if_neg c5, if_pos c8, if_pos c11, if_pos c14, if_neg c18]))) dX6_common_171
  have K82 : ∀ (x5_82 : Int32), F = f_X6_common_J82 xs ys p1 p2 p3 p4 y3 y4 x5_82 → ∀ (H : Heap) (locs : List Loc), va_P (dC, dI) vwCl (wM a cI cJ xs ys pl lp lq lr v0 v1 v2 v3 v4 v5 v6 v7) H → va_S pNo s.heap H locs → ∀ (ls : Array Slot), lv_has ls 10 [(0, .ref (a 0)), (1, .int p1), (2, .int p2), (3, .int p3), (4, .int p4), (5, .int x5_82), (8, .int y3), (9, .int y4)] → W p l e rm_X6_common s m args below meth c H locs 0 0 Q (F0 m 82 ls []) := by
    intro x5_82 hF H locs hP hS ls hl
    refine lv_iload hx hb dX6_common_82 (lv_at hl 5 rfl) ?_
    refine lv_iload hx hb dX6_common_84 (lv_at hl 6 rfl) ?_
    refine lv_if_eq (tgt := 112) hx hb dX6_common_86 (by decide) (fun c19 => ?_) (fun c19 => ?_)
    · skip
      refine lv_iconst (v := (0 : Int32)) hx hb dX6_common_112 (by decide) ?_
      refine lv_iadd hx hb dX6_common_113 ?_
      refine lv_topi (fun y20 ey20 => ?_)
      refine lv_istore (lv' := [(5, .int y20), (0, .ref (a 0)), (1, .int p1), (2, .int p2), (3, .int p3), (4, .int p4), (8, .int y3), (9, .int y4)]) hx hb dX6_common_114 hl (by decide) rfl (fun ls hl => ?_)
      exact K116 y20 (by subst ey20; rw [hF]; simp only [f_X6_common_J82, if_pos c19]) _ _ hP hS ls (lv_sub hl [1, 2, 3, 4, 5, 0, 7] rfl)
    · skip
      refine lv_aload_n hx hb dX6_common_89 rfl (lv_at hl 0 rfl) ?_
      refine lv_iload_n hx hb dX6_common_90 rfl (lv_at hl 1 rfl) ?_
      refine lv_iload_n hx hb dX6_common_91 rfl (lv_at hl 3 rfl) ?_
      refine cp_i (va_runV (As := [.int p1, .int p3]) (rest := [.int x5_82]) ⟨hx, hb, hml, hown, hts⟩ (c_X6_areEqual l dC dI a cI cJ xs ys pl lp lq lr v0 v1 v2 v3 v4 v5 v6 v7 p1 p3 (by first | with_reducible assumption | exact in0_24 | exact in0_60 | decide) (by first | with_reducible assumption | exact in0_24 | exact in0_60 | decide)) (cwV 2 hts (gG_V mG_12_0 mG_12_1 mG_12_2 mG_1_5 (gG_c mG_12_3 gG_G)) rfl rfl rfl hd_X6_areEqual ⟨Nat.le_of_ble_eq_true rfl, Nat.le_of_ble_eq_true rfl⟩) (pPcV (ci := 10) (q0 := 0) hK hP rfl rfl) rfl rfl hl.1 rfl (lv_room (Nat.le_of_ble_eq_true rfl)) dX6_common_92 ⟨Nat.le_of_ble_eq_true rfl, Nat.le_of_ble_eq_true rfl⟩) hP hS (fun H hP hS => ?_)
      refine lv_if_ne (tgt := 112) hx hb dX6_common_95 (by decide) (fun c21 => ?_) (fun c21 => ?_)
      · skip
        refine lv_iconst (v := (0 : Int32)) hx hb dX6_common_112 (by decide) ?_
        refine lv_iadd hx hb dX6_common_113 ?_
        refine lv_topi (fun y22 ey22 => ?_)
        refine lv_istore (lv' := [(5, .int y22), (0, .ref (a 0)), (1, .int p1), (2, .int p2), (3, .int p3), (4, .int p4), (8, .int y3), (9, .int y4)]) hx hb dX6_common_114 hl (by decide) rfl (fun ls hl => ?_)
        exact K116 y22 (by subst ey22; rw [hF]; simp only [f_X6_common_J82, if_neg c19, if_neg c21]) _ _ hP hS ls (lv_sub hl [1, 2, 3, 4, 5, 0, 7] rfl)
      · skip
        refine lv_aload_n hx hb dX6_common_98 rfl (lv_at hl 0 rfl) ?_
        refine lv_iload_n hx hb dX6_common_99 rfl (lv_at hl 1 rfl) ?_
        refine lv_iload hx hb dX6_common_100 (lv_at hl 4 rfl) ?_
        refine cp_i (va_runV (As := [.int p1, .int p4]) (rest := [.int x5_82]) ⟨hx, hb, hml, hown, hts⟩ (c_X6_areEqual l dC dI a cI cJ xs ys pl lp lq lr v0 v1 v2 v3 v4 v5 v6 v7 p1 p4 (by first | with_reducible assumption | exact in0_24 | exact in0_60 | decide) (by first | with_reducible assumption | exact in0_24 | exact in0_60 | decide)) (cwV 2 hts (gG_V mG_12_0 mG_12_1 mG_12_2 mG_1_5 (gG_c mG_12_3 gG_G)) rfl rfl rfl hd_X6_areEqual ⟨Nat.le_of_ble_eq_true rfl, Nat.le_of_ble_eq_true rfl⟩) (pPcV (ci := 10) (q0 := 0) hK hP rfl rfl) rfl rfl hl.1 rfl (lv_room (Nat.le_of_ble_eq_true rfl)) dX6_common_102 ⟨Nat.le_of_ble_eq_true rfl, Nat.le_of_ble_eq_true rfl⟩) hP hS (fun H hP hS => ?_)
        refine lv_if_ne (tgt := 112) hx hb dX6_common_105 (by decide) (fun c23 => ?_) (fun c23 => ?_)
        · skip
          refine lv_iconst (v := (0 : Int32)) hx hb dX6_common_112 (by decide) ?_
          refine lv_iadd hx hb dX6_common_113 ?_
          refine lv_topi (fun y24 ey24 => ?_)
          refine lv_istore (lv' := [(5, .int y24), (0, .ref (a 0)), (1, .int p1), (2, .int p2), (3, .int p3), (4, .int p4), (8, .int y3), (9, .int y4)]) hx hb dX6_common_114 hl (by decide) rfl (fun ls hl => ?_)
          exact K116 y24 (by subst ey24; rw [hF]; simp only [f_X6_common_J82, if_neg c19, if_pos c21, if_neg c23]) _ _ hP hS ls (lv_sub hl [1, 2, 3, 4, 5, 0, 7] rfl)
        · skip
          refine lv_iconst (v := (1 : Int32)) hx hb dX6_common_108 (by decide) ?_
          refine lv_goto (tgt := 113) hx hb dX6_common_109 (by decide) ?_
          refine lv_iadd hx hb dX6_common_113 ?_
          refine lv_topi (fun y25 ey25 => ?_)
          refine lv_istore (lv' := [(5, .int y25), (0, .ref (a 0)), (1, .int p1), (2, .int p2), (3, .int p3), (4, .int p4), (8, .int y3), (9, .int y4)]) hx hb dX6_common_114 hl (by decide) rfl (fun ls hl => ?_)
          exact K116 y25 (by subst ey25; rw [hF]; simp only [f_X6_common_J82, if_neg c19, if_pos c21, if_pos c23]) _ _ hP hS ls (lv_sub hl [1, 2, 3, 4, 5, 0, 7] rfl)
  have K57 : ∀ (x5_57 : Int32), F = f_X6_common_J57 xs ys p1 p2 p3 p4 y2 y3 y4 x5_57 → ∀ (H : Heap) (locs : List Loc), va_P (dC, dI) vwCl (wM a cI cJ xs ys pl lp lq lr v0 v1 v2 v3 v4 v5 v6 v7) H → va_S pNo s.heap H locs → ∀ (ls : Array Slot), lv_has ls 10 [(0, .ref (a 0)), (1, .int p1), (2, .int p2), (3, .int p3), (4, .int p4), (5, .int x5_57), (7, .int y2), (8, .int y3), (9, .int y4)] → W p l e rm_X6_common s m args below meth c H locs 0 0 Q (F0 m 57 ls []) := by
    intro x5_57 hF H locs hP hS ls hl
    refine lv_iload hx hb dX6_common_57 (lv_at hl 5 rfl) ?_
    refine lv_iload hx hb dX6_common_59 (lv_at hl 6 rfl) ?_
    refine lv_if_eq (tgt := 78) hx hb dX6_common_61 (by decide) (fun c26 => ?_) (fun c26 => ?_)
    · skip
      refine lv_iconst (v := (0 : Int32)) hx hb dX6_common_78 (by decide) ?_
      refine lv_iadd hx hb dX6_common_79 ?_
      refine lv_topi (fun y27 ey27 => ?_)
      refine lv_istore (lv' := [(5, .int y27), (0, .ref (a 0)), (1, .int p1), (2, .int p2), (3, .int p3), (4, .int p4), (7, .int y2), (8, .int y3), (9, .int y4)]) hx hb dX6_common_80 hl (by decide) rfl (fun ls hl => ?_)
      exact K82 y27 (by subst ey27; rw [hF]; simp only [f_X6_common_J57, if_pos c26]) _ _ hP hS ls (lv_sub hl [1, 2, 3, 4, 5, 0, 7, 8] rfl)
    · skip
      refine lv_aload_n hx hb dX6_common_64 rfl (lv_at hl 0 rfl) ?_
      refine lv_iload_n hx hb dX6_common_65 rfl (lv_at hl 3 rfl) ?_
      refine lv_iload hx hb dX6_common_66 (lv_at hl 4 rfl) ?_
      refine cp_i (va_runV (As := [.int p3, .int p4]) (rest := [.int x5_57]) ⟨hx, hb, hml, hown, hts⟩ (c_X6_areEqual l dC dI a cI cJ xs ys pl lp lq lr v0 v1 v2 v3 v4 v5 v6 v7 p3 p4 (by first | with_reducible assumption | exact in0_24 | exact in0_60 | decide) (by first | with_reducible assumption | exact in0_24 | exact in0_60 | decide)) (cwV 2 hts (gG_V mG_12_0 mG_12_1 mG_12_2 mG_1_5 (gG_c mG_12_3 gG_G)) rfl rfl rfl hd_X6_areEqual ⟨Nat.le_of_ble_eq_true rfl, Nat.le_of_ble_eq_true rfl⟩) (pPcV (ci := 10) (q0 := 0) hK hP rfl rfl) rfl rfl hl.1 rfl (lv_room (Nat.le_of_ble_eq_true rfl)) dX6_common_68 ⟨Nat.le_of_ble_eq_true rfl, Nat.le_of_ble_eq_true rfl⟩) hP hS (fun H hP hS => ?_)
      refine lv_if_ne (tgt := 78) hx hb dX6_common_71 (by decide) (fun c28 => ?_) (fun c28 => ?_)
      · skip
        refine lv_iconst (v := (0 : Int32)) hx hb dX6_common_78 (by decide) ?_
        refine lv_iadd hx hb dX6_common_79 ?_
        refine lv_topi (fun y29 ey29 => ?_)
        refine lv_istore (lv' := [(5, .int y29), (0, .ref (a 0)), (1, .int p1), (2, .int p2), (3, .int p3), (4, .int p4), (7, .int y2), (8, .int y3), (9, .int y4)]) hx hb dX6_common_80 hl (by decide) rfl (fun ls hl => ?_)
        exact K82 y29 (by subst ey29; rw [hF]; simp only [f_X6_common_J57, if_neg c26, if_neg c28]) _ _ hP hS ls (lv_sub hl [1, 2, 3, 4, 5, 0, 7, 8] rfl)
      · skip
        refine lv_iconst (v := (1 : Int32)) hx hb dX6_common_74 (by decide) ?_
        refine lv_goto (tgt := 79) hx hb dX6_common_75 (by decide) ?_
        refine lv_iadd hx hb dX6_common_79 ?_
        refine lv_topi (fun y30 ey30 => ?_)
        refine lv_istore (lv' := [(5, .int y30), (0, .ref (a 0)), (1, .int p1), (2, .int p2), (3, .int p3), (4, .int p4), (7, .int y2), (8, .int y3), (9, .int y4)]) hx hb dX6_common_80 hl (by decide) rfl (fun ls hl => ?_)
        exact K82 y30 (by subst ey30; rw [hF]; simp only [f_X6_common_J57, if_neg c26, if_pos c28]) _ _ hP hS ls (lv_sub hl [1, 2, 3, 4, 5, 0, 7, 8] rfl)
  refine lv_iload hx hb dX6_common_42 (lv_at hl 4 rfl) ?_
  refine lv_iload hx hb dX6_common_44 (lv_at hl 3 rfl) ?_
  refine lv_if_eq (tgt := 53) hx hb dX6_common_46 (by decide) (fun c31 => ?_) (fun c31 => ?_)
  · skip
    refine lv_iconst (v := (0 : Int32)) hx hb dX6_common_53 (by decide) ?_
    refine lv_iadd hx hb dX6_common_54 ?_
    refine lv_topi (fun y32 ey32 => ?_)
    refine lv_istore (lv' := [(5, .int y32), (9, .int y4), (8, .int y3), (7, .int y2), (6, .int y1), (0, .ref (a 0)), (1, .int p1), (2, .int p2), (3, .int p3), (4, .int p4)]) hx hb dX6_common_55 hl (by decide) rfl (fun ls hl => ?_)
    exact K57 y32 (by subst ey1; subst ey2; subst ey3; subst ey4; subst ey32; rw [eF]; simp only [f_X6_common, if_pos c31]) _ _ hP hS ls (lv_sub hl [5, 6, 7, 8, 9, 0, 3, 2, 1] rfl)
  · skip
    refine lv_iconst (v := (1 : Int32)) hx hb dX6_common_49 (by decide) ?_
    refine lv_goto (tgt := 54) hx hb dX6_common_50 (by decide) ?_
    refine lv_iadd hx hb dX6_common_54 ?_
    refine lv_topi (fun y33 ey33 => ?_)
    refine lv_istore (lv' := [(5, .int y33), (9, .int y4), (8, .int y3), (7, .int y2), (6, .int y1), (0, .ref (a 0)), (1, .int p1), (2, .int p2), (3, .int p3), (4, .int p4)]) hx hb dX6_common_55 hl (by decide) rfl (fun ls hl => ?_)
    exact K57 y33 (by subst ey1; subst ey2; subst ey3; subst ey4; subst ey33; rw [eF]; simp only [f_X6_common, if_neg c31]) _ _ hP hS ls (lv_sub hl [5, 6, 7, 8, 9, 0, 3, 2, 1] rfl)
/-! X6_fail -/
theorem hs_X6_fail : yX6_fail.cls ≠ "java/lang/invoke/MethodHandle" ∧ yX6_fail.cls ≠ "java/lang/invoke/VarHandle" ∧ (parseMethodDescriptor yX6_fail.desc).map (fun d => d.parameters.length) = some 1 := by decide +kernel
theorem hd_X6_fail : yX6_fail.cls = RX6 ∧ yX6_fail.cls ≠ "java/lang/invoke/MethodHandle" ∧ yX6_fail.cls ≠ "java/lang/invoke/VarHandle" ∧ (parseMethodDescriptor yX6_fail.desc).map (fun d => d.parameters.length) = some 1 := ⟨rfl, hs_X6_fail⟩
def f_X6_fail (v0 : Int32) (p1 : Int32) : Int32 × Int32 := ((0 : Int32), p1)
abbrev rm_X6_fail : Room := { frames := 0, cells := 0, slots := 0, locals := 0 }
set_option maxHeartbeats 8000000 in
set_option maxRecDepth 100000 in
theorem c_X6_fail (l : Launch) (dC : Nat → ClassId) (dI : Nat → Nat → Nat) (a : Nat → Nat) (cI cJ : ClassId) (xs : Nat → Int32) (ys : Nat → Int32) (pl : Nat → Int32) (lp : Nat → Int64) (lq : Nat → Int64) (lr : Nat → Int64) (v0 : Int32) (v1 : Int32) (v2 : Int32) (v3 : Int32) (v4 : Int32) (v5 : Int32) (v6 : Int32) (v7 : Int32) (p1 : Int32) : Met l yX6_fail (Cond.code yX6_fail cX6_fail 2 (some .int) :: lw_G) rm_X6_fail (wPc (dC, dI) (tIJ cI cJ) (wM a cI cJ xs ys pl lp lq lr v0 v1 v2 v3 v4 v5 v6 v7) [.ref (a 0), .int p1]) (wQi (dC, dI) (wA (wM a cI cJ xs ys pl lp lq lr v0 v1 v2 v3 v4 v5 v6 v7)) (wM a cI cJ xs ys pl lp lq lr ((f_X6_fail v0 p1).2) v1 v2 v3 v4 v5 v6 v7) (f_X6_fail v0 p1).1) 0 0 (wA (wM a cI cJ xs ys pl lp lq lr v0 v1 v2 v3 v4 v5 v6 v7)) := by
  refine wm_of (by decide) (Nat.le_of_ble_eq_true rfl) ?_
  intro p e s m args below meth c Q ls hQ hx hb hr hlk hml hown hts hP hK hD hS hl
  have hown : s.vm.findClass RX6 = some m.cls := hown
  have hl : lv_has ls 2 [(0, .ref (a 0)), (1, .int p1)] := hl
  generalize hAe : wA (wM a cI cJ xs ys pl lp lq lr v0 v1 v2 v3 v4 v5 v6 v7) = A at hQ hD hS
  refine lv_aload_n hx hb dX6_fail_0 rfl (lv_at hl 0 rfl) ?_
  refine lv_iload_n hx hb dX6_fail_1 rfl (lv_at hl 1 rfl) ?_
  refine va_put (D := (dC, dI)) (ci := 10) (v := .int p1) (ty := .int) (C := RX6) (T := TX6) (N := 14) hx hb hts (fun _ h => gI_wsX60 h) tyX6 tyX6_ok nmX6 hown hK.1 hP hD hS 0 rfl rfl 0 (by decide) (hts _ mG_5_12) (fun _ h9 => h9) rfl (by decide +kernel) rfl rfl (Nat.le_of_ble_eq_true rfl) dX6_fail_2 (fun H locs hP hD hS => ?_)
  have hP : va_P (dC, dI) vwCl (wM a cI cJ xs ys pl lp lq lr p1 v1 v2 v3 v4 v5 v6 v7) H := hP
  have hD : va_D A (wM a cI cJ xs ys pl lp lq lr p1 v1 v2 v3 v4 v5 v6 v7) := hD
  refine lv_iconst (v := (0 : Int32)) hx hb dX6_fail_5 (by decide) ?_
  have hE : (f_X6_fail v0 p1) = ((0 : Int32), p1) := (by simp only [f_X6_fail])
  exact rw_i hQ hx hb hr hlk (by rw [hE]; exact hP) hS (by rw [hE]) dX6_fail_6
/-! X6_isWhole -/
theorem hs_X6_isWhole : yX6_isWhole.cls ≠ "java/lang/invoke/MethodHandle" ∧ yX6_isWhole.cls ≠ "java/lang/invoke/VarHandle" ∧ (parseMethodDescriptor yX6_isWhole.desc).map (fun d => d.parameters.length) = some 1 := by decide +kernel
theorem hd_X6_isWhole : yX6_isWhole.cls = RX6 ∧ yX6_isWhole.cls ≠ "java/lang/invoke/MethodHandle" ∧ yX6_isWhole.cls ≠ "java/lang/invoke/VarHandle" ∧ (parseMethodDescriptor yX6_isWhole.desc).map (fun d => d.parameters.length) = some 1 := ⟨rfl, hs_X6_isWhole⟩
def f_X6_isWhole_L4 (pl : Nat → Int32) (p1 : Int32)  : Nat → Int32 → Int32 → Int32
  | 0, _, _ => 0
  | n + 1, x2_4, x3_4 => (if p1 ≤ x3_4 then x2_4 else (if x2_4 = 0 then (f_X6_isWhole_L4 pl p1  n (0 : Int32) (x3_4 + 1)) else (if (pl (Int32.toNatClampNeg x3_4)) = (-1 : Int32) then (f_X6_isWhole_L4 pl p1  n (0 : Int32) (x3_4 + 1)) else (f_X6_isWhole_L4 pl p1  n (1 : Int32) (x3_4 + 1)))))
def f_X6_isWhole (pl : Nat → Int32) (p1 : Int32) : Int32 := (f_X6_isWhole_L4 pl p1  25 (1 : Int32) (0 : Int32))
abbrev rm_X6_isWhole : Room := { frames := 0, cells := 0, slots := 0, locals := 0 }
set_option maxHeartbeats 8000000 in
set_option maxRecDepth 100000 in
theorem c_X6_isWhole (l : Launch) (dC : Nat → ClassId) (dI : Nat → Nat → Nat) (a : Nat → Nat) (cI cJ : ClassId) (xs : Nat → Int32) (ys : Nat → Int32) (pl : Nat → Int32) (lp : Nat → Int64) (lq : Nat → Int64) (lr : Nat → Int64) (v0 : Int32) (v1 : Int32) (v2 : Int32) (v3 : Int32) (v4 : Int32) (v5 : Int32) (v6 : Int32) (v7 : Int32) (p1 : Int32) (hn : p1 ≤ 24) : Met l yX6_isWhole (Cond.code yX6_isWhole cX6_isWhole 4 (some .boolean) :: lw_G) rm_X6_isWhole (pPc (dC, dI) (tIJ cI cJ) (wM a cI cJ xs ys pl lp lq lr v0 v1 v2 v3 v4 v5 v6 v7) [.ref (a 0), .int p1]) (pQi (f_X6_isWhole pl p1)) 0 0 pNo := by
  refine pm_of (by decide) (Nat.le_of_ble_eq_true rfl) ?_
  intro p e s m args below meth c Q ls hQ hx hb hr hlk hml hown hts hP hK hS hl
  have hown : s.vm.findClass RX6 = some m.cls := hown
  have hl : lv_has ls 4 [(0, .ref (a 0)), (1, .int p1)] := hl
  obtain ⟨F, eF⟩ : ∃ F, F = (f_X6_isWhole pl p1) := ⟨_, rfl⟩
  refine lv_iconst (v := (1 : Int32)) hx hb dX6_isWhole_0 (by decide) ?_
  refine lv_istore_n (lv' := [(2, .int (1 : Int32)), (0, .ref (a 0)), (1, .int p1)]) hx hb dX6_isWhole_1 rfl hl (by decide) rfl (fun ls hl => ?_)
  refine lv_iconst (v := (0 : Int32)) hx hb dX6_isWhole_2 (by decide) ?_
  refine lv_istore_n (lv' := [(3, .int (0 : Int32)), (2, .int (1 : Int32)), (0, .ref (a 0)), (1, .int p1)]) hx hb dX6_isWhole_3 rfl hl (by decide) rfl (fun ls hl => ?_)
  have K4 : ∀ (n4 : Nat) (x2_4 : Int32) (x3_4 : Int32), 0 ≤ x3_4 → ((p1).toInt - x3_4.toInt).toNat < n4 → (x2_4 = 0 ∨ x2_4 = 1) → F = f_X6_isWhole_L4 pl p1  n4 x2_4 x3_4 → ∀ (H : Heap) (locs : List Loc), va_P (dC, dI) vwCl (wM a cI cJ xs ys pl lp lq lr v0 v1 v2 v3 v4 v5 v6 v7) H → va_S pNo s.heap H locs → ∀ (ls : Array Slot), lv_has ls 4 [(0, .ref (a 0)), (1, .int p1), (2, .int x2_4), (3, .int x3_4)] → W p l e rm_X6_isWhole s m args below meth c H locs 0 0 Q (F0 m 4 ls []) := by
    intro n4
    induction n4 with
    | zero => intro x2_4 x3_4 h0_4 hf_4 gb hF H locs hP hS ls hl; exact absurd hf_4 (Nat.not_lt_zero _)
    | succ n4 ih4 =>
      intro x2_4 x3_4 h0_4 hf_4 gb hF H locs hP hS ls hl
      refine lv_iload_n hx hb dX6_isWhole_4 rfl (lv_at hl 3 rfl) ?_
      refine lv_iload_n hx hb dX6_isWhole_5 rfl (lv_at hl 1 rfl) ?_
      refine lv_icmp_ge (tgt := 35) hx hb dX6_isWhole_6 (by decide) (fun c1 => ?_) (fun c1 => ?_)
      · skip
        refine lv_iload_n hx hb dX6_isWhole_35 rfl (lv_at hl 2 rfl) ?_
        exact rp_z hQ hx hb hr hlk hS (Eq.symm (eF.symm.trans (by rw [hF]; simp only [f_X6_isWhole_L4, if_pos c1]))) (nz gb) dX6_isWhole_36
      · skip
        have hI : vp_in x3_4 24 := ix_lt h0_4 c1 hn
        refine lv_iload_n hx hb dX6_isWhole_9 rfl (lv_at hl 2 rfl) ?_
        refine lv_if_eq (tgt := 27) hx hb dX6_isWhole_10 (by decide) (fun c2 => ?_) (fun c2 => ?_)
        · skip
          refine lv_iconst (v := (0 : Int32)) hx hb dX6_isWhole_27 (by decide) ?_
          refine lv_istore_n (lv' := [(2, .int (0 : Int32)), (0, .ref (a 0)), (1, .int p1), (3, .int x3_4)]) hx hb dX6_isWhole_28 rfl hl (by decide) rfl (fun ls hl => ?_)
          refine lv_iinc (v := (x3_4 + 1)) (lv' := [(3, .int (x3_4 + 1)), (2, .int (0 : Int32)), (0, .ref (a 0)), (1, .int p1)]) hx hb dX6_isWhole_29 hl (k := 3) rfl rfl (by decide) rfl (fun ls hl => ?_)
          refine lv_goto (tgt := 4) hx hb dX6_isWhole_32 (by decide) ?_
          exact ih4 (0 : Int32) (x3_4 + 1) (lp_pos h0_4 c1) (lp_dec c1 hf_4) (by first | exact Or.inl rfl | exact Or.inr rfl) (by rw [hF]; simp only [f_X6_isWhole_L4, if_neg c1, if_pos c2]) _ _ hP hS ls (lv_sub hl [2, 3, 1, 0] rfl)
        · skip
          refine lv_aload_n hx hb dX6_isWhole_13 rfl (lv_at hl 0 rfl) ?_
          refine va_get (D := (dC, dI)) (ci := 10) (v := .ref (a 3)) (C := RX6) (T := TX6) (N := 14) hx hb hts (fun _ h => gI_wsX60 h) hown hK.1 hP 0 rfl rfl 5 (by decide) (hts _ mG_4_10) (fun _ h9 => h9) rfl dX6_isWhole_14 ?_
          refine lv_iload_n hx hb dX6_isWhole_17 rfl (lv_at hl 3 rfl) ?_
          refine va_iald hx hb hK.1 hP 3 0 rfl rfl (by first | with_reducible assumption | exact in0_24 | exact in0_60 | decide) dX6_isWhole_18 ?_
          refine lv_iconst (v := (-1 : Int32)) hx hb dX6_isWhole_19 (by decide) ?_
          refine lv_icmp_eq (tgt := 27) hx hb dX6_isWhole_20 (by decide) (fun c3 => ?_) (fun c3 => ?_)
          · skip
            refine lv_iconst (v := (0 : Int32)) hx hb dX6_isWhole_27 (by decide) ?_
            refine lv_istore_n (lv' := [(2, .int (0 : Int32)), (0, .ref (a 0)), (1, .int p1), (3, .int x3_4)]) hx hb dX6_isWhole_28 rfl hl (by decide) rfl (fun ls hl => ?_)
            refine lv_iinc (v := (x3_4 + 1)) (lv' := [(3, .int (x3_4 + 1)), (2, .int (0 : Int32)), (0, .ref (a 0)), (1, .int p1)]) hx hb dX6_isWhole_29 hl (k := 3) rfl rfl (by decide) rfl (fun ls hl => ?_)
            refine lv_goto (tgt := 4) hx hb dX6_isWhole_32 (by decide) ?_
            exact ih4 (0 : Int32) (x3_4 + 1) (lp_pos h0_4 c1) (lp_dec c1 hf_4) (by first | exact Or.inl rfl | exact Or.inr rfl) (by rw [hF]; simp only [f_X6_isWhole_L4, if_neg c1, if_neg c2, if_pos c3]) _ _ hP hS ls (lv_sub hl [2, 3, 1, 0] rfl)
          · skip
            refine lv_iconst (v := (1 : Int32)) hx hb dX6_isWhole_23 (by decide) ?_
            refine lv_goto (tgt := 28) hx hb dX6_isWhole_24 (by decide) ?_
            refine lv_istore_n (lv' := [(2, .int (1 : Int32)), (0, .ref (a 0)), (1, .int p1), (3, .int x3_4)]) hx hb dX6_isWhole_28 rfl hl (by decide) rfl (fun ls hl => ?_)
            refine lv_iinc (v := (x3_4 + 1)) (lv' := [(3, .int (x3_4 + 1)), (2, .int (1 : Int32)), (0, .ref (a 0)), (1, .int p1)]) hx hb dX6_isWhole_29 hl (k := 3) rfl rfl (by decide) rfl (fun ls hl => ?_)
            refine lv_goto (tgt := 4) hx hb dX6_isWhole_32 (by decide) ?_
            exact ih4 (1 : Int32) (x3_4 + 1) (lp_pos h0_4 c1) (lp_dec c1 hf_4) (by first | exact Or.inl rfl | exact Or.inr rfl) (by rw [hF]; simp only [f_X6_isWhole_L4, if_neg c1, if_neg c2, if_neg c3]) _ _ hP hS ls (lv_sub hl [2, 3, 1, 0] rfl)
  exact K4 25 (1 : Int32) (0 : Int32) (by decide) (lp_fuel (by decide) hn) (Or.inr rfl) (by rw [eF]; simp only [f_X6_isWhole]) _ _ hP hS ls (lv_sub hl [2, 3, 1, 0] rfl)
/-! X6_next -/
theorem hs_X6_next : yX6_next.cls ≠ "java/lang/invoke/MethodHandle" ∧ yX6_next.cls ≠ "java/lang/invoke/VarHandle" ∧ (parseMethodDescriptor yX6_next.desc).map (fun d => d.parameters.length) = some 2 := by decide +kernel
theorem hd_X6_next : yX6_next.cls = RX6 ∧ yX6_next.cls ≠ "java/lang/invoke/MethodHandle" ∧ yX6_next.cls ≠ "java/lang/invoke/VarHandle" ∧ (parseMethodDescriptor yX6_next.desc).map (fun d => d.parameters.length) = some 2 := ⟨rfl, hs_X6_next⟩
def f_X6_next (pl : Nat → Int32) (p1 : Int32) (p2 : Int32) : Int32 := (if (p1 + (1 : Int32)) = p2 then (pl (Int32.toNatClampNeg (0 : Int32))) else (pl (Int32.toNatClampNeg (p1 + (1 : Int32)))))
abbrev rm_X6_next : Room := { frames := 0, cells := 0, slots := 0, locals := 0 }
set_option maxHeartbeats 8000000 in
set_option maxRecDepth 100000 in
theorem c_X6_next (l : Launch) (dC : Nat → ClassId) (dI : Nat → Nat → Nat) (a : Nat → Nat) (cI cJ : ClassId) (xs : Nat → Int32) (ys : Nat → Int32) (pl : Nat → Int32) (lp : Nat → Int64) (lq : Nat → Int64) (lr : Nat → Int64) (v0 : Int32) (v1 : Int32) (v2 : Int32) (v3 : Int32) (v4 : Int32) (v5 : Int32) (v6 : Int32) (v7 : Int32) (p1 : Int32) (p2 : Int32) (he : 0 ≤ p1) (hlt : ¬ p2 ≤ p1) (hn : p2 ≤ 24) : Met l yX6_next (Cond.code yX6_next cX6_next 3 (some .int) :: lw_G) rm_X6_next (pPc (dC, dI) (tIJ cI cJ) (wM a cI cJ xs ys pl lp lq lr v0 v1 v2 v3 v4 v5 v6 v7) [.ref (a 0), .int p1, .int p2]) (pQi (f_X6_next pl p1 p2)) 0 0 pNo := by
  refine pm_of (by decide) (Nat.le_of_ble_eq_true rfl) ?_
  intro p e s m args below meth c Q ls hQ hx hb hr hlk hml hown hts hP hK hS hl
  have hown : s.vm.findClass RX6 = some m.cls := hown
  have hl : lv_has ls 3 [(0, .ref (a 0)), (1, .int p1), (2, .int p2)] := hl
  refine lv_aload_n hx hb dX6_next_0 rfl (lv_at hl 0 rfl) ?_
  refine va_get (D := (dC, dI)) (ci := 10) (v := .ref (a 3)) (C := RX6) (T := TX6) (N := 14) hx hb hts (fun _ h => gI_wsX60 h) hown hK.1 hP 0 rfl rfl 5 (by decide) (hts _ mG_4_10) (fun _ h9 => h9) rfl dX6_next_1 ?_
  refine lv_iload_n hx hb dX6_next_4 rfl (lv_at hl 1 rfl) ?_
  refine lv_iconst (v := (1 : Int32)) hx hb dX6_next_5 (by decide) ?_
  refine lv_iadd hx hb dX6_next_6 ?_
  refine lv_iload_n hx hb dX6_next_7 rfl (lv_at hl 2 rfl) ?_
  refine lv_icmp_ne (tgt := 15) hx hb dX6_next_8 (by decide) (fun c1 => ?_) (fun c1 => ?_)
  · skip
    have hI : vp_in (p1 + 1) 24 := ix_lt (lp_pos he hlt) (nx_lt hlt c1) hn
    refine lv_iload_n hx hb dX6_next_15 rfl (lv_at hl 1 rfl) ?_
    refine lv_iconst (v := (1 : Int32)) hx hb dX6_next_16 (by decide) ?_
    refine lv_iadd hx hb dX6_next_17 ?_
    refine va_iald hx hb hK.1 hP 3 0 rfl rfl (by first | with_reducible assumption | exact in0_24 | exact in0_60 | decide) dX6_next_18 ?_
    exact rp_i hQ hx hb hr hlk hS (Eq.symm (by simp only [f_X6_next, if_neg c1])) dX6_next_19
  · skip
    refine lv_iconst (v := (0 : Int32)) hx hb dX6_next_11 (by decide) ?_
    refine lv_goto (tgt := 18) hx hb dX6_next_12 (by decide) ?_
    refine va_iald hx hb hK.1 hP 3 0 rfl rfl (by first | with_reducible assumption | exact in0_24 | exact in0_60 | decide) dX6_next_18 ?_
    exact rp_i hQ hx hb hr hlk hS (Eq.symm (by simp only [f_X6_next, if_pos c1])) dX6_next_19
theorem in_next {pl : Nat → Int32} {i n : Int32} (hv : ∀ j : Nat, (j : Int) < n.toInt → vp_in (pl j) 60) (h0 : 0 ≤ i) (h : ¬ n ≤ i) : vp_in (f_X6_next pl i n) 60 := by
  unfold f_X6_next
  split
  · refine hv_at hv (by decide) (fun h2 => ?_)
    exact h (Int32.le_trans h2 h0)
  · next c => exact hv_at hv (lp_pos h0 h) (nx_lt h c)
theorem in_isPoint {v1 p : Int32} (hv1 : v1 ≤ 60) (c : ¬ f_X6_isPoint v1 p = 0) : vp_in p 60 := in_has hv1 c
theorem in_place {v p : Int32} (h : v ≤ 24) (c : ¬ f_X6_isPlace v p = 0) : vp_in p 24 := by
  unfold f_X6_isPlace at c
  by_cases c1 : p < 0
  · rw [if_pos c1] at c
    exact absurd rfl c
  · rw [if_neg c1] at c
    by_cases c2 : v ≤ p
    · rw [if_pos c2] at c
      exact absurd rfl c
    · exact ix_lt (Int32.not_lt.mp c1) c2 h
theorem in_many {v n k : Int32} (c : ¬ f_X6_isMany v n k = 0) : k ≤ n ∧ n ≤ v := by
  unfold f_X6_isMany at c
  by_cases c1 : n < k
  · rw [if_pos c1] at c
    exact absurd rfl c
  · rw [if_neg c1] at c
    by_cases c2 : v < n
    · rw [if_pos c2] at c
      exact absurd rfl c
    · exact ⟨Int32.not_lt.mp c1, Int32.not_lt.mp c2⟩
theorem mw_loop {pl : Nat → Int32} {p1 : Int32} : ∀ (n : Nat) (b i : Int32), 0 ≤ i → (p1.toInt - i.toInt).toNat < n → ¬ f_X6_isWhole_L4 pl p1 n b i = 0 → ¬ b = 0 ∧ ∀ j : Nat, i.toInt ≤ j → (j : Int) < p1.toInt → ¬ pl j = -1 := by
  intro n
  induction n with
  | zero => intro b i h0 hf; exact absurd hf (Nat.not_lt_zero _)
  | succ n ih =>
    intro b i h0 hf h
    rw [f_X6_isWhole_L4] at h
    by_cases c : p1 ≤ i
    · rw [if_pos c] at h
      refine ⟨h, fun j h1 h2 => ?_⟩
      have := Int32.le_iff_toInt_le.mp c
      omega
    · rw [if_neg c] at h
      by_cases cb : b = 0
      · rw [if_pos cb] at h
        exact absurd rfl (ih 0 (i + 1) (lp_pos h0 c) (lp_dec c hf) h).1
      · rw [if_neg cb] at h
        by_cases c2 : pl (Int32.toNatClampNeg i) = -1
        · rw [if_pos c2] at h
          exact absurd rfl (ih 0 (i + 1) (lp_pos h0 c) (lp_dec c hf) h).1
        · rw [if_neg c2] at h
          refine ⟨cb, fun j h1 h2 => ?_⟩
          have e0 : (0 : Int32).toInt = 0 := by decide
          have hi : (0 : Int32).toInt ≤ i.toInt := Int32.le_iff_toInt_le.mp h0
          have e1 : ((Int32.toNatClampNeg i : Nat) : Int) = i.toInt := by
            rw [Int32.toNatClampNeg]
            exact Int.toNat_of_nonneg (by omega)
          by_cases q : (j : Int) = i.toInt
          · have : Int32.toNatClampNeg i = j := by omega
            rw [← this]
            exact c2
          · exact (ih 1 (i + 1) (lp_pos h0 c) (lp_dec c hf) h).2 j (by rw [in_1 c]; omega) h2
theorem mw_spec {pl : Nat → Int32} {p1 : Int32} (hn : p1 ≤ 24) (hpl : ∀ j : Nat, pl j = -1 ∨ vp_in (pl j) 60) (c : ¬ f_X6_isWhole pl p1 = 0) : ∀ j : Nat, (j : Int) < p1.toInt → vp_in (pl j) 60 := fun j hj =>
  (hpl j).resolve_left ((mw_loop 25 1 0 (by decide) (lp_fuel (by decide) hn) c).2 j (by rw [show (0 : Int32).toInt = 0 by decide]; omega) hj)
/-! X6_isOnEdge -/
theorem hs_X6_isOnEdge : yX6_isOnEdge.cls ≠ "java/lang/invoke/MethodHandle" ∧ yX6_isOnEdge.cls ≠ "java/lang/invoke/VarHandle" ∧ (parseMethodDescriptor yX6_isOnEdge.desc).map (fun d => d.parameters.length) = some 2 := by decide +kernel
theorem hd_X6_isOnEdge : yX6_isOnEdge.cls = RX6 ∧ yX6_isOnEdge.cls ≠ "java/lang/invoke/MethodHandle" ∧ yX6_isOnEdge.cls ≠ "java/lang/invoke/VarHandle" ∧ (parseMethodDescriptor yX6_isOnEdge.desc).map (fun d => d.parameters.length) = some 2 := ⟨rfl, hs_X6_isOnEdge⟩
def f_X6_isOnEdge_L5 (xs : Nat → Int32) (ys : Nat → Int32) (pl : Nat → Int32) (p1 : Int32) (p2 : Int32)  : Nat → Int32 → Int32 → Int32
  | 0, _, _ => 0
  | n + 1, x3_5, x4_5 => (if p1 ≤ x4_5 then x3_5 else (if x3_5 = 0 then (if (f_X6_isOn xs ys (pl (Int32.toNatClampNeg x4_5)) (f_X6_next pl x4_5 p1) p2) = 0 then (f_X6_isOnEdge_L5 xs ys pl p1 p2  n (0 : Int32) (x4_5 + 1)) else (f_X6_isOnEdge_L5 xs ys pl p1 p2  n (1 : Int32) (x4_5 + 1))) else (f_X6_isOnEdge_L5 xs ys pl p1 p2  n (1 : Int32) (x4_5 + 1))))
def f_X6_isOnEdge (xs : Nat → Int32) (ys : Nat → Int32) (pl : Nat → Int32) (p1 : Int32) (p2 : Int32) : Int32 := (f_X6_isOnEdge_L5 xs ys pl p1 p2  25 (0 : Int32) (0 : Int32))
abbrev rm_X6_isOnEdge : Room := { frames := 3, cells := 0, slots := 0, locals := 67 }
set_option maxHeartbeats 8000000 in
set_option maxRecDepth 100000 in
theorem c_X6_isOnEdge (l : Launch) (dC : Nat → ClassId) (dI : Nat → Nat → Nat) (a : Nat → Nat) (cI cJ : ClassId) (xs : Nat → Int32) (ys : Nat → Int32) (pl : Nat → Int32) (lp : Nat → Int64) (lq : Nat → Int64) (lr : Nat → Int64) (v0 : Int32) (v1 : Int32) (v2 : Int32) (v3 : Int32) (v4 : Int32) (v5 : Int32) (v6 : Int32) (v7 : Int32) (p1 : Int32) (p2 : Int32) (hn : p1 ≤ 24) (hv : ∀ j : Nat, (j : Int) < (p1).toInt → vp_in (pl j) 60) (hp : vp_in p2 60) : Met l yX6_isOnEdge (Cond.code yX6_isOnEdge cX6_isOnEdge 5 (some .boolean) :: lw_G) rm_X6_isOnEdge (pPc (dC, dI) (tIJ cI cJ) (wM a cI cJ xs ys pl lp lq lr v0 v1 v2 v3 v4 v5 v6 v7) [.ref (a 0), .int p1, .int p2]) (pQi (f_X6_isOnEdge xs ys pl p1 p2)) 0 0 pNo := by
  refine pm_of (by decide) (Nat.le_of_ble_eq_true rfl) ?_
  intro p e s m args below meth c Q ls hQ hx hb hr hlk hml hown hts hP hK hS hl
  have hown : s.vm.findClass RX6 = some m.cls := hown
  have hl : lv_has ls 5 [(0, .ref (a 0)), (1, .int p1), (2, .int p2)] := hl
  obtain ⟨F, eF⟩ : ∃ F, F = (f_X6_isOnEdge xs ys pl p1 p2) := ⟨_, rfl⟩
  refine lv_iconst (v := (0 : Int32)) hx hb dX6_isOnEdge_0 (by decide) ?_
  refine lv_istore_n (lv' := [(3, .int (0 : Int32)), (0, .ref (a 0)), (1, .int p1), (2, .int p2)]) hx hb dX6_isOnEdge_1 rfl hl (by decide) rfl (fun ls hl => ?_)
  refine lv_iconst (v := (0 : Int32)) hx hb dX6_isOnEdge_2 (by decide) ?_
  refine lv_istore (lv' := [(4, .int (0 : Int32)), (3, .int (0 : Int32)), (0, .ref (a 0)), (1, .int p1), (2, .int p2)]) hx hb dX6_isOnEdge_3 hl (by decide) rfl (fun ls hl => ?_)
  have K5 : ∀ (n5 : Nat) (x3_5 : Int32) (x4_5 : Int32), 0 ≤ x4_5 → ((p1).toInt - x4_5.toInt).toNat < n5 → (x3_5 = 0 ∨ x3_5 = 1) → F = f_X6_isOnEdge_L5 xs ys pl p1 p2  n5 x3_5 x4_5 → ∀ (H : Heap) (locs : List Loc), va_P (dC, dI) vwCl (wM a cI cJ xs ys pl lp lq lr v0 v1 v2 v3 v4 v5 v6 v7) H → va_S pNo s.heap H locs → ∀ (ls : Array Slot), lv_has ls 5 [(0, .ref (a 0)), (1, .int p1), (2, .int p2), (3, .int x3_5), (4, .int x4_5)] → W p l e rm_X6_isOnEdge s m args below meth c H locs 0 0 Q (F0 m 5 ls []) := by
    intro n5
    induction n5 with
    | zero => intro x3_5 x4_5 h0_5 hf_5 gb hF H locs hP hS ls hl; exact absurd hf_5 (Nat.not_lt_zero _)
    | succ n5 ih5 =>
      intro x3_5 x4_5 h0_5 hf_5 gb hF H locs hP hS ls hl
      refine lv_iload hx hb dX6_isOnEdge_5 (lv_at hl 4 rfl) ?_
      refine lv_iload_n hx hb dX6_isOnEdge_7 rfl (lv_at hl 1 rfl) ?_
      refine lv_icmp_ge (tgt := 49) hx hb dX6_isOnEdge_8 (by decide) (fun c1 => ?_) (fun c1 => ?_)
      · skip
        refine lv_iload_n hx hb dX6_isOnEdge_49 rfl (lv_at hl 3 rfl) ?_
        exact rp_z hQ hx hb hr hlk hS (Eq.symm (eF.symm.trans (by rw [hF]; simp only [f_X6_isOnEdge_L5, if_pos c1]))) (nz gb) dX6_isOnEdge_50
      · skip
        have hI : vp_in x4_5 24 := ix_lt h0_5 c1 hn
        have hr1 := hv_at hv h0_5 c1
        have hE := in_next hv h0_5 c1
        refine lv_iload_n hx hb dX6_isOnEdge_11 rfl (lv_at hl 3 rfl) ?_
        refine lv_if_ne (tgt := 37) hx hb dX6_isOnEdge_12 (by decide) (fun c2 => ?_) (fun c2 => ?_)
        · skip
          refine lv_iconst (v := (1 : Int32)) hx hb dX6_isOnEdge_37 (by decide) ?_
          refine lv_goto (tgt := 42) hx hb dX6_isOnEdge_38 (by decide) ?_
          refine lv_istore_n (lv' := [(3, .int (1 : Int32)), (0, .ref (a 0)), (1, .int p1), (2, .int p2), (4, .int x4_5)]) hx hb dX6_isOnEdge_42 rfl hl (by decide) rfl (fun ls hl => ?_)
          refine lv_iinc (v := (x4_5 + 1)) (lv' := [(4, .int (x4_5 + 1)), (3, .int (1 : Int32)), (0, .ref (a 0)), (1, .int p1), (2, .int p2)]) hx hb dX6_isOnEdge_43 hl (k := 4) rfl rfl (by decide) rfl (fun ls hl => ?_)
          refine lv_goto (tgt := 5) hx hb dX6_isOnEdge_46 (by decide) ?_
          exact ih5 (1 : Int32) (x4_5 + 1) (lp_pos h0_5 c1) (lp_dec c1 hf_5) (by first | exact Or.inl rfl | exact Or.inr rfl) (by rw [hF]; simp only [f_X6_isOnEdge_L5, if_neg c1, if_neg c2]) _ _ hP hS ls (lv_sub hl [2, 3, 4, 1, 0] rfl)
        · skip
          refine lv_aload_n hx hb dX6_isOnEdge_15 rfl (lv_at hl 0 rfl) ?_
          refine lv_aload_n hx hb dX6_isOnEdge_16 rfl (lv_at hl 0 rfl) ?_
          refine va_get (D := (dC, dI)) (ci := 10) (v := .ref (a 3)) (C := RX6) (T := TX6) (N := 14) hx hb hts (fun _ h => gI_wsX60 h) hown hK.1 hP 0 rfl rfl 5 (by decide) (hts _ mG_4_10) (fun _ h9 => h9) rfl dX6_isOnEdge_17 ?_
          refine lv_iload hx hb dX6_isOnEdge_20 (lv_at hl 4 rfl) ?_
          refine va_iald hx hb hK.1 hP 3 0 rfl rfl (by first | with_reducible assumption | exact in0_24 | exact in0_60 | decide) dX6_isOnEdge_22 ?_
          refine lv_aload_n hx hb dX6_isOnEdge_23 rfl (lv_at hl 0 rfl) ?_
          refine lv_iload hx hb dX6_isOnEdge_24 (lv_at hl 4 rfl) ?_
          refine lv_iload_n hx hb dX6_isOnEdge_26 rfl (lv_at hl 1 rfl) ?_
          refine cp_i (va_runV (As := [.int x4_5, .int p1]) (rest := [.int (pl (Int32.toNatClampNeg x4_5)), .ref (a 0)]) ⟨hx, hb, hml, hown, hts⟩ (c_X6_next l dC dI a cI cJ xs ys pl lp lq lr v0 v1 v2 v3 v4 v5 v6 v7 x4_5 p1 (by first | with_reducible assumption | exact in0_24 | exact in0_60 | decide) (by first | with_reducible assumption | exact in0_24 | exact in0_60 | decide) (by first | with_reducible assumption | exact in0_24 | exact in0_60 | decide)) (cwV 2 hts (gG_V mG_21_8 mG_21_9 mG_21_10 mG_1_5 (gG_c mG_21_11 gG_G)) rfl rfl rfl hd_X6_next ⟨Nat.le_of_ble_eq_true rfl, Nat.le_of_ble_eq_true rfl⟩) (pPcV (ci := 10) (q0 := 0) hK hP rfl rfl) rfl rfl hl.1 rfl (lv_room (Nat.le_of_ble_eq_true rfl)) dX6_isOnEdge_27 ⟨Nat.le_of_ble_eq_true rfl, Nat.le_of_ble_eq_true rfl⟩) hP hS (fun H hP hS => ?_)
          refine lv_iload_n hx hb dX6_isOnEdge_30 rfl (lv_at hl 2 rfl) ?_
          refine cp_i (va_runV (As := [.int (pl (Int32.toNatClampNeg x4_5)), .int (f_X6_next pl x4_5 p1), .int p2]) (rest := []) ⟨hx, hb, hml, hown, hts⟩ (c_X6_isOn l dC dI a cI cJ xs ys pl lp lq lr v0 v1 v2 v3 v4 v5 v6 v7 (pl (Int32.toNatClampNeg x4_5)) (f_X6_next pl x4_5 p1) p2 (by first | with_reducible assumption | exact in0_24 | exact in0_60 | decide) (by first | with_reducible assumption | exact in0_24 | exact in0_60 | decide) (by first | with_reducible assumption | exact in0_24 | exact in0_60 | decide)) (cwV 3 hts (gG_V mG_16_20 mG_16_21 mG_16_22 mG_1_5 (gG_c mG_16_23 gG_G)) rfl rfl rfl hd_X6_isOn ⟨Nat.le_of_ble_eq_true rfl, Nat.le_of_ble_eq_true rfl⟩) (pPcV (ci := 10) (q0 := 0) hK hP rfl rfl) rfl rfl hl.1 rfl (lv_room (Nat.le_of_ble_eq_true rfl)) dX6_isOnEdge_31 ⟨Nat.le_of_ble_eq_true rfl, Nat.le_of_ble_eq_true rfl⟩) hP hS (fun H hP hS => ?_)
          refine lv_if_eq (tgt := 41) hx hb dX6_isOnEdge_34 (by decide) (fun c3 => ?_) (fun c3 => ?_)
          · skip
            refine lv_iconst (v := (0 : Int32)) hx hb dX6_isOnEdge_41 (by decide) ?_
            refine lv_istore_n (lv' := [(3, .int (0 : Int32)), (0, .ref (a 0)), (1, .int p1), (2, .int p2), (4, .int x4_5)]) hx hb dX6_isOnEdge_42 rfl hl (by decide) rfl (fun ls hl => ?_)
            refine lv_iinc (v := (x4_5 + 1)) (lv' := [(4, .int (x4_5 + 1)), (3, .int (0 : Int32)), (0, .ref (a 0)), (1, .int p1), (2, .int p2)]) hx hb dX6_isOnEdge_43 hl (k := 4) rfl rfl (by decide) rfl (fun ls hl => ?_)
            refine lv_goto (tgt := 5) hx hb dX6_isOnEdge_46 (by decide) ?_
            exact ih5 (0 : Int32) (x4_5 + 1) (lp_pos h0_5 c1) (lp_dec c1 hf_5) (by first | exact Or.inl rfl | exact Or.inr rfl) (by rw [hF]; simp only [f_X6_isOnEdge_L5, if_neg c1, if_pos c2, if_pos c3]) _ _ hP hS ls (lv_sub hl [2, 3, 4, 1, 0] rfl)
          · skip
            refine lv_iconst (v := (1 : Int32)) hx hb dX6_isOnEdge_37 (by decide) ?_
            refine lv_goto (tgt := 42) hx hb dX6_isOnEdge_38 (by decide) ?_
            refine lv_istore_n (lv' := [(3, .int (1 : Int32)), (0, .ref (a 0)), (1, .int p1), (2, .int p2), (4, .int x4_5)]) hx hb dX6_isOnEdge_42 rfl hl (by decide) rfl (fun ls hl => ?_)
            refine lv_iinc (v := (x4_5 + 1)) (lv' := [(4, .int (x4_5 + 1)), (3, .int (1 : Int32)), (0, .ref (a 0)), (1, .int p1), (2, .int p2)]) hx hb dX6_isOnEdge_43 hl (k := 4) rfl rfl (by decide) rfl (fun ls hl => ?_)
            refine lv_goto (tgt := 5) hx hb dX6_isOnEdge_46 (by decide) ?_
            exact ih5 (1 : Int32) (x4_5 + 1) (lp_pos h0_5 c1) (lp_dec c1 hf_5) (by first | exact Or.inl rfl | exact Or.inr rfl) (by rw [hF]; simp only [f_X6_isOnEdge_L5, if_neg c1, if_pos c2, if_neg c3]) _ _ hP hS ls (lv_sub hl [2, 3, 4, 1, 0] rfl)
  exact K5 25 (0 : Int32) (0 : Int32) (by decide) (lp_fuel (by decide) hn) (Or.inl rfl) (by rw [eF]; simp only [f_X6_isOnEdge]) _ _ hP hS ls (lv_sub hl [2, 3, 4, 1, 0] rfl)
/-! X6_rises -/
theorem hs_X6_rises : yX6_rises.cls ≠ "java/lang/invoke/MethodHandle" ∧ yX6_rises.cls ≠ "java/lang/invoke/VarHandle" ∧ (parseMethodDescriptor yX6_rises.desc).map (fun d => d.parameters.length) = some 3 := by decide +kernel
theorem hd_X6_rises : yX6_rises.cls = RX6 ∧ yX6_rises.cls ≠ "java/lang/invoke/MethodHandle" ∧ yX6_rises.cls ≠ "java/lang/invoke/VarHandle" ∧ (parseMethodDescriptor yX6_rises.desc).map (fun d => d.parameters.length) = some 3 := ⟨rfl, hs_X6_rises⟩
def f_X6_rises (xs : Nat → Int32) (ys : Nat → Int32) (pl : Nat → Int32) (p1 : Int32) (p2 : Int32) (p3 : Int32) : Int32 := (if (ys (Int32.toNatClampNeg p3)) < (ys (Int32.toNatClampNeg (pl (Int32.toNatClampNeg p1)))) then (if (ys (Int32.toNatClampNeg p3)) < (ys (Int32.toNatClampNeg (f_X6_next pl p1 p2))) then (0 : Int32) else (if (ys (Int32.toNatClampNeg (pl (Int32.toNatClampNeg p1)))) ≤ (ys (Int32.toNatClampNeg p3)) then (0 : Int32) else (if (f_X6_turn xs ys (pl (Int32.toNatClampNeg p1)) (f_X6_next pl p1 p2) p3) = (-1 : Int32) then (-1 : Int32) else (0 : Int32)))) else (if (ys (Int32.toNatClampNeg (f_X6_next pl p1 p2))) ≤ (ys (Int32.toNatClampNeg p3)) then (if (ys (Int32.toNatClampNeg p3)) < (ys (Int32.toNatClampNeg (f_X6_next pl p1 p2))) then (0 : Int32) else (if (ys (Int32.toNatClampNeg (pl (Int32.toNatClampNeg p1)))) ≤ (ys (Int32.toNatClampNeg p3)) then (0 : Int32) else (if (f_X6_turn xs ys (pl (Int32.toNatClampNeg p1)) (f_X6_next pl p1 p2) p3) = (-1 : Int32) then (-1 : Int32) else (0 : Int32)))) else (if (ys (Int32.toNatClampNeg p3)) < (ys (Int32.toNatClampNeg (f_X6_next pl p1 p2))) then (if (f_X6_turn xs ys (pl (Int32.toNatClampNeg p1)) (f_X6_next pl p1 p2) p3) = (1 : Int32) then (1 : Int32) else (0 : Int32)) else (if (ys (Int32.toNatClampNeg (pl (Int32.toNatClampNeg p1)))) ≤ (ys (Int32.toNatClampNeg p3)) then (if (f_X6_turn xs ys (pl (Int32.toNatClampNeg p1)) (f_X6_next pl p1 p2) p3) = (1 : Int32) then (1 : Int32) else (0 : Int32)) else (if (f_X6_turn xs ys (pl (Int32.toNatClampNeg p1)) (f_X6_next pl p1 p2) p3) = (1 : Int32) then (1 : Int32) else (if (f_X6_turn xs ys (pl (Int32.toNatClampNeg p1)) (f_X6_next pl p1 p2) p3) = (-1 : Int32) then (-1 : Int32) else (0 : Int32)))))))
abbrev rm_X6_rises : Room := { frames := 2, cells := 0, slots := 0, locals := 44 }
set_option maxHeartbeats 8000000 in
set_option maxRecDepth 100000 in
theorem c_X6_rises (l : Launch) (dC : Nat → ClassId) (dI : Nat → Nat → Nat) (a : Nat → Nat) (cI cJ : ClassId) (xs : Nat → Int32) (ys : Nat → Int32) (pl : Nat → Int32) (lp : Nat → Int64) (lq : Nat → Int64) (lr : Nat → Int64) (v0 : Int32) (v1 : Int32) (v2 : Int32) (v3 : Int32) (v4 : Int32) (v5 : Int32) (v6 : Int32) (v7 : Int32) (p1 : Int32) (p2 : Int32) (p3 : Int32) (he : 0 ≤ p1) (hlt : ¬ p2 ≤ p1) (hn : p2 ≤ 24) (hv : ∀ j : Nat, (j : Int) < (p2).toInt → vp_in (pl j) 60) (hp : vp_in p3 60) : Met l yX6_rises (Cond.code yX6_rises cX6_rises 8 (some .int) :: lw_G) rm_X6_rises (pPc (dC, dI) (tIJ cI cJ) (wM a cI cJ xs ys pl lp lq lr v0 v1 v2 v3 v4 v5 v6 v7) [.ref (a 0), .int p1, .int p2, .int p3]) (pQi (f_X6_rises xs ys pl p1 p2 p3)) 0 0 pNo := by
  refine pm_of (by decide) (Nat.le_of_ble_eq_true rfl) ?_
  intro p e s m args below meth c Q ls hQ hx hb hr hlk hml hown hts hP hK hS hl
  have hown : s.vm.findClass RX6 = some m.cls := hown
  have hl : lv_has ls 8 [(0, .ref (a 0)), (1, .int p1), (2, .int p2), (3, .int p3)] := hl
  have hI : vp_in p1 24 := ix_lt he hlt hn
  refine lv_aload_n hx hb dX6_rises_0 rfl (lv_at hl 0 rfl) ?_
  refine va_get (D := (dC, dI)) (ci := 10) (v := .ref (a 3)) (C := RX6) (T := TX6) (N := 14) hx hb hts (fun _ h => gI_wsX60 h) hown hK.1 hP 0 rfl rfl 5 (by decide) (hts _ mG_4_10) (fun _ h9 => h9) rfl dX6_rises_1 ?_
  refine lv_iload_n hx hb dX6_rises_4 rfl (lv_at hl 1 rfl) ?_
  refine va_iald hx hb hK.1 hP 3 0 rfl rfl (by first | with_reducible assumption | exact in0_24 | exact in0_60 | decide) dX6_rises_5 ?_
  refine lv_topi (fun y1 ey1 => ?_)
  refine lv_istore (lv' := [(4, .int y1), (0, .ref (a 0)), (1, .int p1), (2, .int p2), (3, .int p3)]) hx hb dX6_rises_6 hl (by decide) rfl (fun ls hl => ?_)
  refine lv_aload_n hx hb dX6_rises_8 rfl (lv_at hl 1 rfl) ?_
  refine lv_iload_n hx hb dX6_rises_9 rfl (lv_at hl 2 rfl) ?_
  refine lv_iload_n hx hb dX6_rises_10 rfl (lv_at hl 3 rfl) ?_
  refine cp_i (va_runV (As := [.int p1, .int p2]) (rest := []) ⟨hx, hb, hml, hown, hts⟩ (c_X6_next l dC dI a cI cJ xs ys pl lp lq lr v0 v1 v2 v3 v4 v5 v6 v7 p1 p2 (by first | with_reducible assumption | exact in0_24 | exact in0_60 | decide) (by first | with_reducible assumption | exact in0_24 | exact in0_60 | decide) (by first | with_reducible assumption | exact in0_24 | exact in0_60 | decide)) (cwV 2 hts (gG_V mG_21_8 mG_21_9 mG_21_10 mG_1_5 (gG_c mG_21_11 gG_G)) rfl rfl rfl hd_X6_next ⟨Nat.le_of_ble_eq_true rfl, Nat.le_of_ble_eq_true rfl⟩) (pPcV (ci := 10) (q0 := 0) hK hP rfl rfl) rfl rfl hl.1 rfl (lv_room (Nat.le_of_ble_eq_true rfl)) dX6_rises_11 ⟨Nat.le_of_ble_eq_true rfl, Nat.le_of_ble_eq_true rfl⟩) hP hS (fun H hP hS => ?_)
  refine lv_topi (fun y2 ey2 => ?_)
  refine lv_istore (lv' := [(5, .int y2), (4, .int y1), (0, .ref (a 0)), (1, .int p1), (2, .int p2), (3, .int p3)]) hx hb dX6_rises_14 hl (by decide) rfl (fun ls hl => ?_)
  have hy4 : vp_in y1 60 := by rw [ey1]; exact hv_at hv he hlt
  have hy5 : vp_in y2 60 := by rw [ey2]; exact in_next hv he hlt
  refine lv_aload_n hx hb dX6_rises_16 rfl (lv_at hl 2 rfl) ?_
  refine va_get (D := (dC, dI)) (ci := 10) (v := .ref (a 2)) (C := RX6) (T := TX6) (N := 14) hx hb hts (fun _ h => gI_wsX60 h) hown hK.1 hP 0 rfl rfl 3 (by decide) (hts _ mG_4_9) (fun _ h9 => h9) rfl dX6_rises_17 ?_
  refine lv_iload hx hb dX6_rises_20 (lv_at hl 1 rfl) ?_
  refine va_iald hx hb hK.1 hP 2 0 rfl rfl (by first | with_reducible assumption | exact in0_24 | exact in0_60 | decide) dX6_rises_22 ?_
  refine lv_aload_n hx hb dX6_rises_23 rfl (lv_at hl 2 rfl) ?_
  refine va_get (D := (dC, dI)) (ci := 10) (v := .ref (a 2)) (C := RX6) (T := TX6) (N := 14) hx hb hts (fun _ h => gI_wsX60 h) hown hK.1 hP 0 rfl rfl 3 (by decide) (hts _ mG_4_9) (fun _ h9 => h9) rfl dX6_rises_24 ?_
  refine lv_iload_n hx hb dX6_rises_27 rfl (lv_at hl 5 rfl) ?_
  refine va_iald hx hb hK.1 hP 2 0 rfl rfl (by first | with_reducible assumption | exact in0_24 | exact in0_60 | decide) dX6_rises_28 ?_
  refine lv_icmp_gt (tgt := 52) hx hb dX6_rises_29 (by decide) (fun c3 => ?_) (fun c3 => ?_)
  · skip
    refine lv_iconst (v := (0 : Int32)) hx hb dX6_rises_52 (by decide) ?_
    refine lv_istore (lv' := [(6, .int (0 : Int32)), (5, .int y2), (4, .int y1), (0, .ref (a 0)), (1, .int p1), (2, .int p2), (3, .int p3)]) hx hb dX6_rises_53 hl (by decide) rfl (fun ls hl => ?_)
    refine lv_aload_n hx hb dX6_rises_55 rfl (lv_at hl 3 rfl) ?_
    refine va_get (D := (dC, dI)) (ci := 10) (v := .ref (a 2)) (C := RX6) (T := TX6) (N := 14) hx hb hts (fun _ h => gI_wsX60 h) hown hK.1 hP 0 rfl rfl 3 (by decide) (hts _ mG_4_9) (fun _ h9 => h9) rfl dX6_rises_56 ?_
    refine lv_iload hx hb dX6_rises_59 (lv_at hl 1 rfl) ?_
    refine va_iald hx hb hK.1 hP 2 0 rfl rfl (by first | with_reducible assumption | exact in0_24 | exact in0_60 | decide) dX6_rises_61 ?_
    refine lv_aload_n hx hb dX6_rises_62 rfl (lv_at hl 3 rfl) ?_
    refine va_get (D := (dC, dI)) (ci := 10) (v := .ref (a 2)) (C := RX6) (T := TX6) (N := 14) hx hb hts (fun _ h => gI_wsX60 h) hown hK.1 hP 0 rfl rfl 3 (by decide) (hts _ mG_4_9) (fun _ h9 => h9) rfl dX6_rises_63 ?_
    refine lv_iload_n hx hb dX6_rises_66 rfl (lv_at hl 6 rfl) ?_
    refine va_iald hx hb hK.1 hP 2 0 rfl rfl (by first | with_reducible assumption | exact in0_24 | exact in0_60 | decide) dX6_rises_67 ?_
    refine lv_icmp_gt (tgt := 91) hx hb dX6_rises_68 (by decide) (fun c4 => ?_) (fun c4 => ?_)
    · skip
      refine lv_iconst (v := (0 : Int32)) hx hb dX6_rises_91 (by decide) ?_
      refine lv_istore (lv' := [(7, .int (0 : Int32)), (6, .int (0 : Int32)), (5, .int y2), (4, .int y1), (0, .ref (a 0)), (1, .int p1), (2, .int p2), (3, .int p3)]) hx hb dX6_rises_92 hl (by decide) rfl (fun ls hl => ?_)
      refine lv_iload hx hb dX6_rises_94 (lv_at hl 1 rfl) ?_
      refine lv_if_eq (tgt := 116) hx hb dX6_rises_96 (by decide) (fun _ => ?_) (fun c9 => absurd c9 (by decide))
      refine lv_iload hx hb dX6_rises_116 (lv_at hl 0 rfl) ?_
      refine lv_if_eq (tgt := 138) hx hb dX6_rises_118 (by decide) (fun _ => ?_) (fun c9 => absurd c9 (by decide))
      refine lv_iconst (v := (0 : Int32)) hx hb dX6_rises_138 (by decide) ?_
      exact rp_i hQ hx hb hr hlk hS (Eq.symm (by subst ey1; subst ey2; simp only [f_X6_rises, if_pos c3, if_pos c4])) dX6_rises_139
    · skip
      refine lv_aload_n hx hb dX6_rises_71 rfl (lv_at hl 3 rfl) ?_
      refine va_get (D := (dC, dI)) (ci := 10) (v := .ref (a 2)) (C := RX6) (T := TX6) (N := 14) hx hb hts (fun _ h => gI_wsX60 h) hown hK.1 hP 0 rfl rfl 3 (by decide) (hts _ mG_4_9) (fun _ h9 => h9) rfl dX6_rises_72 ?_
      refine lv_iload hx hb dX6_rises_75 (lv_at hl 2 rfl) ?_
      refine va_iald hx hb hK.1 hP 2 0 rfl rfl (by first | with_reducible assumption | exact in0_24 | exact in0_60 | decide) dX6_rises_77 ?_
      refine lv_aload_n hx hb dX6_rises_78 rfl (lv_at hl 3 rfl) ?_
      refine va_get (D := (dC, dI)) (ci := 10) (v := .ref (a 2)) (C := RX6) (T := TX6) (N := 14) hx hb hts (fun _ h => gI_wsX60 h) hown hK.1 hP 0 rfl rfl 3 (by decide) (hts _ mG_4_9) (fun _ h9 => h9) rfl dX6_rises_79 ?_
      refine lv_iload_n hx hb dX6_rises_82 rfl (lv_at hl 6 rfl) ?_
      refine va_iald hx hb hK.1 hP 2 0 rfl rfl (by first | with_reducible assumption | exact in0_24 | exact in0_60 | decide) dX6_rises_83 ?_
      refine lv_icmp_le (tgt := 91) hx hb dX6_rises_84 (by decide) (fun c5 => ?_) (fun c5 => ?_)
      · skip
        refine lv_iconst (v := (0 : Int32)) hx hb dX6_rises_91 (by decide) ?_
        refine lv_istore (lv' := [(7, .int (0 : Int32)), (6, .int (0 : Int32)), (5, .int y2), (4, .int y1), (0, .ref (a 0)), (1, .int p1), (2, .int p2), (3, .int p3)]) hx hb dX6_rises_92 hl (by decide) rfl (fun ls hl => ?_)
        refine lv_iload hx hb dX6_rises_94 (lv_at hl 1 rfl) ?_
        refine lv_if_eq (tgt := 116) hx hb dX6_rises_96 (by decide) (fun _ => ?_) (fun c9 => absurd c9 (by decide))
        refine lv_iload hx hb dX6_rises_116 (lv_at hl 0 rfl) ?_
        refine lv_if_eq (tgt := 138) hx hb dX6_rises_118 (by decide) (fun _ => ?_) (fun c9 => absurd c9 (by decide))
        refine lv_iconst (v := (0 : Int32)) hx hb dX6_rises_138 (by decide) ?_
        exact rp_i hQ hx hb hr hlk hS (Eq.symm (by subst ey1; subst ey2; simp only [f_X6_rises, if_pos c3, if_neg c4, if_pos c5])) dX6_rises_139
      · skip
        refine lv_iconst (v := (1 : Int32)) hx hb dX6_rises_87 (by decide) ?_
        refine lv_goto (tgt := 92) hx hb dX6_rises_88 (by decide) ?_
        refine lv_istore (lv' := [(7, .int (1 : Int32)), (6, .int (0 : Int32)), (5, .int y2), (4, .int y1), (0, .ref (a 0)), (1, .int p1), (2, .int p2), (3, .int p3)]) hx hb dX6_rises_92 hl (by decide) rfl (fun ls hl => ?_)
        refine lv_iload hx hb dX6_rises_94 (lv_at hl 1 rfl) ?_
        refine lv_if_eq (tgt := 116) hx hb dX6_rises_96 (by decide) (fun _ => ?_) (fun c9 => absurd c9 (by decide))
        refine lv_iload hx hb dX6_rises_116 (lv_at hl 0 rfl) ?_
        refine lv_if_eq (tgt := 138) hx hb dX6_rises_118 (by decide) (fun c9 => absurd c9 (by decide)) (fun _ => ?_)
        refine lv_aload_n hx hb dX6_rises_121 rfl (lv_at hl 4 rfl) ?_
        refine lv_iload hx hb dX6_rises_122 (lv_at hl 3 rfl) ?_
        refine lv_iload hx hb dX6_rises_124 (lv_at hl 2 rfl) ?_
        refine lv_iload_n hx hb dX6_rises_126 rfl (lv_at hl 7 rfl) ?_
        refine cp_i (va_runV (As := [.int y1, .int y2, .int p3]) (rest := []) ⟨hx, hb, hml, hown, hts⟩ (c_X6_turn l dC dI a cI cJ xs ys pl lp lq lr v0 v1 v2 v3 v4 v5 v6 v7 y1 y2 p3 (by first | with_reducible assumption | exact in0_24 | exact in0_60 | decide) (by first | with_reducible assumption | exact in0_24 | exact in0_60 | decide) (by first | with_reducible assumption | exact in0_24 | exact in0_60 | decide)) (cwV 3 hts (gG_V mG_13_4 mG_13_5 mG_13_6 mG_1_5 (gG_c mG_13_7 gG_G)) rfl rfl rfl hd_X6_turn ⟨Nat.le_of_ble_eq_true rfl, Nat.le_of_ble_eq_true rfl⟩) (pPcV (ci := 10) (q0 := 0) hK hP rfl rfl) rfl rfl hl.1 rfl (lv_room (Nat.le_of_ble_eq_true rfl)) dX6_rises_127 ⟨Nat.le_of_ble_eq_true rfl, Nat.le_of_ble_eq_true rfl⟩) hP hS (fun H hP hS => ?_)
        refine lv_iconst (v := (-1 : Int32)) hx hb dX6_rises_130 (by decide) ?_
        refine lv_icmp_ne (tgt := 138) hx hb dX6_rises_131 (by decide) (fun c6 => ?_) (fun c6 => ?_)
        · skip
          refine lv_iconst (v := (0 : Int32)) hx hb dX6_rises_138 (by decide) ?_
          exact rp_i hQ hx hb hr hlk hS (Eq.symm (by subst ey1; subst ey2; simp only [f_X6_rises, if_pos c3, if_neg c4, if_neg c5, if_neg c6])) dX6_rises_139
        · skip
          refine lv_iconst (v := (-1 : Int32)) hx hb dX6_rises_134 (by decide) ?_
          refine lv_goto (tgt := 139) hx hb dX6_rises_135 (by decide) ?_
          exact rp_i hQ hx hb hr hlk hS (Eq.symm (by subst ey1; subst ey2; simp only [f_X6_rises, if_pos c3, if_neg c4, if_neg c5, if_pos c6])) dX6_rises_139
  · skip
    refine lv_aload_n hx hb dX6_rises_32 rfl (lv_at hl 2 rfl) ?_
    refine va_get (D := (dC, dI)) (ci := 10) (v := .ref (a 2)) (C := RX6) (T := TX6) (N := 14) hx hb hts (fun _ h => gI_wsX60 h) hown hK.1 hP 0 rfl rfl 3 (by decide) (hts _ mG_4_9) (fun _ h9 => h9) rfl dX6_rises_33 ?_
    refine lv_iload hx hb dX6_rises_36 (lv_at hl 0 rfl) ?_
    refine va_iald hx hb hK.1 hP 2 0 rfl rfl (by first | with_reducible assumption | exact in0_24 | exact in0_60 | decide) dX6_rises_38 ?_
    refine lv_aload_n hx hb dX6_rises_39 rfl (lv_at hl 2 rfl) ?_
    refine va_get (D := (dC, dI)) (ci := 10) (v := .ref (a 2)) (C := RX6) (T := TX6) (N := 14) hx hb hts (fun _ h => gI_wsX60 h) hown hK.1 hP 0 rfl rfl 3 (by decide) (hts _ mG_4_9) (fun _ h9 => h9) rfl dX6_rises_40 ?_
    refine lv_iload_n hx hb dX6_rises_43 rfl (lv_at hl 5 rfl) ?_
    refine va_iald hx hb hK.1 hP 2 0 rfl rfl (by first | with_reducible assumption | exact in0_24 | exact in0_60 | decide) dX6_rises_44 ?_
    refine lv_icmp_le (tgt := 52) hx hb dX6_rises_45 (by decide) (fun c7 => ?_) (fun c7 => ?_)
    · skip
      refine lv_iconst (v := (0 : Int32)) hx hb dX6_rises_52 (by decide) ?_
      refine lv_istore (lv' := [(6, .int (0 : Int32)), (5, .int y2), (4, .int y1), (0, .ref (a 0)), (1, .int p1), (2, .int p2), (3, .int p3)]) hx hb dX6_rises_53 hl (by decide) rfl (fun ls hl => ?_)
      refine lv_aload_n hx hb dX6_rises_55 rfl (lv_at hl 3 rfl) ?_
      refine va_get (D := (dC, dI)) (ci := 10) (v := .ref (a 2)) (C := RX6) (T := TX6) (N := 14) hx hb hts (fun _ h => gI_wsX60 h) hown hK.1 hP 0 rfl rfl 3 (by decide) (hts _ mG_4_9) (fun _ h9 => h9) rfl dX6_rises_56 ?_
      refine lv_iload hx hb dX6_rises_59 (lv_at hl 1 rfl) ?_
      refine va_iald hx hb hK.1 hP 2 0 rfl rfl (by first | with_reducible assumption | exact in0_24 | exact in0_60 | decide) dX6_rises_61 ?_
      refine lv_aload_n hx hb dX6_rises_62 rfl (lv_at hl 3 rfl) ?_
      refine va_get (D := (dC, dI)) (ci := 10) (v := .ref (a 2)) (C := RX6) (T := TX6) (N := 14) hx hb hts (fun _ h => gI_wsX60 h) hown hK.1 hP 0 rfl rfl 3 (by decide) (hts _ mG_4_9) (fun _ h9 => h9) rfl dX6_rises_63 ?_
      refine lv_iload_n hx hb dX6_rises_66 rfl (lv_at hl 6 rfl) ?_
      refine va_iald hx hb hK.1 hP 2 0 rfl rfl (by first | with_reducible assumption | exact in0_24 | exact in0_60 | decide) dX6_rises_67 ?_
      refine lv_icmp_gt (tgt := 91) hx hb dX6_rises_68 (by decide) (fun c8 => ?_) (fun c8 => ?_)
      · skip
        refine lv_iconst (v := (0 : Int32)) hx hb dX6_rises_91 (by decide) ?_
        refine lv_istore (lv' := [(7, .int (0 : Int32)), (6, .int (0 : Int32)), (5, .int y2), (4, .int y1), (0, .ref (a 0)), (1, .int p1), (2, .int p2), (3, .int p3)]) hx hb dX6_rises_92 hl (by decide) rfl (fun ls hl => ?_)
        refine lv_iload hx hb dX6_rises_94 (lv_at hl 1 rfl) ?_
        refine lv_if_eq (tgt := 116) hx hb dX6_rises_96 (by decide) (fun _ => ?_) (fun c9 => absurd c9 (by decide))
        refine lv_iload hx hb dX6_rises_116 (lv_at hl 0 rfl) ?_
        refine lv_if_eq (tgt := 138) hx hb dX6_rises_118 (by decide) (fun _ => ?_) (fun c9 => absurd c9 (by decide))
        refine lv_iconst (v := (0 : Int32)) hx hb dX6_rises_138 (by decide) ?_
        exact rp_i hQ hx hb hr hlk hS (Eq.symm (by subst ey1; subst ey2; simp only [f_X6_rises, if_neg c3, if_pos c7, if_pos c8])) dX6_rises_139
      · skip
        refine lv_aload_n hx hb dX6_rises_71 rfl (lv_at hl 3 rfl) ?_
        refine va_get (D := (dC, dI)) (ci := 10) (v := .ref (a 2)) (C := RX6) (T := TX6) (N := 14) hx hb hts (fun _ h => gI_wsX60 h) hown hK.1 hP 0 rfl rfl 3 (by decide) (hts _ mG_4_9) (fun _ h9 => h9) rfl dX6_rises_72 ?_
        refine lv_iload hx hb dX6_rises_75 (lv_at hl 2 rfl) ?_
        refine va_iald hx hb hK.1 hP 2 0 rfl rfl (by first | with_reducible assumption | exact in0_24 | exact in0_60 | decide) dX6_rises_77 ?_
        refine lv_aload_n hx hb dX6_rises_78 rfl (lv_at hl 3 rfl) ?_
        refine va_get (D := (dC, dI)) (ci := 10) (v := .ref (a 2)) (C := RX6) (T := TX6) (N := 14) hx hb hts (fun _ h => gI_wsX60 h) hown hK.1 hP 0 rfl rfl 3 (by decide) (hts _ mG_4_9) (fun _ h9 => h9) rfl dX6_rises_79 ?_
        refine lv_iload_n hx hb dX6_rises_82 rfl (lv_at hl 6 rfl) ?_
        refine va_iald hx hb hK.1 hP 2 0 rfl rfl (by first | with_reducible assumption | exact in0_24 | exact in0_60 | decide) dX6_rises_83 ?_
        refine lv_icmp_le (tgt := 91) hx hb dX6_rises_84 (by decide) (fun c9 => ?_) (fun c9 => ?_)
        · skip
          refine lv_iconst (v := (0 : Int32)) hx hb dX6_rises_91 (by decide) ?_
          refine lv_istore (lv' := [(7, .int (0 : Int32)), (6, .int (0 : Int32)), (5, .int y2), (4, .int y1), (0, .ref (a 0)), (1, .int p1), (2, .int p2), (3, .int p3)]) hx hb dX6_rises_92 hl (by decide) rfl (fun ls hl => ?_)
          refine lv_iload hx hb dX6_rises_94 (lv_at hl 1 rfl) ?_
          refine lv_if_eq (tgt := 116) hx hb dX6_rises_96 (by decide) (fun _ => ?_) (fun c9 => absurd c9 (by decide))
          refine lv_iload hx hb dX6_rises_116 (lv_at hl 0 rfl) ?_
          refine lv_if_eq (tgt := 138) hx hb dX6_rises_118 (by decide) (fun _ => ?_) (fun c9 => absurd c9 (by decide))
          refine lv_iconst (v := (0 : Int32)) hx hb dX6_rises_138 (by decide) ?_
          exact rp_i hQ hx hb hr hlk hS (Eq.symm (by subst ey1; subst ey2; simp only [f_X6_rises, if_neg c3, if_pos c7, if_neg c8, if_pos c9])) dX6_rises_139
        · skip
          refine lv_iconst (v := (1 : Int32)) hx hb dX6_rises_87 (by decide) ?_
          refine lv_goto (tgt := 92) hx hb dX6_rises_88 (by decide) ?_
          refine lv_istore (lv' := [(7, .int (1 : Int32)), (6, .int (0 : Int32)), (5, .int y2), (4, .int y1), (0, .ref (a 0)), (1, .int p1), (2, .int p2), (3, .int p3)]) hx hb dX6_rises_92 hl (by decide) rfl (fun ls hl => ?_)
          refine lv_iload hx hb dX6_rises_94 (lv_at hl 1 rfl) ?_
          refine lv_if_eq (tgt := 116) hx hb dX6_rises_96 (by decide) (fun _ => ?_) (fun c9 => absurd c9 (by decide))
          refine lv_iload hx hb dX6_rises_116 (lv_at hl 0 rfl) ?_
          refine lv_if_eq (tgt := 138) hx hb dX6_rises_118 (by decide) (fun c9 => absurd c9 (by decide)) (fun _ => ?_)
          refine lv_aload_n hx hb dX6_rises_121 rfl (lv_at hl 4 rfl) ?_
          refine lv_iload hx hb dX6_rises_122 (lv_at hl 3 rfl) ?_
          refine lv_iload hx hb dX6_rises_124 (lv_at hl 2 rfl) ?_
          refine lv_iload_n hx hb dX6_rises_126 rfl (lv_at hl 7 rfl) ?_
          refine cp_i (va_runV (As := [.int y1, .int y2, .int p3]) (rest := []) ⟨hx, hb, hml, hown, hts⟩ (c_X6_turn l dC dI a cI cJ xs ys pl lp lq lr v0 v1 v2 v3 v4 v5 v6 v7 y1 y2 p3 (by first | with_reducible assumption | exact in0_24 | exact in0_60 | decide) (by first | with_reducible assumption | exact in0_24 | exact in0_60 | decide) (by first | with_reducible assumption | exact in0_24 | exact in0_60 | decide)) (cwV 3 hts (gG_V mG_13_4 mG_13_5 mG_13_6 mG_1_5 (gG_c mG_13_7 gG_G)) rfl rfl rfl hd_X6_turn ⟨Nat.le_of_ble_eq_true rfl, Nat.le_of_ble_eq_true rfl⟩) (pPcV (ci := 10) (q0 := 0) hK hP rfl rfl) rfl rfl hl.1 rfl (lv_room (Nat.le_of_ble_eq_true rfl)) dX6_rises_127 ⟨Nat.le_of_ble_eq_true rfl, Nat.le_of_ble_eq_true rfl⟩) hP hS (fun H hP hS => ?_)
          refine lv_iconst (v := (-1 : Int32)) hx hb dX6_rises_130 (by decide) ?_
          refine lv_icmp_ne (tgt := 138) hx hb dX6_rises_131 (by decide) (fun c10 => ?_) (fun c10 => ?_)
          · skip
            refine lv_iconst (v := (0 : Int32)) hx hb dX6_rises_138 (by decide) ?_
            exact rp_i hQ hx hb hr hlk hS (Eq.symm (by subst ey1; subst ey2; simp only [f_X6_rises, if_neg c3, if_pos c7, if_neg c8, if_neg c9, if_neg c10])) dX6_rises_139
          · skip
            refine lv_iconst (v := (-1 : Int32)) hx hb dX6_rises_134 (by decide) ?_
            refine lv_goto (tgt := 139) hx hb dX6_rises_135 (by decide) ?_
            exact rp_i hQ hx hb hr hlk hS (Eq.symm (by subst ey1; subst ey2; simp only [f_X6_rises, if_neg c3, if_pos c7, if_neg c8, if_neg c9, if_pos c10])) dX6_rises_139
    · skip
      refine lv_iconst (v := (1 : Int32)) hx hb dX6_rises_48 (by decide) ?_
      refine lv_goto (tgt := 53) hx hb dX6_rises_49 (by decide) ?_
      refine lv_istore (lv' := [(6, .int (1 : Int32)), (5, .int y2), (4, .int y1), (0, .ref (a 0)), (1, .int p1), (2, .int p2), (3, .int p3)]) hx hb dX6_rises_53 hl (by decide) rfl (fun ls hl => ?_)
      refine lv_aload_n hx hb dX6_rises_55 rfl (lv_at hl 3 rfl) ?_
      refine va_get (D := (dC, dI)) (ci := 10) (v := .ref (a 2)) (C := RX6) (T := TX6) (N := 14) hx hb hts (fun _ h => gI_wsX60 h) hown hK.1 hP 0 rfl rfl 3 (by decide) (hts _ mG_4_9) (fun _ h9 => h9) rfl dX6_rises_56 ?_
      refine lv_iload hx hb dX6_rises_59 (lv_at hl 1 rfl) ?_
      refine va_iald hx hb hK.1 hP 2 0 rfl rfl (by first | with_reducible assumption | exact in0_24 | exact in0_60 | decide) dX6_rises_61 ?_
      refine lv_aload_n hx hb dX6_rises_62 rfl (lv_at hl 3 rfl) ?_
      refine va_get (D := (dC, dI)) (ci := 10) (v := .ref (a 2)) (C := RX6) (T := TX6) (N := 14) hx hb hts (fun _ h => gI_wsX60 h) hown hK.1 hP 0 rfl rfl 3 (by decide) (hts _ mG_4_9) (fun _ h9 => h9) rfl dX6_rises_63 ?_
      refine lv_iload_n hx hb dX6_rises_66 rfl (lv_at hl 6 rfl) ?_
      refine va_iald hx hb hK.1 hP 2 0 rfl rfl (by first | with_reducible assumption | exact in0_24 | exact in0_60 | decide) dX6_rises_67 ?_
      refine lv_icmp_gt (tgt := 91) hx hb dX6_rises_68 (by decide) (fun c11 => ?_) (fun c11 => ?_)
      · skip
        refine lv_iconst (v := (0 : Int32)) hx hb dX6_rises_91 (by decide) ?_
        refine lv_istore (lv' := [(7, .int (0 : Int32)), (6, .int (1 : Int32)), (5, .int y2), (4, .int y1), (0, .ref (a 0)), (1, .int p1), (2, .int p2), (3, .int p3)]) hx hb dX6_rises_92 hl (by decide) rfl (fun ls hl => ?_)
        refine lv_iload hx hb dX6_rises_94 (lv_at hl 1 rfl) ?_
        refine lv_if_eq (tgt := 116) hx hb dX6_rises_96 (by decide) (fun c9 => absurd c9 (by decide)) (fun _ => ?_)
        refine lv_aload_n hx hb dX6_rises_99 rfl (lv_at hl 4 rfl) ?_
        refine lv_iload hx hb dX6_rises_100 (lv_at hl 3 rfl) ?_
        refine lv_iload hx hb dX6_rises_102 (lv_at hl 2 rfl) ?_
        refine lv_iload_n hx hb dX6_rises_104 rfl (lv_at hl 7 rfl) ?_
        refine cp_i (va_runV (As := [.int y1, .int y2, .int p3]) (rest := []) ⟨hx, hb, hml, hown, hts⟩ (c_X6_turn l dC dI a cI cJ xs ys pl lp lq lr v0 v1 v2 v3 v4 v5 v6 v7 y1 y2 p3 (by first | with_reducible assumption | exact in0_24 | exact in0_60 | decide) (by first | with_reducible assumption | exact in0_24 | exact in0_60 | decide) (by first | with_reducible assumption | exact in0_24 | exact in0_60 | decide)) (cwV 3 hts (gG_V mG_13_4 mG_13_5 mG_13_6 mG_1_5 (gG_c mG_13_7 gG_G)) rfl rfl rfl hd_X6_turn ⟨Nat.le_of_ble_eq_true rfl, Nat.le_of_ble_eq_true rfl⟩) (pPcV (ci := 10) (q0 := 0) hK hP rfl rfl) rfl rfl hl.1 rfl (lv_room (Nat.le_of_ble_eq_true rfl)) dX6_rises_105 ⟨Nat.le_of_ble_eq_true rfl, Nat.le_of_ble_eq_true rfl⟩) hP hS (fun H hP hS => ?_)
        refine lv_iconst (v := (1 : Int32)) hx hb dX6_rises_108 (by decide) ?_
        refine lv_icmp_ne (tgt := 116) hx hb dX6_rises_109 (by decide) (fun c12 => ?_) (fun c12 => ?_)
        · skip
          refine lv_iload hx hb dX6_rises_116 (lv_at hl 0 rfl) ?_
          refine lv_if_eq (tgt := 138) hx hb dX6_rises_118 (by decide) (fun _ => ?_) (fun c9 => absurd c9 (by decide))
          refine lv_iconst (v := (0 : Int32)) hx hb dX6_rises_138 (by decide) ?_
          exact rp_i hQ hx hb hr hlk hS (Eq.symm (by subst ey1; subst ey2; simp only [f_X6_rises, if_neg c3, if_neg c7, if_pos c11, if_neg c12])) dX6_rises_139
        · skip
          refine lv_iconst (v := (1 : Int32)) hx hb dX6_rises_112 (by decide) ?_
          refine lv_goto (tgt := 139) hx hb dX6_rises_113 (by decide) ?_
          exact rp_i hQ hx hb hr hlk hS (Eq.symm (by subst ey1; subst ey2; simp only [f_X6_rises, if_neg c3, if_neg c7, if_pos c11, if_pos c12])) dX6_rises_139
      · skip
        refine lv_aload_n hx hb dX6_rises_71 rfl (lv_at hl 3 rfl) ?_
        refine va_get (D := (dC, dI)) (ci := 10) (v := .ref (a 2)) (C := RX6) (T := TX6) (N := 14) hx hb hts (fun _ h => gI_wsX60 h) hown hK.1 hP 0 rfl rfl 3 (by decide) (hts _ mG_4_9) (fun _ h9 => h9) rfl dX6_rises_72 ?_
        refine lv_iload hx hb dX6_rises_75 (lv_at hl 2 rfl) ?_
        refine va_iald hx hb hK.1 hP 2 0 rfl rfl (by first | with_reducible assumption | exact in0_24 | exact in0_60 | decide) dX6_rises_77 ?_
        refine lv_aload_n hx hb dX6_rises_78 rfl (lv_at hl 3 rfl) ?_
        refine va_get (D := (dC, dI)) (ci := 10) (v := .ref (a 2)) (C := RX6) (T := TX6) (N := 14) hx hb hts (fun _ h => gI_wsX60 h) hown hK.1 hP 0 rfl rfl 3 (by decide) (hts _ mG_4_9) (fun _ h9 => h9) rfl dX6_rises_79 ?_
        refine lv_iload_n hx hb dX6_rises_82 rfl (lv_at hl 6 rfl) ?_
        refine va_iald hx hb hK.1 hP 2 0 rfl rfl (by first | with_reducible assumption | exact in0_24 | exact in0_60 | decide) dX6_rises_83 ?_
        refine lv_icmp_le (tgt := 91) hx hb dX6_rises_84 (by decide) (fun c13 => ?_) (fun c13 => ?_)
        · skip
          refine lv_iconst (v := (0 : Int32)) hx hb dX6_rises_91 (by decide) ?_
          refine lv_istore (lv' := [(7, .int (0 : Int32)), (6, .int (1 : Int32)), (5, .int y2), (4, .int y1), (0, .ref (a 0)), (1, .int p1), (2, .int p2), (3, .int p3)]) hx hb dX6_rises_92 hl (by decide) rfl (fun ls hl => ?_)
          refine lv_iload hx hb dX6_rises_94 (lv_at hl 1 rfl) ?_
          refine lv_if_eq (tgt := 116) hx hb dX6_rises_96 (by decide) (fun c9 => absurd c9 (by decide)) (fun _ => ?_)
          refine lv_aload_n hx hb dX6_rises_99 rfl (lv_at hl 4 rfl) ?_
          refine lv_iload hx hb dX6_rises_100 (lv_at hl 3 rfl) ?_
          refine lv_iload hx hb dX6_rises_102 (lv_at hl 2 rfl) ?_
          refine lv_iload_n hx hb dX6_rises_104 rfl (lv_at hl 7 rfl) ?_
          refine cp_i (va_runV (As := [.int y1, .int y2, .int p3]) (rest := []) ⟨hx, hb, hml, hown, hts⟩ (c_X6_turn l dC dI a cI cJ xs ys pl lp lq lr v0 v1 v2 v3 v4 v5 v6 v7 y1 y2 p3 (by first | with_reducible assumption | exact in0_24 | exact in0_60 | decide) (by first | with_reducible assumption | exact in0_24 | exact in0_60 | decide) (by first | with_reducible assumption | exact in0_24 | exact in0_60 | decide)) (cwV 3 hts (gG_V mG_13_4 mG_13_5 mG_13_6 mG_1_5 (gG_c mG_13_7 gG_G)) rfl rfl rfl hd_X6_turn ⟨Nat.le_of_ble_eq_true rfl, Nat.le_of_ble_eq_true rfl⟩) (pPcV (ci := 10) (q0 := 0) hK hP rfl rfl) rfl rfl hl.1 rfl (lv_room (Nat.le_of_ble_eq_true rfl)) dX6_rises_105 ⟨Nat.le_of_ble_eq_true rfl, Nat.le_of_ble_eq_true rfl⟩) hP hS (fun H hP hS => ?_)
          refine lv_iconst (v := (1 : Int32)) hx hb dX6_rises_108 (by decide) ?_
          refine lv_icmp_ne (tgt := 116) hx hb dX6_rises_109 (by decide) (fun c14 => ?_) (fun c14 => ?_)
          · skip
            refine lv_iload hx hb dX6_rises_116 (lv_at hl 0 rfl) ?_
            refine lv_if_eq (tgt := 138) hx hb dX6_rises_118 (by decide) (fun _ => ?_) (fun c9 => absurd c9 (by decide))
            refine lv_iconst (v := (0 : Int32)) hx hb dX6_rises_138 (by decide) ?_
            exact rp_i hQ hx hb hr hlk hS (Eq.symm (by subst ey1; subst ey2; simp only [f_X6_rises, if_neg c3, if_neg c7, if_neg c11, if_pos c13, if_neg c14])) dX6_rises_139
          · skip
            refine lv_iconst (v := (1 : Int32)) hx hb dX6_rises_112 (by decide) ?_
            refine lv_goto (tgt := 139) hx hb dX6_rises_113 (by decide) ?_
            exact rp_i hQ hx hb hr hlk hS (Eq.symm (by subst ey1; subst ey2; simp only [f_X6_rises, if_neg c3, if_neg c7, if_neg c11, if_pos c13, if_pos c14])) dX6_rises_139
        · skip
          refine lv_iconst (v := (1 : Int32)) hx hb dX6_rises_87 (by decide) ?_
          refine lv_goto (tgt := 92) hx hb dX6_rises_88 (by decide) ?_
          refine lv_istore (lv' := [(7, .int (1 : Int32)), (6, .int (1 : Int32)), (5, .int y2), (4, .int y1), (0, .ref (a 0)), (1, .int p1), (2, .int p2), (3, .int p3)]) hx hb dX6_rises_92 hl (by decide) rfl (fun ls hl => ?_)
          refine lv_iload hx hb dX6_rises_94 (lv_at hl 1 rfl) ?_
          refine lv_if_eq (tgt := 116) hx hb dX6_rises_96 (by decide) (fun c9 => absurd c9 (by decide)) (fun _ => ?_)
          refine lv_aload_n hx hb dX6_rises_99 rfl (lv_at hl 4 rfl) ?_
          refine lv_iload hx hb dX6_rises_100 (lv_at hl 3 rfl) ?_
          refine lv_iload hx hb dX6_rises_102 (lv_at hl 2 rfl) ?_
          refine lv_iload_n hx hb dX6_rises_104 rfl (lv_at hl 7 rfl) ?_
          refine cp_i (va_runV (As := [.int y1, .int y2, .int p3]) (rest := []) ⟨hx, hb, hml, hown, hts⟩ (c_X6_turn l dC dI a cI cJ xs ys pl lp lq lr v0 v1 v2 v3 v4 v5 v6 v7 y1 y2 p3 (by first | with_reducible assumption | exact in0_24 | exact in0_60 | decide) (by first | with_reducible assumption | exact in0_24 | exact in0_60 | decide) (by first | with_reducible assumption | exact in0_24 | exact in0_60 | decide)) (cwV 3 hts (gG_V mG_13_4 mG_13_5 mG_13_6 mG_1_5 (gG_c mG_13_7 gG_G)) rfl rfl rfl hd_X6_turn ⟨Nat.le_of_ble_eq_true rfl, Nat.le_of_ble_eq_true rfl⟩) (pPcV (ci := 10) (q0 := 0) hK hP rfl rfl) rfl rfl hl.1 rfl (lv_room (Nat.le_of_ble_eq_true rfl)) dX6_rises_105 ⟨Nat.le_of_ble_eq_true rfl, Nat.le_of_ble_eq_true rfl⟩) hP hS (fun H hP hS => ?_)
          refine lv_iconst (v := (1 : Int32)) hx hb dX6_rises_108 (by decide) ?_
          refine lv_icmp_ne (tgt := 116) hx hb dX6_rises_109 (by decide) (fun c15 => ?_) (fun c15 => ?_)
          · skip
            refine lv_iload hx hb dX6_rises_116 (lv_at hl 0 rfl) ?_
            refine lv_if_eq (tgt := 138) hx hb dX6_rises_118 (by decide) (fun c9 => absurd c9 (by decide)) (fun _ => ?_)
            refine lv_aload_n hx hb dX6_rises_121 rfl (lv_at hl 4 rfl) ?_
            refine lv_iload hx hb dX6_rises_122 (lv_at hl 3 rfl) ?_
            refine lv_iload hx hb dX6_rises_124 (lv_at hl 2 rfl) ?_
            refine lv_iload_n hx hb dX6_rises_126 rfl (lv_at hl 7 rfl) ?_
            refine cp_i (va_runV (As := [.int y1, .int y2, .int p3]) (rest := []) ⟨hx, hb, hml, hown, hts⟩ (c_X6_turn l dC dI a cI cJ xs ys pl lp lq lr v0 v1 v2 v3 v4 v5 v6 v7 y1 y2 p3 (by first | with_reducible assumption | exact in0_24 | exact in0_60 | decide) (by first | with_reducible assumption | exact in0_24 | exact in0_60 | decide) (by first | with_reducible assumption | exact in0_24 | exact in0_60 | decide)) (cwV 3 hts (gG_V mG_13_4 mG_13_5 mG_13_6 mG_1_5 (gG_c mG_13_7 gG_G)) rfl rfl rfl hd_X6_turn ⟨Nat.le_of_ble_eq_true rfl, Nat.le_of_ble_eq_true rfl⟩) (pPcV (ci := 10) (q0 := 0) hK hP rfl rfl) rfl rfl hl.1 rfl (lv_room (Nat.le_of_ble_eq_true rfl)) dX6_rises_127 ⟨Nat.le_of_ble_eq_true rfl, Nat.le_of_ble_eq_true rfl⟩) hP hS (fun H hP hS => ?_)
            refine lv_iconst (v := (-1 : Int32)) hx hb dX6_rises_130 (by decide) ?_
            refine lv_icmp_ne (tgt := 138) hx hb dX6_rises_131 (by decide) (fun c16 => ?_) (fun c16 => ?_)
            · skip
              refine lv_iconst (v := (0 : Int32)) hx hb dX6_rises_138 (by decide) ?_
              exact rp_i hQ hx hb hr hlk hS (Eq.symm (by subst ey1; subst ey2; simp only [f_X6_rises, if_neg c3, if_neg c7, if_neg c11, if_neg c13, if_neg c15, if_neg c16])) dX6_rises_139
            · skip
              refine lv_iconst (v := (-1 : Int32)) hx hb dX6_rises_134 (by decide) ?_
              refine lv_goto (tgt := 139) hx hb dX6_rises_135 (by decide) ?_
              exact rp_i hQ hx hb hr hlk hS (Eq.symm (by subst ey1; subst ey2; simp only [f_X6_rises, if_neg c3, if_neg c7, if_neg c11, if_neg c13, if_neg c15, if_pos c16])) dX6_rises_139
          · skip
            refine lv_iconst (v := (1 : Int32)) hx hb dX6_rises_112 (by decide) ?_
            refine lv_goto (tgt := 139) hx hb dX6_rises_113 (by decide) ?_
            exact rp_i hQ hx hb hr hlk hS (Eq.symm (by subst ey1; subst ey2; simp only [f_X6_rises, if_neg c3, if_neg c7, if_neg c11, if_neg c13, if_pos c15])) dX6_rises_139
/-! X6_isAhead -/
theorem hs_X6_isAhead : yX6_isAhead.cls ≠ "java/lang/invoke/MethodHandle" ∧ yX6_isAhead.cls ≠ "java/lang/invoke/VarHandle" ∧ (parseMethodDescriptor yX6_isAhead.desc).map (fun d => d.parameters.length) = some 3 := by decide +kernel
theorem hd_X6_isAhead : yX6_isAhead.cls = RX6 ∧ yX6_isAhead.cls ≠ "java/lang/invoke/MethodHandle" ∧ yX6_isAhead.cls ≠ "java/lang/invoke/VarHandle" ∧ (parseMethodDescriptor yX6_isAhead.desc).map (fun d => d.parameters.length) = some 3 := ⟨rfl, hs_X6_isAhead⟩
def f_X6_isAhead (xs : Nat → Int32) (ys : Nat → Int32) (pl : Nat → Int32) (p1 : Int32) (p2 : Int32) (p3 : Int32) : Int32 := (if (f_X6_areEqual xs ys p1 (pl (Int32.toNatClampNeg p2))) = 0 then (if (f_X6_areEqual xs ys p1 (pl (Int32.toNatClampNeg p3))) = 0 then (if (f_X6_half xs ys p1 (pl (Int32.toNatClampNeg p2))) = (f_X6_half xs ys p1 (pl (Int32.toNatClampNeg p3))) then (if (f_X6_turn xs ys p1 (pl (Int32.toNatClampNeg p2)) (pl (Int32.toNatClampNeg p3))) = 0 then (if (lg_cmp (f_X6_far xs ys p1 (pl (Int32.toNatClampNeg p2))) (f_X6_far xs ys p1 (pl (Int32.toNatClampNeg p3)))) = 0 then (if p3 ≤ p2 then (0 : Int32) else (1 : Int32)) else (if 0 ≤ (lg_cmp (f_X6_far xs ys p1 (pl (Int32.toNatClampNeg p2))) (f_X6_far xs ys p1 (pl (Int32.toNatClampNeg p3)))) then (0 : Int32) else (1 : Int32))) else (if (f_X6_turn xs ys p1 (pl (Int32.toNatClampNeg p2)) (pl (Int32.toNatClampNeg p3))) ≤ 0 then (0 : Int32) else (1 : Int32))) else (if (f_X6_half xs ys p1 (pl (Int32.toNatClampNeg p3))) ≤ (f_X6_half xs ys p1 (pl (Int32.toNatClampNeg p2))) then (0 : Int32) else (1 : Int32))) else (0 : Int32)) else (if (f_X6_areEqual xs ys p1 (pl (Int32.toNatClampNeg p3))) = 0 then (1 : Int32) else (if p3 ≤ p2 then (0 : Int32) else (1 : Int32))))
abbrev rm_X6_isAhead : Room := { frames := 2, cells := 0, slots := 0, locals := 45 }
set_option maxHeartbeats 8000000 in
set_option maxRecDepth 100000 in
theorem c_X6_isAhead (l : Launch) (dC : Nat → ClassId) (dI : Nat → Nat → Nat) (a : Nat → Nat) (cI cJ : ClassId) (xs : Nat → Int32) (ys : Nat → Int32) (pl : Nat → Int32) (lp : Nat → Int64) (lq : Nat → Int64) (lr : Nat → Int64) (v0 : Int32) (v1 : Int32) (v2 : Int32) (v3 : Int32) (v4 : Int32) (v5 : Int32) (v6 : Int32) (v7 : Int32) (p1 : Int32) (p2 : Int32) (p3 : Int32) (hc : vp_in p1 60) (hj : vp_in p2 24) (hk : vp_in p3 24) (hvj : vp_in (pl (Int32.toNatClampNeg p2)) 60) (hvk : vp_in (pl (Int32.toNatClampNeg p3)) 60) : Met l yX6_isAhead (Cond.code yX6_isAhead cX6_isAhead 9 (some .boolean) :: lw_G) rm_X6_isAhead (pPc (dC, dI) (tIJ cI cJ) (wM a cI cJ xs ys pl lp lq lr v0 v1 v2 v3 v4 v5 v6 v7) [.ref (a 0), .int p1, .int p2, .int p3]) (pQi (f_X6_isAhead xs ys pl p1 p2 p3)) 0 0 pNo := by
  refine pm_of (by decide) (Nat.le_of_ble_eq_true rfl) ?_
  intro p e s m args below meth c Q ls hQ hx hb hr hlk hml hown hts hP hK hS hl
  have hown : s.vm.findClass RX6 = some m.cls := hown
  have hl : lv_has ls 9 [(0, .ref (a 0)), (1, .int p1), (2, .int p2), (3, .int p3)] := hl
  refine lv_aload_n hx hb dX6_isAhead_0 rfl (lv_at hl 0 rfl) ?_
  refine va_get (D := (dC, dI)) (ci := 10) (v := .ref (a 3)) (C := RX6) (T := TX6) (N := 14) hx hb hts (fun _ h => gI_wsX60 h) hown hK.1 hP 0 rfl rfl 5 (by decide) (hts _ mG_4_10) (fun _ h9 => h9) rfl dX6_isAhead_1 ?_
  refine lv_iload_n hx hb dX6_isAhead_4 rfl (lv_at hl 2 rfl) ?_
  refine va_iald hx hb hK.1 hP 3 0 rfl rfl (by first | with_reducible assumption | exact in0_24 | exact in0_60 | decide) dX6_isAhead_5 ?_
  refine lv_topi (fun y1 ey1 => ?_)
  refine lv_istore (lv' := [(4, .int y1), (0, .ref (a 0)), (1, .int p1), (2, .int p2), (3, .int p3)]) hx hb dX6_isAhead_6 hl (by decide) rfl (fun ls hl => ?_)
  refine lv_aload_n hx hb dX6_isAhead_8 rfl (lv_at hl 1 rfl) ?_
  refine va_get (D := (dC, dI)) (ci := 10) (v := .ref (a 3)) (C := RX6) (T := TX6) (N := 14) hx hb hts (fun _ h => gI_wsX60 h) hown hK.1 hP 0 rfl rfl 5 (by decide) (hts _ mG_4_10) (fun _ h9 => h9) rfl dX6_isAhead_9 ?_
  refine lv_iload_n hx hb dX6_isAhead_12 rfl (lv_at hl 4 rfl) ?_
  refine va_iald hx hb hK.1 hP 3 0 rfl rfl (by first | with_reducible assumption | exact in0_24 | exact in0_60 | decide) dX6_isAhead_13 ?_
  refine lv_topi (fun y2 ey2 => ?_)
  refine lv_istore (lv' := [(5, .int y2), (4, .int y1), (0, .ref (a 0)), (1, .int p1), (2, .int p2), (3, .int p3)]) hx hb dX6_isAhead_14 hl (by decide) rfl (fun ls hl => ?_)
  have hy4 : vp_in y1 60 := by rw [ey1]; exact hvj
  have hy5 : vp_in y2 60 := by rw [ey2]; exact hvk
  refine lv_aload_n hx hb dX6_isAhead_16 rfl (lv_at hl 2 rfl) ?_
  refine lv_iload_n hx hb dX6_isAhead_17 rfl (lv_at hl 3 rfl) ?_
  refine lv_iload hx hb dX6_isAhead_18 (lv_at hl 1 rfl) ?_
  refine cp_i (va_runV (As := [.int p1, .int y1]) (rest := []) ⟨hx, hb, hml, hown, hts⟩ (c_X6_areEqual l dC dI a cI cJ xs ys pl lp lq lr v0 v1 v2 v3 v4 v5 v6 v7 p1 y1 (by first | with_reducible assumption | exact in0_24 | exact in0_60 | decide) (by first | with_reducible assumption | exact in0_24 | exact in0_60 | decide)) (cwV 2 hts (gG_V mG_12_0 mG_12_1 mG_12_2 mG_1_5 (gG_c mG_12_3 gG_G)) rfl rfl rfl hd_X6_areEqual ⟨Nat.le_of_ble_eq_true rfl, Nat.le_of_ble_eq_true rfl⟩) (pPcV (ci := 10) (q0 := 0) hK hP rfl rfl) rfl rfl hl.1 rfl (lv_room (Nat.le_of_ble_eq_true rfl)) dX6_isAhead_20 ⟨Nat.le_of_ble_eq_true rfl, Nat.le_of_ble_eq_true rfl⟩) hP hS (fun H hP hS => ?_)
  refine lv_topi (fun y3 ey3 => ?_)
  refine lv_istore (lv' := [(6, .int y3), (5, .int y2), (4, .int y1), (0, .ref (a 0)), (1, .int p1), (2, .int p2), (3, .int p3)]) hx hb dX6_isAhead_23 hl (by decide) rfl (fun ls hl => ?_)
  refine lv_aload_n hx hb dX6_isAhead_25 rfl (lv_at hl 3 rfl) ?_
  refine lv_iload_n hx hb dX6_isAhead_26 rfl (lv_at hl 4 rfl) ?_
  refine lv_iload hx hb dX6_isAhead_27 (lv_at hl 1 rfl) ?_
  refine cp_i (va_runV (As := [.int p1, .int y2]) (rest := []) ⟨hx, hb, hml, hown, hts⟩ (c_X6_areEqual l dC dI a cI cJ xs ys pl lp lq lr v0 v1 v2 v3 v4 v5 v6 v7 p1 y2 (by first | with_reducible assumption | exact in0_24 | exact in0_60 | decide) (by first | with_reducible assumption | exact in0_24 | exact in0_60 | decide)) (cwV 2 hts (gG_V mG_12_0 mG_12_1 mG_12_2 mG_1_5 (gG_c mG_12_3 gG_G)) rfl rfl rfl hd_X6_areEqual ⟨Nat.le_of_ble_eq_true rfl, Nat.le_of_ble_eq_true rfl⟩) (pPcV (ci := 10) (q0 := 0) hK hP rfl rfl) rfl rfl hl.1 rfl (lv_room (Nat.le_of_ble_eq_true rfl)) dX6_isAhead_29 ⟨Nat.le_of_ble_eq_true rfl, Nat.le_of_ble_eq_true rfl⟩) hP hS (fun H hP hS => ?_)
  refine lv_topi (fun y4 ey4 => ?_)
  refine lv_istore (lv' := [(7, .int y4), (6, .int y3), (5, .int y2), (4, .int y1), (0, .ref (a 0)), (1, .int p1), (2, .int p2), (3, .int p3)]) hx hb dX6_isAhead_32 hl (by decide) rfl (fun ls hl => ?_)
  refine lv_iload hx hb dX6_isAhead_34 (lv_at hl 1 rfl) ?_
  refine lv_if_ne (tgt := 44) hx hb dX6_isAhead_36 (by decide) (fun c5 => ?_) (fun c5 => ?_)
  · skip
    refine lv_iload hx hb dX6_isAhead_44 (lv_at hl 1 rfl) ?_
    refine lv_if_eq (tgt := 63) hx hb dX6_isAhead_46 (by decide) (fun c6 => by subst ey1; subst ey2; subst ey3; subst ey4; exact absurd c6 c5) (fun _ => ?_)
    refine lv_iload hx hb dX6_isAhead_49 (lv_at hl 0 rfl) ?_
    refine lv_if_eq (tgt := 59) hx hb dX6_isAhead_51 (by decide) (fun c7 => ?_) (fun c7 => ?_)
    · skip
      refine lv_iconst (v := (1 : Int32)) hx hb dX6_isAhead_59 (by decide) ?_
      refine lv_goto (tgt := 64) hx hb dX6_isAhead_60 (by decide) ?_
      exact rp_z hQ hx hb hr hlk hS (Eq.symm (by subst ey1; subst ey2; subst ey3; subst ey4; simp only [f_X6_isAhead, if_neg c5, if_pos c7])) (by decide) dX6_isAhead_64
    · skip
      refine lv_iload_n hx hb dX6_isAhead_54 rfl (lv_at hl 6 rfl) ?_
      refine lv_iload_n hx hb dX6_isAhead_55 rfl (lv_at hl 7 rfl) ?_
      refine lv_icmp_ge (tgt := 63) hx hb dX6_isAhead_56 (by decide) (fun c8 => ?_) (fun c8 => ?_)
      · skip
        refine lv_iconst (v := (0 : Int32)) hx hb dX6_isAhead_63 (by decide) ?_
        exact rp_z hQ hx hb hr hlk hS (Eq.symm (by subst ey1; subst ey2; subst ey3; subst ey4; simp only [f_X6_isAhead, if_neg c5, if_neg c7, if_pos c8])) (by decide) dX6_isAhead_64
      · skip
        refine lv_iconst (v := (1 : Int32)) hx hb dX6_isAhead_59 (by decide) ?_
        refine lv_goto (tgt := 64) hx hb dX6_isAhead_60 (by decide) ?_
        exact rp_z hQ hx hb hr hlk hS (Eq.symm (by subst ey1; subst ey2; subst ey3; subst ey4; simp only [f_X6_isAhead, if_neg c5, if_neg c7, if_neg c8])) (by decide) dX6_isAhead_64
  · skip
    refine lv_iload hx hb dX6_isAhead_39 (lv_at hl 0 rfl) ?_
    refine lv_if_eq (tgt := 65) hx hb dX6_isAhead_41 (by decide) (fun c9 => ?_) (fun c9 => ?_)
    · skip
      refine lv_aload_n hx hb dX6_isAhead_65 rfl (lv_at hl 4 rfl) ?_
      refine lv_iload_n hx hb dX6_isAhead_66 rfl (lv_at hl 5 rfl) ?_
      refine lv_iload hx hb dX6_isAhead_67 (lv_at hl 3 rfl) ?_
      refine cp_i (va_runV (As := [.int p1, .int y1]) (rest := []) ⟨hx, hb, hml, hown, hts⟩ (c_X6_half l dC dI a cI cJ xs ys pl lp lq lr v0 v1 v2 v3 v4 v5 v6 v7 p1 y1 (by first | with_reducible assumption | exact in0_24 | exact in0_60 | decide) (by first | with_reducible assumption | exact in0_24 | exact in0_60 | decide)) (cwV 2 hts (gG_V mG_25_9 mG_25_10 mG_25_11 mG_1_5 (gG_c mG_25_12 gG_G)) rfl rfl rfl hd_X6_half ⟨Nat.le_of_ble_eq_true rfl, Nat.le_of_ble_eq_true rfl⟩) (pPcV (ci := 10) (q0 := 0) hK hP rfl rfl) rfl rfl hl.1 rfl (lv_room (Nat.le_of_ble_eq_true rfl)) dX6_isAhead_69 ⟨Nat.le_of_ble_eq_true rfl, Nat.le_of_ble_eq_true rfl⟩) hP hS (fun H hP hS => ?_)
      refine lv_aload_n hx hb dX6_isAhead_72 rfl (lv_at hl 4 rfl) ?_
      refine lv_iload_n hx hb dX6_isAhead_73 rfl (lv_at hl 5 rfl) ?_
      refine lv_iload hx hb dX6_isAhead_74 (lv_at hl 2 rfl) ?_
      refine cp_i (va_runV (As := [.int p1, .int y2]) (rest := [.int (f_X6_half xs ys p1 y1)]) ⟨hx, hb, hml, hown, hts⟩ (c_X6_half l dC dI a cI cJ xs ys pl lp lq lr v0 v1 v2 v3 v4 v5 v6 v7 p1 y2 (by first | with_reducible assumption | exact in0_24 | exact in0_60 | decide) (by first | with_reducible assumption | exact in0_24 | exact in0_60 | decide)) (cwV 2 hts (gG_V mG_25_9 mG_25_10 mG_25_11 mG_1_5 (gG_c mG_25_12 gG_G)) rfl rfl rfl hd_X6_half ⟨Nat.le_of_ble_eq_true rfl, Nat.le_of_ble_eq_true rfl⟩) (pPcV (ci := 10) (q0 := 0) hK hP rfl rfl) rfl rfl hl.1 rfl (lv_room (Nat.le_of_ble_eq_true rfl)) dX6_isAhead_76 ⟨Nat.le_of_ble_eq_true rfl, Nat.le_of_ble_eq_true rfl⟩) hP hS (fun H hP hS => ?_)
      refine lv_icmp_eq (tgt := 105) hx hb dX6_isAhead_79 (by decide) (fun c10 => ?_) (fun c10 => ?_)
      · skip
        refine lv_aload_n hx hb dX6_isAhead_105 rfl (lv_at hl 4 rfl) ?_
        refine lv_iload_n hx hb dX6_isAhead_106 rfl (lv_at hl 5 rfl) ?_
        refine lv_iload hx hb dX6_isAhead_107 (lv_at hl 3 rfl) ?_
        refine lv_iload hx hb dX6_isAhead_109 (lv_at hl 2 rfl) ?_
        refine cp_i (va_runV (As := [.int p1, .int y1, .int y2]) (rest := []) ⟨hx, hb, hml, hown, hts⟩ (c_X6_turn l dC dI a cI cJ xs ys pl lp lq lr v0 v1 v2 v3 v4 v5 v6 v7 p1 y1 y2 (by first | with_reducible assumption | exact in0_24 | exact in0_60 | decide) (by first | with_reducible assumption | exact in0_24 | exact in0_60 | decide) (by first | with_reducible assumption | exact in0_24 | exact in0_60 | decide)) (cwV 3 hts (gG_V mG_13_4 mG_13_5 mG_13_6 mG_1_5 (gG_c mG_13_7 gG_G)) rfl rfl rfl hd_X6_turn ⟨Nat.le_of_ble_eq_true rfl, Nat.le_of_ble_eq_true rfl⟩) (pPcV (ci := 10) (q0 := 0) hK hP rfl rfl) rfl rfl hl.1 rfl (lv_room (Nat.le_of_ble_eq_true rfl)) dX6_isAhead_111 ⟨Nat.le_of_ble_eq_true rfl, Nat.le_of_ble_eq_true rfl⟩) hP hS (fun H hP hS => ?_)
        refine lv_topi (fun y11 ey11 => ?_)
        refine lv_istore (lv' := [(8, .int y11), (7, .int y4), (6, .int y3), (5, .int y2), (4, .int y1), (0, .ref (a 0)), (1, .int p1), (2, .int p2), (3, .int p3)]) hx hb dX6_isAhead_114 hl (by decide) rfl (fun ls hl => ?_)
        refine lv_iload hx hb dX6_isAhead_116 (lv_at hl 0 rfl) ?_
        refine lv_if_eq (tgt := 132) hx hb dX6_isAhead_118 (by decide) (fun c12 => ?_) (fun c12 => ?_)
        · skip
          refine lv_aload_n hx hb dX6_isAhead_132 rfl (lv_at hl 5 rfl) ?_
          refine lv_iload_n hx hb dX6_isAhead_133 rfl (lv_at hl 6 rfl) ?_
          refine lv_iload hx hb dX6_isAhead_134 (lv_at hl 4 rfl) ?_
          refine cp_l (va_runV (As := [.int p1, .int y1]) (rest := []) ⟨hx, hb, hml, hown, hts⟩ (c_X6_far l dC dI a cI cJ xs ys pl lp lq lr v0 v1 v2 v3 v4 v5 v6 v7 p1 y1 (by first | with_reducible assumption | exact in0_24 | exact in0_60 | decide) (by first | with_reducible assumption | exact in0_24 | exact in0_60 | decide)) (cwV 2 hts (gG_V mG_23_22 mG_23_23 mG_24_0 mG_1_5 (gG_c mG_24_1 gG_G)) rfl rfl rfl hd_X6_far ⟨Nat.le_of_ble_eq_true rfl, Nat.le_of_ble_eq_true rfl⟩) (pPcV (ci := 10) (q0 := 0) hK hP rfl rfl) rfl rfl hl.1 rfl (lv_room (Nat.le_of_ble_eq_true rfl)) dX6_isAhead_136 ⟨Nat.le_of_ble_eq_true rfl, Nat.le_of_ble_eq_true rfl⟩) hP hS (fun H hP hS => ?_)
          refine lv_aload_n hx hb dX6_isAhead_139 rfl (lv_at hl 5 rfl) ?_
          refine lv_iload_n hx hb dX6_isAhead_140 rfl (lv_at hl 6 rfl) ?_
          refine lv_iload hx hb dX6_isAhead_141 (lv_at hl 3 rfl) ?_
          refine cp_l (va_runV (As := [.int p1, .int y2]) (rest := [.long (f_X6_far xs ys p1 y1)]) ⟨hx, hb, hml, hown, hts⟩ (c_X6_far l dC dI a cI cJ xs ys pl lp lq lr v0 v1 v2 v3 v4 v5 v6 v7 p1 y2 (by first | with_reducible assumption | exact in0_24 | exact in0_60 | decide) (by first | with_reducible assumption | exact in0_24 | exact in0_60 | decide)) (cwV 2 hts (gG_V mG_23_22 mG_23_23 mG_24_0 mG_1_5 (gG_c mG_24_1 gG_G)) rfl rfl rfl hd_X6_far ⟨Nat.le_of_ble_eq_true rfl, Nat.le_of_ble_eq_true rfl⟩) (pPcV (ci := 10) (q0 := 0) hK hP rfl rfl) rfl rfl hl.1 rfl (lv_room (Nat.le_of_ble_eq_true rfl)) dX6_isAhead_143 ⟨Nat.le_of_ble_eq_true rfl, Nat.le_of_ble_eq_true rfl⟩) hP hS (fun H hP hS => ?_)
          refine W.lcmp hx hb dX6_isAhead_146 ?_
          refine lv_if_eq (tgt := 176) hx hb dX6_isAhead_147 (by decide) (fun c13 => ?_) (fun c13 => ?_)
          · skip
            refine lv_iload_n hx hb dX6_isAhead_176 rfl (lv_at hl 7 rfl) ?_
            refine lv_iload_n hx hb dX6_isAhead_177 rfl (lv_at hl 8 rfl) ?_
            refine lv_icmp_ge (tgt := 185) hx hb dX6_isAhead_178 (by decide) (fun c14 => ?_) (fun c14 => ?_)
            · skip
              refine lv_iconst (v := (0 : Int32)) hx hb dX6_isAhead_185 (by decide) ?_
              exact rp_z hQ hx hb hr hlk hS (Eq.symm (by subst ey1; subst ey2; subst ey3; subst ey4; subst ey11; simp only [f_X6_isAhead, if_pos c5, if_pos c9, if_pos c10, if_pos c12, if_pos c13, if_pos c14])) (by decide) dX6_isAhead_186
            · skip
              refine lv_iconst (v := (1 : Int32)) hx hb dX6_isAhead_181 (by decide) ?_
              refine lv_goto (tgt := 186) hx hb dX6_isAhead_182 (by decide) ?_
              exact rp_z hQ hx hb hr hlk hS (Eq.symm (by subst ey1; subst ey2; subst ey3; subst ey4; subst ey11; simp only [f_X6_isAhead, if_pos c5, if_pos c9, if_pos c10, if_pos c12, if_pos c13, if_neg c14])) (by decide) dX6_isAhead_186
          · skip
            refine lv_aload_n hx hb dX6_isAhead_150 rfl (lv_at hl 5 rfl) ?_
            refine lv_iload_n hx hb dX6_isAhead_151 rfl (lv_at hl 6 rfl) ?_
            refine lv_iload hx hb dX6_isAhead_152 (lv_at hl 4 rfl) ?_
            refine cp_l (va_runV (As := [.int p1, .int y1]) (rest := []) ⟨hx, hb, hml, hown, hts⟩ (c_X6_far l dC dI a cI cJ xs ys pl lp lq lr v0 v1 v2 v3 v4 v5 v6 v7 p1 y1 (by first | with_reducible assumption | exact in0_24 | exact in0_60 | decide) (by first | with_reducible assumption | exact in0_24 | exact in0_60 | decide)) (cwV 2 hts (gG_V mG_23_22 mG_23_23 mG_24_0 mG_1_5 (gG_c mG_24_1 gG_G)) rfl rfl rfl hd_X6_far ⟨Nat.le_of_ble_eq_true rfl, Nat.le_of_ble_eq_true rfl⟩) (pPcV (ci := 10) (q0 := 0) hK hP rfl rfl) rfl rfl hl.1 rfl (lv_room (Nat.le_of_ble_eq_true rfl)) dX6_isAhead_154 ⟨Nat.le_of_ble_eq_true rfl, Nat.le_of_ble_eq_true rfl⟩) hP hS (fun H hP hS => ?_)
            refine lv_aload_n hx hb dX6_isAhead_157 rfl (lv_at hl 5 rfl) ?_
            refine lv_iload_n hx hb dX6_isAhead_158 rfl (lv_at hl 6 rfl) ?_
            refine lv_iload hx hb dX6_isAhead_159 (lv_at hl 3 rfl) ?_
            refine cp_l (va_runV (As := [.int p1, .int y2]) (rest := [.long (f_X6_far xs ys p1 y1)]) ⟨hx, hb, hml, hown, hts⟩ (c_X6_far l dC dI a cI cJ xs ys pl lp lq lr v0 v1 v2 v3 v4 v5 v6 v7 p1 y2 (by first | with_reducible assumption | exact in0_24 | exact in0_60 | decide) (by first | with_reducible assumption | exact in0_24 | exact in0_60 | decide)) (cwV 2 hts (gG_V mG_23_22 mG_23_23 mG_24_0 mG_1_5 (gG_c mG_24_1 gG_G)) rfl rfl rfl hd_X6_far ⟨Nat.le_of_ble_eq_true rfl, Nat.le_of_ble_eq_true rfl⟩) (pPcV (ci := 10) (q0 := 0) hK hP rfl rfl) rfl rfl hl.1 rfl (lv_room (Nat.le_of_ble_eq_true rfl)) dX6_isAhead_161 ⟨Nat.le_of_ble_eq_true rfl, Nat.le_of_ble_eq_true rfl⟩) hP hS (fun H hP hS => ?_)
            refine W.lcmp hx hb dX6_isAhead_164 ?_
            refine lv_if_ge (tgt := 172) hx hb dX6_isAhead_165 (by decide) (fun c15 => ?_) (fun c15 => ?_)
            · skip
              refine lv_iconst (v := (0 : Int32)) hx hb dX6_isAhead_172 (by decide) ?_
              refine lv_goto (tgt := 186) hx hb dX6_isAhead_173 (by decide) ?_
              exact rp_z hQ hx hb hr hlk hS (Eq.symm (by subst ey1; subst ey2; subst ey3; subst ey4; subst ey11; simp only [f_X6_isAhead, if_pos c5, if_pos c9, if_pos c10, if_pos c12, if_neg c13, if_pos c15])) (by decide) dX6_isAhead_186
            · skip
              refine lv_iconst (v := (1 : Int32)) hx hb dX6_isAhead_168 (by decide) ?_
              refine lv_goto (tgt := 186) hx hb dX6_isAhead_169 (by decide) ?_
              exact rp_z hQ hx hb hr hlk hS (Eq.symm (by subst ey1; subst ey2; subst ey3; subst ey4; subst ey11; simp only [f_X6_isAhead, if_pos c5, if_pos c9, if_pos c10, if_pos c12, if_neg c13, if_neg c15])) (by decide) dX6_isAhead_186
        · skip
          refine lv_iload hx hb dX6_isAhead_121 (lv_at hl 0 rfl) ?_
          refine lv_if_le (tgt := 130) hx hb dX6_isAhead_123 (by decide) (fun c16 => ?_) (fun c16 => ?_)
          · skip
            refine lv_iconst (v := (0 : Int32)) hx hb dX6_isAhead_130 (by decide) ?_
            exact rp_z hQ hx hb hr hlk hS (Eq.symm (by subst ey1; subst ey2; subst ey3; subst ey4; subst ey11; simp only [f_X6_isAhead, if_pos c5, if_pos c9, if_pos c10, if_neg c12, if_pos c16])) (by decide) dX6_isAhead_131
          · skip
            refine lv_iconst (v := (1 : Int32)) hx hb dX6_isAhead_126 (by decide) ?_
            refine lv_goto (tgt := 131) hx hb dX6_isAhead_127 (by decide) ?_
            exact rp_z hQ hx hb hr hlk hS (Eq.symm (by subst ey1; subst ey2; subst ey3; subst ey4; subst ey11; simp only [f_X6_isAhead, if_pos c5, if_pos c9, if_pos c10, if_neg c12, if_neg c16])) (by decide) dX6_isAhead_131
      · skip
        refine lv_aload_n hx hb dX6_isAhead_82 rfl (lv_at hl 4 rfl) ?_
        refine lv_iload_n hx hb dX6_isAhead_83 rfl (lv_at hl 5 rfl) ?_
        refine lv_iload hx hb dX6_isAhead_84 (lv_at hl 3 rfl) ?_
        refine cp_i (va_runV (As := [.int p1, .int y1]) (rest := []) ⟨hx, hb, hml, hown, hts⟩ (c_X6_half l dC dI a cI cJ xs ys pl lp lq lr v0 v1 v2 v3 v4 v5 v6 v7 p1 y1 (by first | with_reducible assumption | exact in0_24 | exact in0_60 | decide) (by first | with_reducible assumption | exact in0_24 | exact in0_60 | decide)) (cwV 2 hts (gG_V mG_25_9 mG_25_10 mG_25_11 mG_1_5 (gG_c mG_25_12 gG_G)) rfl rfl rfl hd_X6_half ⟨Nat.le_of_ble_eq_true rfl, Nat.le_of_ble_eq_true rfl⟩) (pPcV (ci := 10) (q0 := 0) hK hP rfl rfl) rfl rfl hl.1 rfl (lv_room (Nat.le_of_ble_eq_true rfl)) dX6_isAhead_86 ⟨Nat.le_of_ble_eq_true rfl, Nat.le_of_ble_eq_true rfl⟩) hP hS (fun H hP hS => ?_)
        refine lv_aload_n hx hb dX6_isAhead_89 rfl (lv_at hl 4 rfl) ?_
        refine lv_iload_n hx hb dX6_isAhead_90 rfl (lv_at hl 5 rfl) ?_
        refine lv_iload hx hb dX6_isAhead_91 (lv_at hl 2 rfl) ?_
        refine cp_i (va_runV (As := [.int p1, .int y2]) (rest := [.int (f_X6_half xs ys p1 y1)]) ⟨hx, hb, hml, hown, hts⟩ (c_X6_half l dC dI a cI cJ xs ys pl lp lq lr v0 v1 v2 v3 v4 v5 v6 v7 p1 y2 (by first | with_reducible assumption | exact in0_24 | exact in0_60 | decide) (by first | with_reducible assumption | exact in0_24 | exact in0_60 | decide)) (cwV 2 hts (gG_V mG_25_9 mG_25_10 mG_25_11 mG_1_5 (gG_c mG_25_12 gG_G)) rfl rfl rfl hd_X6_half ⟨Nat.le_of_ble_eq_true rfl, Nat.le_of_ble_eq_true rfl⟩) (pPcV (ci := 10) (q0 := 0) hK hP rfl rfl) rfl rfl hl.1 rfl (lv_room (Nat.le_of_ble_eq_true rfl)) dX6_isAhead_93 ⟨Nat.le_of_ble_eq_true rfl, Nat.le_of_ble_eq_true rfl⟩) hP hS (fun H hP hS => ?_)
        refine lv_icmp_ge (tgt := 103) hx hb dX6_isAhead_96 (by decide) (fun c17 => ?_) (fun c17 => ?_)
        · skip
          refine lv_iconst (v := (0 : Int32)) hx hb dX6_isAhead_103 (by decide) ?_
          exact rp_z hQ hx hb hr hlk hS (Eq.symm (by subst ey1; subst ey2; subst ey3; subst ey4; simp only [f_X6_isAhead, if_pos c5, if_pos c9, if_neg c10, if_pos c17])) (by decide) dX6_isAhead_104
        · skip
          refine lv_iconst (v := (1 : Int32)) hx hb dX6_isAhead_99 (by decide) ?_
          refine lv_goto (tgt := 104) hx hb dX6_isAhead_100 (by decide) ?_
          exact rp_z hQ hx hb hr hlk hS (Eq.symm (by subst ey1; subst ey2; subst ey3; subst ey4; simp only [f_X6_isAhead, if_pos c5, if_pos c9, if_neg c10, if_neg c17])) (by decide) dX6_isAhead_104
    · skip
      refine lv_iload hx hb dX6_isAhead_44 (lv_at hl 1 rfl) ?_
      refine lv_if_eq (tgt := 63) hx hb dX6_isAhead_46 (by decide) (fun _ => ?_) (fun c18 => by subst ey1; subst ey2; subst ey3; subst ey4; exact absurd c5 c18)
      refine lv_iconst (v := (0 : Int32)) hx hb dX6_isAhead_63 (by decide) ?_
      exact rp_z hQ hx hb hr hlk hS (Eq.symm (by subst ey1; subst ey2; subst ey3; subst ey4; simp only [f_X6_isAhead, if_pos c5, if_neg c9])) (by decide) dX6_isAhead_64
/-! X6_isLess -/
theorem hs_X6_isLess : yX6_isLess.cls ≠ "java/lang/invoke/MethodHandle" ∧ yX6_isLess.cls ≠ "java/lang/invoke/VarHandle" ∧ (parseMethodDescriptor yX6_isLess.desc).map (fun d => d.parameters.length) = some 2 := by decide +kernel
theorem hd_X6_isLess : yX6_isLess.cls = RX6 ∧ yX6_isLess.cls ≠ "java/lang/invoke/MethodHandle" ∧ yX6_isLess.cls ≠ "java/lang/invoke/VarHandle" ∧ (parseMethodDescriptor yX6_isLess.desc).map (fun d => d.parameters.length) = some 2 := ⟨rfl, hs_X6_isLess⟩
def f_X6_isLess (xs : Nat → Int32) (ys : Nat → Int32) (pl : Nat → Int32) (p1 : Int32) (p2 : Int32) : Int32 := (if (xs (Int32.toNatClampNeg (pl (Int32.toNatClampNeg p1)))) = (xs (Int32.toNatClampNeg (pl (Int32.toNatClampNeg p2)))) then (if (ys (Int32.toNatClampNeg (pl (Int32.toNatClampNeg p1)))) = (ys (Int32.toNatClampNeg (pl (Int32.toNatClampNeg p2)))) then (if p2 ≤ p1 then (0 : Int32) else (1 : Int32)) else (if (ys (Int32.toNatClampNeg (pl (Int32.toNatClampNeg p2)))) ≤ (ys (Int32.toNatClampNeg (pl (Int32.toNatClampNeg p1)))) then (0 : Int32) else (1 : Int32))) else (if (xs (Int32.toNatClampNeg (pl (Int32.toNatClampNeg p2)))) ≤ (xs (Int32.toNatClampNeg (pl (Int32.toNatClampNeg p1)))) then (0 : Int32) else (1 : Int32)))
abbrev rm_X6_isLess : Room := { frames := 0, cells := 0, slots := 0, locals := 0 }
set_option maxHeartbeats 8000000 in
set_option maxRecDepth 100000 in
theorem c_X6_isLess (l : Launch) (dC : Nat → ClassId) (dI : Nat → Nat → Nat) (a : Nat → Nat) (cI cJ : ClassId) (xs : Nat → Int32) (ys : Nat → Int32) (pl : Nat → Int32) (lp : Nat → Int64) (lq : Nat → Int64) (lr : Nat → Int64) (v0 : Int32) (v1 : Int32) (v2 : Int32) (v3 : Int32) (v4 : Int32) (v5 : Int32) (v6 : Int32) (v7 : Int32) (p1 : Int32) (p2 : Int32) (hj : vp_in p1 24) (hk : vp_in p2 24) (hvj : vp_in (pl (Int32.toNatClampNeg p1)) 60) (hvk : vp_in (pl (Int32.toNatClampNeg p2)) 60) : Met l yX6_isLess (Cond.code yX6_isLess cX6_isLess 5 (some .boolean) :: lw_G) rm_X6_isLess (pPc (dC, dI) (tIJ cI cJ) (wM a cI cJ xs ys pl lp lq lr v0 v1 v2 v3 v4 v5 v6 v7) [.ref (a 0), .int p1, .int p2]) (pQi (f_X6_isLess xs ys pl p1 p2)) 0 0 pNo := by
  refine pm_of (by decide) (Nat.le_of_ble_eq_true rfl) ?_
  intro p e s m args below meth c Q ls hQ hx hb hr hlk hml hown hts hP hK hS hl
  have hown : s.vm.findClass RX6 = some m.cls := hown
  have hl : lv_has ls 5 [(0, .ref (a 0)), (1, .int p1), (2, .int p2)] := hl
  refine lv_aload_n hx hb dX6_isLess_0 rfl (lv_at hl 0 rfl) ?_
  refine va_get (D := (dC, dI)) (ci := 10) (v := .ref (a 3)) (C := RX6) (T := TX6) (N := 14) hx hb hts (fun _ h => gI_wsX60 h) hown hK.1 hP 0 rfl rfl 5 (by decide) (hts _ mG_4_10) (fun _ h9 => h9) rfl dX6_isLess_1 ?_
  refine lv_iload_n hx hb dX6_isLess_4 rfl (lv_at hl 1 rfl) ?_
  refine va_iald hx hb hK.1 hP 3 0 rfl rfl (by first | with_reducible assumption | exact in0_24 | exact in0_60 | decide) dX6_isLess_5 ?_
  refine lv_topi (fun y1 ey1 => ?_)
  refine lv_istore_n (lv' := [(3, .int y1), (0, .ref (a 0)), (1, .int p1), (2, .int p2)]) hx hb dX6_isLess_6 rfl hl (by decide) rfl (fun ls hl => ?_)
  refine lv_aload_n hx hb dX6_isLess_7 rfl (lv_at hl 1 rfl) ?_
  refine va_get (D := (dC, dI)) (ci := 10) (v := .ref (a 3)) (C := RX6) (T := TX6) (N := 14) hx hb hts (fun _ h => gI_wsX60 h) hown hK.1 hP 0 rfl rfl 5 (by decide) (hts _ mG_4_10) (fun _ h9 => h9) rfl dX6_isLess_8 ?_
  refine lv_iload_n hx hb dX6_isLess_11 rfl (lv_at hl 3 rfl) ?_
  refine va_iald hx hb hK.1 hP 3 0 rfl rfl (by first | with_reducible assumption | exact in0_24 | exact in0_60 | decide) dX6_isLess_12 ?_
  refine lv_topi (fun y2 ey2 => ?_)
  refine lv_istore (lv' := [(4, .int y2), (3, .int y1), (0, .ref (a 0)), (1, .int p1), (2, .int p2)]) hx hb dX6_isLess_13 hl (by decide) rfl (fun ls hl => ?_)
  have hy4 : vp_in y1 60 := by rw [ey1]; exact hvj
  have hy5 : vp_in y2 60 := by rw [ey2]; exact hvk
  refine lv_aload_n hx hb dX6_isLess_15 rfl (lv_at hl 2 rfl) ?_
  refine va_get (D := (dC, dI)) (ci := 10) (v := .ref (a 1)) (C := RX6) (T := TX6) (N := 14) hx hb hts (fun _ h => gI_wsX60 h) hown hK.1 hP 0 rfl rfl 2 (by decide) (hts _ mG_4_8) (fun _ h9 => h9) rfl dX6_isLess_16 ?_
  refine lv_iload_n hx hb dX6_isLess_19 rfl (lv_at hl 1 rfl) ?_
  refine va_iald hx hb hK.1 hP 1 0 rfl rfl (by first | with_reducible assumption | exact in0_24 | exact in0_60 | decide) dX6_isLess_20 ?_
  refine lv_aload_n hx hb dX6_isLess_21 rfl (lv_at hl 2 rfl) ?_
  refine va_get (D := (dC, dI)) (ci := 10) (v := .ref (a 1)) (C := RX6) (T := TX6) (N := 14) hx hb hts (fun _ h => gI_wsX60 h) hown hK.1 hP 0 rfl rfl 2 (by decide) (hts _ mG_4_8) (fun _ h9 => h9) rfl dX6_isLess_22 ?_
  refine lv_iload hx hb dX6_isLess_25 (lv_at hl 0 rfl) ?_
  refine va_iald hx hb hK.1 hP 1 0 rfl rfl (by first | with_reducible assumption | exact in0_24 | exact in0_60 | decide) dX6_isLess_27 ?_
  refine lv_icmp_eq (tgt := 55) hx hb dX6_isLess_28 (by decide) (fun c3 => ?_) (fun c3 => ?_)
  · skip
    refine lv_aload_n hx hb dX6_isLess_55 rfl (lv_at hl 2 rfl) ?_
    refine va_get (D := (dC, dI)) (ci := 10) (v := .ref (a 2)) (C := RX6) (T := TX6) (N := 14) hx hb hts (fun _ h => gI_wsX60 h) hown hK.1 hP 0 rfl rfl 3 (by decide) (hts _ mG_4_9) (fun _ h9 => h9) rfl dX6_isLess_56 ?_
    refine lv_iload_n hx hb dX6_isLess_59 rfl (lv_at hl 1 rfl) ?_
    refine va_iald hx hb hK.1 hP 2 0 rfl rfl (by first | with_reducible assumption | exact in0_24 | exact in0_60 | decide) dX6_isLess_60 ?_
    refine lv_aload_n hx hb dX6_isLess_61 rfl (lv_at hl 2 rfl) ?_
    refine va_get (D := (dC, dI)) (ci := 10) (v := .ref (a 2)) (C := RX6) (T := TX6) (N := 14) hx hb hts (fun _ h => gI_wsX60 h) hown hK.1 hP 0 rfl rfl 3 (by decide) (hts _ mG_4_9) (fun _ h9 => h9) rfl dX6_isLess_62 ?_
    refine lv_iload hx hb dX6_isLess_65 (lv_at hl 0 rfl) ?_
    refine va_iald hx hb hK.1 hP 2 0 rfl rfl (by first | with_reducible assumption | exact in0_24 | exact in0_60 | decide) dX6_isLess_67 ?_
    refine lv_icmp_eq (tgt := 95) hx hb dX6_isLess_68 (by decide) (fun c4 => ?_) (fun c4 => ?_)
    · skip
      refine lv_iload_n hx hb dX6_isLess_95 rfl (lv_at hl 3 rfl) ?_
      refine lv_iload_n hx hb dX6_isLess_96 rfl (lv_at hl 4 rfl) ?_
      refine lv_icmp_ge (tgt := 104) hx hb dX6_isLess_97 (by decide) (fun c5 => ?_) (fun c5 => ?_)
      · skip
        refine lv_iconst (v := (0 : Int32)) hx hb dX6_isLess_104 (by decide) ?_
        exact rp_z hQ hx hb hr hlk hS (Eq.symm (by subst ey1; subst ey2; simp only [f_X6_isLess, if_pos c3, if_pos c4, if_pos c5])) (by decide) dX6_isLess_105
      · skip
        refine lv_iconst (v := (1 : Int32)) hx hb dX6_isLess_100 (by decide) ?_
        refine lv_goto (tgt := 105) hx hb dX6_isLess_101 (by decide) ?_
        exact rp_z hQ hx hb hr hlk hS (Eq.symm (by subst ey1; subst ey2; simp only [f_X6_isLess, if_pos c3, if_pos c4, if_neg c5])) (by decide) dX6_isLess_105
    · skip
      refine lv_aload_n hx hb dX6_isLess_71 rfl (lv_at hl 2 rfl) ?_
      refine va_get (D := (dC, dI)) (ci := 10) (v := .ref (a 2)) (C := RX6) (T := TX6) (N := 14) hx hb hts (fun _ h => gI_wsX60 h) hown hK.1 hP 0 rfl rfl 3 (by decide) (hts _ mG_4_9) (fun _ h9 => h9) rfl dX6_isLess_72 ?_
      refine lv_iload_n hx hb dX6_isLess_75 rfl (lv_at hl 1 rfl) ?_
      refine va_iald hx hb hK.1 hP 2 0 rfl rfl (by first | with_reducible assumption | exact in0_24 | exact in0_60 | decide) dX6_isLess_76 ?_
      refine lv_aload_n hx hb dX6_isLess_77 rfl (lv_at hl 2 rfl) ?_
      refine va_get (D := (dC, dI)) (ci := 10) (v := .ref (a 2)) (C := RX6) (T := TX6) (N := 14) hx hb hts (fun _ h => gI_wsX60 h) hown hK.1 hP 0 rfl rfl 3 (by decide) (hts _ mG_4_9) (fun _ h9 => h9) rfl dX6_isLess_78 ?_
      refine lv_iload hx hb dX6_isLess_81 (lv_at hl 0 rfl) ?_
      refine va_iald hx hb hK.1 hP 2 0 rfl rfl (by first | with_reducible assumption | exact in0_24 | exact in0_60 | decide) dX6_isLess_83 ?_
      refine lv_icmp_ge (tgt := 91) hx hb dX6_isLess_84 (by decide) (fun c6 => ?_) (fun c6 => ?_)
      · skip
        refine lv_iconst (v := (0 : Int32)) hx hb dX6_isLess_91 (by decide) ?_
        refine lv_goto (tgt := 105) hx hb dX6_isLess_92 (by decide) ?_
        exact rp_z hQ hx hb hr hlk hS (Eq.symm (by subst ey1; subst ey2; simp only [f_X6_isLess, if_pos c3, if_neg c4, if_pos c6])) (by decide) dX6_isLess_105
      · skip
        refine lv_iconst (v := (1 : Int32)) hx hb dX6_isLess_87 (by decide) ?_
        refine lv_goto (tgt := 105) hx hb dX6_isLess_88 (by decide) ?_
        exact rp_z hQ hx hb hr hlk hS (Eq.symm (by subst ey1; subst ey2; simp only [f_X6_isLess, if_pos c3, if_neg c4, if_neg c6])) (by decide) dX6_isLess_105
  · skip
    refine lv_aload_n hx hb dX6_isLess_31 rfl (lv_at hl 2 rfl) ?_
    refine va_get (D := (dC, dI)) (ci := 10) (v := .ref (a 1)) (C := RX6) (T := TX6) (N := 14) hx hb hts (fun _ h => gI_wsX60 h) hown hK.1 hP 0 rfl rfl 2 (by decide) (hts _ mG_4_8) (fun _ h9 => h9) rfl dX6_isLess_32 ?_
    refine lv_iload_n hx hb dX6_isLess_35 rfl (lv_at hl 1 rfl) ?_
    refine va_iald hx hb hK.1 hP 1 0 rfl rfl (by first | with_reducible assumption | exact in0_24 | exact in0_60 | decide) dX6_isLess_36 ?_
    refine lv_aload_n hx hb dX6_isLess_37 rfl (lv_at hl 2 rfl) ?_
    refine va_get (D := (dC, dI)) (ci := 10) (v := .ref (a 1)) (C := RX6) (T := TX6) (N := 14) hx hb hts (fun _ h => gI_wsX60 h) hown hK.1 hP 0 rfl rfl 2 (by decide) (hts _ mG_4_8) (fun _ h9 => h9) rfl dX6_isLess_38 ?_
    refine lv_iload hx hb dX6_isLess_41 (lv_at hl 0 rfl) ?_
    refine va_iald hx hb hK.1 hP 1 0 rfl rfl (by first | with_reducible assumption | exact in0_24 | exact in0_60 | decide) dX6_isLess_43 ?_
    refine lv_icmp_ge (tgt := 51) hx hb dX6_isLess_44 (by decide) (fun c7 => ?_) (fun c7 => ?_)
    · skip
      refine lv_iconst (v := (0 : Int32)) hx hb dX6_isLess_51 (by decide) ?_
      refine lv_goto (tgt := 105) hx hb dX6_isLess_52 (by decide) ?_
      exact rp_z hQ hx hb hr hlk hS (Eq.symm (by subst ey1; subst ey2; simp only [f_X6_isLess, if_neg c3, if_pos c7])) (by decide) dX6_isLess_105
    · skip
      refine lv_iconst (v := (1 : Int32)) hx hb dX6_isLess_47 (by decide) ?_
      refine lv_goto (tgt := 105) hx hb dX6_isLess_48 (by decide) ?_
      exact rp_z hQ hx hb hr hlk hS (Eq.symm (by subst ey1; subst ey2; simp only [f_X6_isLess, if_neg c3, if_neg c7])) (by decide) dX6_isLess_105
/-! X6_both -/
theorem hs_X6_both : yX6_both.cls ≠ "java/lang/invoke/MethodHandle" ∧ yX6_both.cls ≠ "java/lang/invoke/VarHandle" ∧ (parseMethodDescriptor yX6_both.desc).map (fun d => d.parameters.length) = some 2 := by decide +kernel
theorem hd_X6_both : yX6_both.cls = RX6 ∧ yX6_both.cls ≠ "java/lang/invoke/MethodHandle" ∧ yX6_both.cls ≠ "java/lang/invoke/VarHandle" ∧ (parseMethodDescriptor yX6_both.desc).map (fun d => d.parameters.length) = some 2 := ⟨rfl, hs_X6_both⟩
def f_X6_both (lp : Nat → Int64) (lq : Nat → Int64) (p1 : Int32) (p2 : Int32) : Int64 := (((lp (Int32.toNatClampNeg p1)) * (lq (Int32.toNatClampNeg p2))) - ((lp (Int32.toNatClampNeg p2)) * (lq (Int32.toNatClampNeg p1))))
abbrev rm_X6_both : Room := { frames := 0, cells := 0, slots := 0, locals := 0 }
set_option maxHeartbeats 8000000 in
set_option maxRecDepth 100000 in
theorem c_X6_both (l : Launch) (dC : Nat → ClassId) (dI : Nat → Nat → Nat) (a : Nat → Nat) (cI cJ : ClassId) (xs : Nat → Int32) (ys : Nat → Int32) (pl : Nat → Int32) (lp : Nat → Int64) (lq : Nat → Int64) (lr : Nat → Int64) (v0 : Int32) (v1 : Int32) (v2 : Int32) (v3 : Int32) (v4 : Int32) (v5 : Int32) (v6 : Int32) (v7 : Int32) (p1 : Int32) (p2 : Int32) (hi1 : vp_in p1 12) (hi2 : vp_in p2 12) : Met l yX6_both (Cond.code yX6_both cX6_both 3 (some .long) :: lw_G) rm_X6_both (pPc (dC, dI) (tIJ cI cJ) (wM a cI cJ xs ys pl lp lq lr v0 v1 v2 v3 v4 v5 v6 v7) [.ref (a 0), .int p1, .int p2]) (pQl (f_X6_both lp lq p1 p2)) 0 0 pNo := by
  refine pm_of (by decide) (Nat.le_of_ble_eq_true rfl) ?_
  intro p e s m args below meth c Q ls hQ hx hb hr hlk hml hown hts hP hK hS hl
  have hown : s.vm.findClass RX6 = some m.cls := hown
  have hl : lv_has ls 3 [(0, .ref (a 0)), (1, .int p1), (2, .int p2)] := hl
  refine lv_aload_n hx hb dX6_both_0 rfl (lv_at hl 0 rfl) ?_
  refine va_get (D := (dC, dI)) (ci := 10) (v := .ref (a 4)) (C := RX6) (T := TX6) (N := 14) hx hb hts (fun _ h => gI_wsX60 h) hown hK.1 hP 0 rfl rfl 11 (by decide) (hts _ mG_4_12) (fun _ h9 => h9) rfl dX6_both_1 ?_
  refine lv_iload_n hx hb dX6_both_4 rfl (lv_at hl 1 rfl) ?_
  refine va_lald hx hb hK.1 hP 4 1 rfl rfl (by first | with_reducible assumption | exact in0_24 | exact in0_60 | decide) dX6_both_5 ?_
  refine lv_aload_n hx hb dX6_both_6 rfl (lv_at hl 0 rfl) ?_
  refine va_get (D := (dC, dI)) (ci := 10) (v := .ref (a 5)) (C := RX6) (T := TX6) (N := 14) hx hb hts (fun _ h => gI_wsX60 h) hown hK.1 hP 0 rfl rfl 12 (by decide) (hts _ mG_4_13) (fun _ h9 => h9) rfl dX6_both_7 ?_
  refine lv_iload_n hx hb dX6_both_10 rfl (lv_at hl 2 rfl) ?_
  refine va_lald hx hb hK.1 hP 5 1 rfl rfl (by first | with_reducible assumption | exact in0_24 | exact in0_60 | decide) dX6_both_11 ?_
  refine lv_lmul hx hb dX6_both_12 ?_
  refine lv_aload_n hx hb dX6_both_13 rfl (lv_at hl 0 rfl) ?_
  refine va_get (D := (dC, dI)) (ci := 10) (v := .ref (a 4)) (C := RX6) (T := TX6) (N := 14) hx hb hts (fun _ h => gI_wsX60 h) hown hK.1 hP 0 rfl rfl 11 (by decide) (hts _ mG_4_12) (fun _ h9 => h9) rfl dX6_both_14 ?_
  refine lv_iload_n hx hb dX6_both_17 rfl (lv_at hl 2 rfl) ?_
  refine va_lald hx hb hK.1 hP 4 1 rfl rfl (by first | with_reducible assumption | exact in0_24 | exact in0_60 | decide) dX6_both_18 ?_
  refine lv_aload_n hx hb dX6_both_19 rfl (lv_at hl 0 rfl) ?_
  refine va_get (D := (dC, dI)) (ci := 10) (v := .ref (a 5)) (C := RX6) (T := TX6) (N := 14) hx hb hts (fun _ h => gI_wsX60 h) hown hK.1 hP 0 rfl rfl 12 (by decide) (hts _ mG_4_13) (fun _ h9 => h9) rfl dX6_both_20 ?_
  refine lv_iload_n hx hb dX6_both_23 rfl (lv_at hl 1 rfl) ?_
  refine va_lald hx hb hK.1 hP 5 1 rfl rfl (by first | with_reducible assumption | exact in0_24 | exact in0_60 | decide) dX6_both_24 ?_
  refine lv_lmul hx hb dX6_both_25 ?_
  refine lv_lsub hx hb dX6_both_26 ?_
  exact rp_l hQ hx hb hr hlk hS (Eq.symm (by simp only [f_X6_both])) dX6_both_27
/-! X6_isOne -/
theorem hs_X6_isOne : yX6_isOne.cls ≠ "java/lang/invoke/MethodHandle" ∧ yX6_isOne.cls ≠ "java/lang/invoke/VarHandle" ∧ (parseMethodDescriptor yX6_isOne.desc).map (fun d => d.parameters.length) = some 2 := by decide +kernel
theorem hd_X6_isOne : yX6_isOne.cls = RX6 ∧ yX6_isOne.cls ≠ "java/lang/invoke/MethodHandle" ∧ yX6_isOne.cls ≠ "java/lang/invoke/VarHandle" ∧ (parseMethodDescriptor yX6_isOne.desc).map (fun d => d.parameters.length) = some 2 := ⟨rfl, hs_X6_isOne⟩
def f_X6_isOne (lp : Nat → Int64) (lq : Nat → Int64) (lr : Nat → Int64) (p1 : Int32) (p2 : Int32) : Int32 := (if (lg_cmp (f_X6_both lp lq p1 p2) (0 : Int64)) = 0 then (if (lg_cmp ((lp (Int32.toNatClampNeg p1)) * (lr (Int32.toNatClampNeg p2))) ((lp (Int32.toNatClampNeg p2)) * (lr (Int32.toNatClampNeg p1)))) = 0 then (if (lg_cmp ((lq (Int32.toNatClampNeg p1)) * (lr (Int32.toNatClampNeg p2))) ((lq (Int32.toNatClampNeg p2)) * (lr (Int32.toNatClampNeg p1)))) = 0 then (1 : Int32) else (0 : Int32)) else (0 : Int32)) else (0 : Int32))
abbrev rm_X6_isOne : Room := { frames := 1, cells := 0, slots := 0, locals := 22 }
set_option maxHeartbeats 8000000 in
set_option maxRecDepth 100000 in
theorem c_X6_isOne (l : Launch) (dC : Nat → ClassId) (dI : Nat → Nat → Nat) (a : Nat → Nat) (cI cJ : ClassId) (xs : Nat → Int32) (ys : Nat → Int32) (pl : Nat → Int32) (lp : Nat → Int64) (lq : Nat → Int64) (lr : Nat → Int64) (v0 : Int32) (v1 : Int32) (v2 : Int32) (v3 : Int32) (v4 : Int32) (v5 : Int32) (v6 : Int32) (v7 : Int32) (p1 : Int32) (p2 : Int32) (hi1 : vp_in p1 12) (hi2 : vp_in p2 12) : Met l yX6_isOne (Cond.code yX6_isOne cX6_isOne 3 (some .boolean) :: lw_G) rm_X6_isOne (pPc (dC, dI) (tIJ cI cJ) (wM a cI cJ xs ys pl lp lq lr v0 v1 v2 v3 v4 v5 v6 v7) [.ref (a 0), .int p1, .int p2]) (pQi (f_X6_isOne lp lq lr p1 p2)) 0 0 pNo := by
  refine pm_of (by decide) (Nat.le_of_ble_eq_true rfl) ?_
  intro p e s m args below meth c Q ls hQ hx hb hr hlk hml hown hts hP hK hS hl
  have hown : s.vm.findClass RX6 = some m.cls := hown
  have hl : lv_has ls 3 [(0, .ref (a 0)), (1, .int p1), (2, .int p2)] := hl
  refine lv_aload_n hx hb dX6_isOne_0 rfl (lv_at hl 0 rfl) ?_
  refine lv_iload_n hx hb dX6_isOne_1 rfl (lv_at hl 1 rfl) ?_
  refine lv_iload_n hx hb dX6_isOne_2 rfl (lv_at hl 2 rfl) ?_
  refine cp_l (va_runV (As := [.int p1, .int p2]) (rest := []) ⟨hx, hb, hml, hown, hts⟩ (c_X6_both l dC dI a cI cJ xs ys pl lp lq lr v0 v1 v2 v3 v4 v5 v6 v7 p1 p2 (by first | with_reducible assumption | exact in0_24 | exact in0_60 | decide) (by first | with_reducible assumption | exact in0_24 | exact in0_60 | decide)) (cwV 2 hts (gG_V mG_30_13 mG_30_14 mG_30_15 mG_1_5 (gG_c mG_30_16 gG_G)) rfl rfl rfl hd_X6_both ⟨Nat.le_of_ble_eq_true rfl, Nat.le_of_ble_eq_true rfl⟩) (pPcV (ci := 10) (q0 := 0) hK hP rfl rfl) rfl rfl hl.1 rfl (lv_room (Nat.le_of_ble_eq_true rfl)) dX6_isOne_3 ⟨Nat.le_of_ble_eq_true rfl, Nat.le_of_ble_eq_true rfl⟩) hP hS (fun H hP hS => ?_)
  refine lv_lconst (v := (0 : Int64)) hx hb dX6_isOne_6 (by decide) ?_
  refine W.lcmp hx hb dX6_isOne_7 ?_
  refine lv_if_ne (tgt := 75) hx hb dX6_isOne_8 (by decide) (fun c1 => ?_) (fun c1 => ?_)
  · skip
    refine lv_iconst (v := (0 : Int32)) hx hb dX6_isOne_75 (by decide) ?_
    exact rp_z hQ hx hb hr hlk hS (Eq.symm (by simp only [f_X6_isOne, if_neg c1])) (by decide) dX6_isOne_76
  · skip
    refine lv_aload_n hx hb dX6_isOne_11 rfl (lv_at hl 0 rfl) ?_
    refine va_get (D := (dC, dI)) (ci := 10) (v := .ref (a 4)) (C := RX6) (T := TX6) (N := 14) hx hb hts (fun _ h => gI_wsX60 h) hown hK.1 hP 0 rfl rfl 11 (by decide) (hts _ mG_4_12) (fun _ h9 => h9) rfl dX6_isOne_12 ?_
    refine lv_iload_n hx hb dX6_isOne_15 rfl (lv_at hl 1 rfl) ?_
    refine va_lald hx hb hK.1 hP 4 1 rfl rfl (by first | with_reducible assumption | exact in0_24 | exact in0_60 | decide) dX6_isOne_16 ?_
    refine lv_aload_n hx hb dX6_isOne_17 rfl (lv_at hl 0 rfl) ?_
    refine va_get (D := (dC, dI)) (ci := 10) (v := .ref (a 6)) (C := RX6) (T := TX6) (N := 14) hx hb hts (fun _ h => gI_wsX60 h) hown hK.1 hP 0 rfl rfl 13 (by decide) (hts _ mG_4_14) (fun _ h9 => h9) rfl dX6_isOne_18 ?_
    refine lv_iload_n hx hb dX6_isOne_21 rfl (lv_at hl 2 rfl) ?_
    refine va_lald hx hb hK.1 hP 6 1 rfl rfl (by first | with_reducible assumption | exact in0_24 | exact in0_60 | decide) dX6_isOne_22 ?_
    refine lv_lmul hx hb dX6_isOne_23 ?_
    refine lv_aload_n hx hb dX6_isOne_24 rfl (lv_at hl 0 rfl) ?_
    refine va_get (D := (dC, dI)) (ci := 10) (v := .ref (a 4)) (C := RX6) (T := TX6) (N := 14) hx hb hts (fun _ h => gI_wsX60 h) hown hK.1 hP 0 rfl rfl 11 (by decide) (hts _ mG_4_12) (fun _ h9 => h9) rfl dX6_isOne_25 ?_
    refine lv_iload_n hx hb dX6_isOne_28 rfl (lv_at hl 2 rfl) ?_
    refine va_lald hx hb hK.1 hP 4 1 rfl rfl (by first | with_reducible assumption | exact in0_24 | exact in0_60 | decide) dX6_isOne_29 ?_
    refine lv_aload_n hx hb dX6_isOne_30 rfl (lv_at hl 0 rfl) ?_
    refine va_get (D := (dC, dI)) (ci := 10) (v := .ref (a 6)) (C := RX6) (T := TX6) (N := 14) hx hb hts (fun _ h => gI_wsX60 h) hown hK.1 hP 0 rfl rfl 13 (by decide) (hts _ mG_4_14) (fun _ h9 => h9) rfl dX6_isOne_31 ?_
    refine lv_iload_n hx hb dX6_isOne_34 rfl (lv_at hl 1 rfl) ?_
    refine va_lald hx hb hK.1 hP 6 1 rfl rfl (by first | with_reducible assumption | exact in0_24 | exact in0_60 | decide) dX6_isOne_35 ?_
    refine lv_lmul hx hb dX6_isOne_36 ?_
    refine W.lcmp hx hb dX6_isOne_37 ?_
    refine lv_if_ne (tgt := 75) hx hb dX6_isOne_38 (by decide) (fun c2 => ?_) (fun c2 => ?_)
    · skip
      refine lv_iconst (v := (0 : Int32)) hx hb dX6_isOne_75 (by decide) ?_
      exact rp_z hQ hx hb hr hlk hS (Eq.symm (by simp only [f_X6_isOne, if_pos c1, if_neg c2])) (by decide) dX6_isOne_76
    · skip
      refine lv_aload_n hx hb dX6_isOne_41 rfl (lv_at hl 0 rfl) ?_
      refine va_get (D := (dC, dI)) (ci := 10) (v := .ref (a 5)) (C := RX6) (T := TX6) (N := 14) hx hb hts (fun _ h => gI_wsX60 h) hown hK.1 hP 0 rfl rfl 12 (by decide) (hts _ mG_4_13) (fun _ h9 => h9) rfl dX6_isOne_42 ?_
      refine lv_iload_n hx hb dX6_isOne_45 rfl (lv_at hl 1 rfl) ?_
      refine va_lald hx hb hK.1 hP 5 1 rfl rfl (by first | with_reducible assumption | exact in0_24 | exact in0_60 | decide) dX6_isOne_46 ?_
      refine lv_aload_n hx hb dX6_isOne_47 rfl (lv_at hl 0 rfl) ?_
      refine va_get (D := (dC, dI)) (ci := 10) (v := .ref (a 6)) (C := RX6) (T := TX6) (N := 14) hx hb hts (fun _ h => gI_wsX60 h) hown hK.1 hP 0 rfl rfl 13 (by decide) (hts _ mG_4_14) (fun _ h9 => h9) rfl dX6_isOne_48 ?_
      refine lv_iload_n hx hb dX6_isOne_51 rfl (lv_at hl 2 rfl) ?_
      refine va_lald hx hb hK.1 hP 6 1 rfl rfl (by first | with_reducible assumption | exact in0_24 | exact in0_60 | decide) dX6_isOne_52 ?_
      refine lv_lmul hx hb dX6_isOne_53 ?_
      refine lv_aload_n hx hb dX6_isOne_54 rfl (lv_at hl 0 rfl) ?_
      refine va_get (D := (dC, dI)) (ci := 10) (v := .ref (a 5)) (C := RX6) (T := TX6) (N := 14) hx hb hts (fun _ h => gI_wsX60 h) hown hK.1 hP 0 rfl rfl 12 (by decide) (hts _ mG_4_13) (fun _ h9 => h9) rfl dX6_isOne_55 ?_
      refine lv_iload_n hx hb dX6_isOne_58 rfl (lv_at hl 2 rfl) ?_
      refine va_lald hx hb hK.1 hP 5 1 rfl rfl (by first | with_reducible assumption | exact in0_24 | exact in0_60 | decide) dX6_isOne_59 ?_
      refine lv_aload_n hx hb dX6_isOne_60 rfl (lv_at hl 0 rfl) ?_
      refine va_get (D := (dC, dI)) (ci := 10) (v := .ref (a 6)) (C := RX6) (T := TX6) (N := 14) hx hb hts (fun _ h => gI_wsX60 h) hown hK.1 hP 0 rfl rfl 13 (by decide) (hts _ mG_4_14) (fun _ h9 => h9) rfl dX6_isOne_61 ?_
      refine lv_iload_n hx hb dX6_isOne_64 rfl (lv_at hl 1 rfl) ?_
      refine va_lald hx hb hK.1 hP 6 1 rfl rfl (by first | with_reducible assumption | exact in0_24 | exact in0_60 | decide) dX6_isOne_65 ?_
      refine lv_lmul hx hb dX6_isOne_66 ?_
      refine W.lcmp hx hb dX6_isOne_67 ?_
      refine lv_if_ne (tgt := 75) hx hb dX6_isOne_68 (by decide) (fun c3 => ?_) (fun c3 => ?_)
      · skip
        refine lv_iconst (v := (0 : Int32)) hx hb dX6_isOne_75 (by decide) ?_
        exact rp_z hQ hx hb hr hlk hS (Eq.symm (by simp only [f_X6_isOne, if_pos c1, if_pos c2, if_neg c3])) (by decide) dX6_isOne_76
      · skip
        refine lv_iconst (v := (1 : Int32)) hx hb dX6_isOne_71 (by decide) ?_
        refine lv_goto (tgt := 76) hx hb dX6_isOne_72 (by decide) ?_
        exact rp_z hQ hx hb hr hlk hS (Eq.symm (by simp only [f_X6_isOne, if_pos c1, if_pos c2, if_pos c3])) (by decide) dX6_isOne_76
/-! X6_isThrough -/
theorem hs_X6_isThrough : yX6_isThrough.cls ≠ "java/lang/invoke/MethodHandle" ∧ yX6_isThrough.cls ≠ "java/lang/invoke/VarHandle" ∧ (parseMethodDescriptor yX6_isThrough.desc).map (fun d => d.parameters.length) = some 3 := by decide +kernel
theorem hd_X6_isThrough : yX6_isThrough.cls = RX6 ∧ yX6_isThrough.cls ≠ "java/lang/invoke/MethodHandle" ∧ yX6_isThrough.cls ≠ "java/lang/invoke/VarHandle" ∧ (parseMethodDescriptor yX6_isThrough.desc).map (fun d => d.parameters.length) = some 3 := ⟨rfl, hs_X6_isThrough⟩
def f_X6_isThrough (lp : Nat → Int64) (lq : Nat → Int64) (lr : Nat → Int64) (p1 : Int32) (p2 : Int32) (p3 : Int32) : Int32 := (if (lg_cmp (((lp (Int32.toNatClampNeg p3)) * (((lr (Int32.toNatClampNeg p1)) * (lq (Int32.toNatClampNeg p2))) - ((lr (Int32.toNatClampNeg p2)) * (lq (Int32.toNatClampNeg p1))))) + ((lq (Int32.toNatClampNeg p3)) * (((lp (Int32.toNatClampNeg p1)) * (lr (Int32.toNatClampNeg p2))) - ((lp (Int32.toNatClampNeg p2)) * (lr (Int32.toNatClampNeg p1)))))) ((lr (Int32.toNatClampNeg p3)) * (f_X6_both lp lq p1 p2))) = 0 then (1 : Int32) else (0 : Int32))
abbrev rm_X6_isThrough : Room := { frames := 1, cells := 0, slots := 0, locals := 22 }
set_option maxHeartbeats 8000000 in
set_option maxRecDepth 100000 in
theorem c_X6_isThrough (l : Launch) (dC : Nat → ClassId) (dI : Nat → Nat → Nat) (a : Nat → Nat) (cI cJ : ClassId) (xs : Nat → Int32) (ys : Nat → Int32) (pl : Nat → Int32) (lp : Nat → Int64) (lq : Nat → Int64) (lr : Nat → Int64) (v0 : Int32) (v1 : Int32) (v2 : Int32) (v3 : Int32) (v4 : Int32) (v5 : Int32) (v6 : Int32) (v7 : Int32) (p1 : Int32) (p2 : Int32) (p3 : Int32) (hi1 : vp_in p1 12) (hi2 : vp_in p2 12) (hi3 : vp_in p3 12) : Met l yX6_isThrough (Cond.code yX6_isThrough cX6_isThrough 8 (some .boolean) :: lw_G) rm_X6_isThrough (pPc (dC, dI) (tIJ cI cJ) (wM a cI cJ xs ys pl lp lq lr v0 v1 v2 v3 v4 v5 v6 v7) [.ref (a 0), .int p1, .int p2, .int p3]) (pQi (f_X6_isThrough lp lq lr p1 p2 p3)) 0 0 pNo := by
  refine pm_of (by decide) (Nat.le_of_ble_eq_true rfl) ?_
  intro p e s m args below meth c Q ls hQ hx hb hr hlk hml hown hts hP hK hS hl
  have hown : s.vm.findClass RX6 = some m.cls := hown
  have hl : lv_has ls 8 [(0, .ref (a 0)), (1, .int p1), (2, .int p2), (3, .int p3)] := hl
  refine lv_aload_n hx hb dX6_isThrough_0 rfl (lv_at hl 0 rfl) ?_
  refine va_get (D := (dC, dI)) (ci := 10) (v := .ref (a 6)) (C := RX6) (T := TX6) (N := 14) hx hb hts (fun _ h => gI_wsX60 h) hown hK.1 hP 0 rfl rfl 13 (by decide) (hts _ mG_4_14) (fun _ h9 => h9) rfl dX6_isThrough_1 ?_
  refine lv_iload_n hx hb dX6_isThrough_4 rfl (lv_at hl 1 rfl) ?_
  refine va_lald hx hb hK.1 hP 6 1 rfl rfl (by first | with_reducible assumption | exact in0_24 | exact in0_60 | decide) dX6_isThrough_5 ?_
  refine lv_aload_n hx hb dX6_isThrough_6 rfl (lv_at hl 0 rfl) ?_
  refine va_get (D := (dC, dI)) (ci := 10) (v := .ref (a 5)) (C := RX6) (T := TX6) (N := 14) hx hb hts (fun _ h => gI_wsX60 h) hown hK.1 hP 0 rfl rfl 12 (by decide) (hts _ mG_4_13) (fun _ h9 => h9) rfl dX6_isThrough_7 ?_
  refine lv_iload_n hx hb dX6_isThrough_10 rfl (lv_at hl 2 rfl) ?_
  refine va_lald hx hb hK.1 hP 5 1 rfl rfl (by first | with_reducible assumption | exact in0_24 | exact in0_60 | decide) dX6_isThrough_11 ?_
  refine lv_lmul hx hb dX6_isThrough_12 ?_
  refine lv_aload_n hx hb dX6_isThrough_13 rfl (lv_at hl 0 rfl) ?_
  refine va_get (D := (dC, dI)) (ci := 10) (v := .ref (a 6)) (C := RX6) (T := TX6) (N := 14) hx hb hts (fun _ h => gI_wsX60 h) hown hK.1 hP 0 rfl rfl 13 (by decide) (hts _ mG_4_14) (fun _ h9 => h9) rfl dX6_isThrough_14 ?_
  refine lv_iload_n hx hb dX6_isThrough_17 rfl (lv_at hl 2 rfl) ?_
  refine va_lald hx hb hK.1 hP 6 1 rfl rfl (by first | with_reducible assumption | exact in0_24 | exact in0_60 | decide) dX6_isThrough_18 ?_
  refine lv_aload_n hx hb dX6_isThrough_19 rfl (lv_at hl 0 rfl) ?_
  refine va_get (D := (dC, dI)) (ci := 10) (v := .ref (a 5)) (C := RX6) (T := TX6) (N := 14) hx hb hts (fun _ h => gI_wsX60 h) hown hK.1 hP 0 rfl rfl 12 (by decide) (hts _ mG_4_13) (fun _ h9 => h9) rfl dX6_isThrough_20 ?_
  refine lv_iload_n hx hb dX6_isThrough_23 rfl (lv_at hl 1 rfl) ?_
  refine va_lald hx hb hK.1 hP 5 1 rfl rfl (by first | with_reducible assumption | exact in0_24 | exact in0_60 | decide) dX6_isThrough_24 ?_
  refine lv_lmul hx hb dX6_isThrough_25 ?_
  refine lv_lsub hx hb dX6_isThrough_26 ?_
  refine lv_topl (fun y1 ey1 => ?_)
  refine lv_lstore (lv' := [(4, .long y1), (0, .ref (a 0)), (1, .int p1), (2, .int p2), (3, .int p3)]) hx hb dX6_isThrough_27 hl (by decide) rfl (fun ls hl => ?_)
  refine lv_aload_n hx hb dX6_isThrough_29 rfl (lv_at hl 1 rfl) ?_
  refine va_get (D := (dC, dI)) (ci := 10) (v := .ref (a 4)) (C := RX6) (T := TX6) (N := 14) hx hb hts (fun _ h => gI_wsX60 h) hown hK.1 hP 0 rfl rfl 11 (by decide) (hts _ mG_4_12) (fun _ h9 => h9) rfl dX6_isThrough_30 ?_
  refine lv_iload_n hx hb dX6_isThrough_33 rfl (lv_at hl 2 rfl) ?_
  refine va_lald hx hb hK.1 hP 4 1 rfl rfl (by first | with_reducible assumption | exact in0_24 | exact in0_60 | decide) dX6_isThrough_34 ?_
  refine lv_aload_n hx hb dX6_isThrough_35 rfl (lv_at hl 1 rfl) ?_
  refine va_get (D := (dC, dI)) (ci := 10) (v := .ref (a 6)) (C := RX6) (T := TX6) (N := 14) hx hb hts (fun _ h => gI_wsX60 h) hown hK.1 hP 0 rfl rfl 13 (by decide) (hts _ mG_4_14) (fun _ h9 => h9) rfl dX6_isThrough_36 ?_
  refine lv_iload_n hx hb dX6_isThrough_39 rfl (lv_at hl 3 rfl) ?_
  refine va_lald hx hb hK.1 hP 6 1 rfl rfl (by first | with_reducible assumption | exact in0_24 | exact in0_60 | decide) dX6_isThrough_40 ?_
  refine lv_lmul hx hb dX6_isThrough_41 ?_
  refine lv_aload_n hx hb dX6_isThrough_42 rfl (lv_at hl 1 rfl) ?_
  refine va_get (D := (dC, dI)) (ci := 10) (v := .ref (a 4)) (C := RX6) (T := TX6) (N := 14) hx hb hts (fun _ h => gI_wsX60 h) hown hK.1 hP 0 rfl rfl 11 (by decide) (hts _ mG_4_12) (fun _ h9 => h9) rfl dX6_isThrough_43 ?_
  refine lv_iload_n hx hb dX6_isThrough_46 rfl (lv_at hl 3 rfl) ?_
  refine va_lald hx hb hK.1 hP 4 1 rfl rfl (by first | with_reducible assumption | exact in0_24 | exact in0_60 | decide) dX6_isThrough_47 ?_
  refine lv_aload_n hx hb dX6_isThrough_48 rfl (lv_at hl 1 rfl) ?_
  refine va_get (D := (dC, dI)) (ci := 10) (v := .ref (a 6)) (C := RX6) (T := TX6) (N := 14) hx hb hts (fun _ h => gI_wsX60 h) hown hK.1 hP 0 rfl rfl 13 (by decide) (hts _ mG_4_14) (fun _ h9 => h9) rfl dX6_isThrough_49 ?_
  refine lv_iload_n hx hb dX6_isThrough_52 rfl (lv_at hl 2 rfl) ?_
  refine va_lald hx hb hK.1 hP 6 1 rfl rfl (by first | with_reducible assumption | exact in0_24 | exact in0_60 | decide) dX6_isThrough_53 ?_
  refine lv_lmul hx hb dX6_isThrough_54 ?_
  refine lv_lsub hx hb dX6_isThrough_55 ?_
  refine lv_topl (fun y2 ey2 => ?_)
  refine lv_lstore (lv' := [(6, .long y2), (4, .long y1), (0, .ref (a 0)), (1, .int p1), (2, .int p2), (3, .int p3)]) hx hb dX6_isThrough_56 hl (by decide) rfl (fun ls hl => ?_)
  refine lv_aload_n hx hb dX6_isThrough_58 rfl (lv_at hl 2 rfl) ?_
  refine va_get (D := (dC, dI)) (ci := 10) (v := .ref (a 4)) (C := RX6) (T := TX6) (N := 14) hx hb hts (fun _ h => gI_wsX60 h) hown hK.1 hP 0 rfl rfl 11 (by decide) (hts _ mG_4_12) (fun _ h9 => h9) rfl dX6_isThrough_59 ?_
  refine lv_iload_n hx hb dX6_isThrough_62 rfl (lv_at hl 5 rfl) ?_
  refine va_lald hx hb hK.1 hP 4 1 rfl rfl (by first | with_reducible assumption | exact in0_24 | exact in0_60 | decide) dX6_isThrough_63 ?_
  refine lv_lload hx hb dX6_isThrough_64 (lv_at hl 1 rfl) ?_
  refine lv_lmul hx hb dX6_isThrough_66 ?_
  refine lv_aload_n hx hb dX6_isThrough_67 rfl (lv_at hl 2 rfl) ?_
  refine va_get (D := (dC, dI)) (ci := 10) (v := .ref (a 5)) (C := RX6) (T := TX6) (N := 14) hx hb hts (fun _ h => gI_wsX60 h) hown hK.1 hP 0 rfl rfl 12 (by decide) (hts _ mG_4_13) (fun _ h9 => h9) rfl dX6_isThrough_68 ?_
  refine lv_iload_n hx hb dX6_isThrough_71 rfl (lv_at hl 5 rfl) ?_
  refine va_lald hx hb hK.1 hP 5 1 rfl rfl (by first | with_reducible assumption | exact in0_24 | exact in0_60 | decide) dX6_isThrough_72 ?_
  refine lv_lload hx hb dX6_isThrough_73 (lv_at hl 0 rfl) ?_
  refine lv_lmul hx hb dX6_isThrough_75 ?_
  refine lv_ladd hx hb dX6_isThrough_76 ?_
  refine lv_aload_n hx hb dX6_isThrough_77 rfl (lv_at hl 2 rfl) ?_
  refine va_get (D := (dC, dI)) (ci := 10) (v := .ref (a 6)) (C := RX6) (T := TX6) (N := 14) hx hb hts (fun _ h => gI_wsX60 h) hown hK.1 hP 0 rfl rfl 13 (by decide) (hts _ mG_4_14) (fun _ h9 => h9) rfl dX6_isThrough_78 ?_
  refine lv_iload_n hx hb dX6_isThrough_81 rfl (lv_at hl 5 rfl) ?_
  refine va_lald hx hb hK.1 hP 6 1 rfl rfl (by first | with_reducible assumption | exact in0_24 | exact in0_60 | decide) dX6_isThrough_82 ?_
  refine lv_aload_n hx hb dX6_isThrough_83 rfl (lv_at hl 2 rfl) ?_
  refine lv_iload_n hx hb dX6_isThrough_84 rfl (lv_at hl 3 rfl) ?_
  refine lv_iload_n hx hb dX6_isThrough_85 rfl (lv_at hl 4 rfl) ?_
  refine cp_l (va_runV (As := [.int p1, .int p2]) (rest := [.long (lr (Int32.toNatClampNeg p3)), .long (((lp (Int32.toNatClampNeg p3)) * y1) + ((lq (Int32.toNatClampNeg p3)) * y2))]) ⟨hx, hb, hml, hown, hts⟩ (c_X6_both l dC dI a cI cJ xs ys pl lp lq lr v0 v1 v2 v3 v4 v5 v6 v7 p1 p2 (by first | with_reducible assumption | exact in0_24 | exact in0_60 | decide) (by first | with_reducible assumption | exact in0_24 | exact in0_60 | decide)) (cwV 2 hts (gG_V mG_30_13 mG_30_14 mG_30_15 mG_1_5 (gG_c mG_30_16 gG_G)) rfl rfl rfl hd_X6_both ⟨Nat.le_of_ble_eq_true rfl, Nat.le_of_ble_eq_true rfl⟩) (pPcV (ci := 10) (q0 := 0) hK hP rfl rfl) rfl rfl hl.1 rfl (lv_room (Nat.le_of_ble_eq_true rfl)) dX6_isThrough_86 ⟨Nat.le_of_ble_eq_true rfl, Nat.le_of_ble_eq_true rfl⟩) hP hS (fun H hP hS => ?_)
  refine lv_lmul hx hb dX6_isThrough_89 ?_
  refine W.lcmp hx hb dX6_isThrough_90 ?_
  refine lv_if_ne (tgt := 98) hx hb dX6_isThrough_91 (by decide) (fun c3 => ?_) (fun c3 => ?_)
  · skip
    refine lv_iconst (v := (0 : Int32)) hx hb dX6_isThrough_98 (by decide) ?_
    exact rp_z hQ hx hb hr hlk hS (Eq.symm (by subst ey1; subst ey2; simp only [f_X6_isThrough, if_neg c3])) (by decide) dX6_isThrough_99
  · skip
    refine lv_iconst (v := (1 : Int32)) hx hb dX6_isThrough_94 (by decide) ?_
    refine lv_goto (tgt := 99) hx hb dX6_isThrough_95 (by decide) ?_
    exact rp_z hQ hx hb hr hlk hS (Eq.symm (by subst ey1; subst ey2; simp only [f_X6_isThrough, if_pos c3])) (by decide) dX6_isThrough_99
/-! X6_isNew -/
theorem hs_X6_isNew : yX6_isNew.cls ≠ "java/lang/invoke/MethodHandle" ∧ yX6_isNew.cls ≠ "java/lang/invoke/VarHandle" ∧ (parseMethodDescriptor yX6_isNew.desc).map (fun d => d.parameters.length) = some 1 := by decide +kernel
theorem hd_X6_isNew : yX6_isNew.cls = RX6 ∧ yX6_isNew.cls ≠ "java/lang/invoke/MethodHandle" ∧ yX6_isNew.cls ≠ "java/lang/invoke/VarHandle" ∧ (parseMethodDescriptor yX6_isNew.desc).map (fun d => d.parameters.length) = some 1 := ⟨rfl, hs_X6_isNew⟩
def f_X6_isNew_L4 (lp : Nat → Int64) (lq : Nat → Int64) (lr : Nat → Int64) (p1 : Int32)  : Nat → Int32 → Int32 → Int32
  | 0, _, _ => 0
  | n + 1, x2_4, x3_4 => (if p1 ≤ x3_4 then x2_4 else (if x2_4 = 0 then (f_X6_isNew_L4 lp lq lr p1  n (0 : Int32) (x3_4 + 1)) else (if (f_X6_isOne lp lq lr p1 x3_4) = 0 then (f_X6_isNew_L4 lp lq lr p1  n (1 : Int32) (x3_4 + 1)) else (f_X6_isNew_L4 lp lq lr p1  n (0 : Int32) (x3_4 + 1)))))
def f_X6_isNew (lp : Nat → Int64) (lq : Nat → Int64) (lr : Nat → Int64) (p1 : Int32) : Int32 := (f_X6_isNew_L4 lp lq lr p1  25 (1 : Int32) (0 : Int32))
abbrev rm_X6_isNew : Room := { frames := 2, cells := 0, slots := 0, locals := 44 }
set_option maxHeartbeats 8000000 in
set_option maxRecDepth 100000 in
theorem c_X6_isNew (l : Launch) (dC : Nat → ClassId) (dI : Nat → Nat → Nat) (a : Nat → Nat) (cI cJ : ClassId) (xs : Nat → Int32) (ys : Nat → Int32) (pl : Nat → Int32) (lp : Nat → Int64) (lq : Nat → Int64) (lr : Nat → Int64) (v0 : Int32) (v1 : Int32) (v2 : Int32) (v3 : Int32) (v4 : Int32) (v5 : Int32) (v6 : Int32) (v7 : Int32) (p1 : Int32) (hp : vp_in p1 12) : Met l yX6_isNew (Cond.code yX6_isNew cX6_isNew 4 (some .boolean) :: lw_G) rm_X6_isNew (pPc (dC, dI) (tIJ cI cJ) (wM a cI cJ xs ys pl lp lq lr v0 v1 v2 v3 v4 v5 v6 v7) [.ref (a 0), .int p1]) (pQi (f_X6_isNew lp lq lr p1)) 0 0 pNo := by
  refine pm_of (by decide) (Nat.le_of_ble_eq_true rfl) ?_
  intro p e s m args below meth c Q ls hQ hx hb hr hlk hml hown hts hP hK hS hl
  have hown : s.vm.findClass RX6 = some m.cls := hown
  have hl : lv_has ls 4 [(0, .ref (a 0)), (1, .int p1)] := hl
  obtain ⟨F, eF⟩ : ∃ F, F = (f_X6_isNew lp lq lr p1) := ⟨_, rfl⟩
  have hn : p1 ≤ 24 := in12_le hp
  refine lv_iconst (v := (1 : Int32)) hx hb dX6_isNew_0 (by decide) ?_
  refine lv_istore_n (lv' := [(2, .int (1 : Int32)), (0, .ref (a 0)), (1, .int p1)]) hx hb dX6_isNew_1 rfl hl (by decide) rfl (fun ls hl => ?_)
  refine lv_iconst (v := (0 : Int32)) hx hb dX6_isNew_2 (by decide) ?_
  refine lv_istore_n (lv' := [(3, .int (0 : Int32)), (2, .int (1 : Int32)), (0, .ref (a 0)), (1, .int p1)]) hx hb dX6_isNew_3 rfl hl (by decide) rfl (fun ls hl => ?_)
  have K4 : ∀ (n4 : Nat) (x2_4 : Int32) (x3_4 : Int32), 0 ≤ x3_4 → ((p1).toInt - x3_4.toInt).toNat < n4 → (x2_4 = 0 ∨ x2_4 = 1) → F = f_X6_isNew_L4 lp lq lr p1  n4 x2_4 x3_4 → ∀ (H : Heap) (locs : List Loc), va_P (dC, dI) vwCl (wM a cI cJ xs ys pl lp lq lr v0 v1 v2 v3 v4 v5 v6 v7) H → va_S pNo s.heap H locs → ∀ (ls : Array Slot), lv_has ls 4 [(0, .ref (a 0)), (1, .int p1), (2, .int x2_4), (3, .int x3_4)] → W p l e rm_X6_isNew s m args below meth c H locs 0 0 Q (F0 m 4 ls []) := by
    intro n4
    induction n4 with
    | zero => intro x2_4 x3_4 h0_4 hf_4 gb hF H locs hP hS ls hl; exact absurd hf_4 (Nat.not_lt_zero _)
    | succ n4 ih4 =>
      intro x2_4 x3_4 h0_4 hf_4 gb hF H locs hP hS ls hl
      refine lv_iload_n hx hb dX6_isNew_4 rfl (lv_at hl 3 rfl) ?_
      refine lv_iload_n hx hb dX6_isNew_5 rfl (lv_at hl 1 rfl) ?_
      refine lv_icmp_ge (tgt := 34) hx hb dX6_isNew_6 (by decide) (fun c1 => ?_) (fun c1 => ?_)
      · skip
        refine lv_iload_n hx hb dX6_isNew_34 rfl (lv_at hl 2 rfl) ?_
        exact rp_z hQ hx hb hr hlk hS (Eq.symm (eF.symm.trans (by rw [hF]; simp only [f_X6_isNew_L4, if_pos c1]))) (nz gb) dX6_isNew_35
      · skip
        have hI : vp_in x3_4 12 := in12_tr hp h0_4 c1
        refine lv_iload_n hx hb dX6_isNew_9 rfl (lv_at hl 2 rfl) ?_
        refine lv_if_eq (tgt := 26) hx hb dX6_isNew_10 (by decide) (fun c2 => ?_) (fun c2 => ?_)
        · skip
          refine lv_iconst (v := (0 : Int32)) hx hb dX6_isNew_26 (by decide) ?_
          refine lv_istore_n (lv' := [(2, .int (0 : Int32)), (0, .ref (a 0)), (1, .int p1), (3, .int x3_4)]) hx hb dX6_isNew_27 rfl hl (by decide) rfl (fun ls hl => ?_)
          refine lv_iinc (v := (x3_4 + 1)) (lv' := [(3, .int (x3_4 + 1)), (2, .int (0 : Int32)), (0, .ref (a 0)), (1, .int p1)]) hx hb dX6_isNew_28 hl (k := 3) rfl rfl (by decide) rfl (fun ls hl => ?_)
          refine lv_goto (tgt := 4) hx hb dX6_isNew_31 (by decide) ?_
          exact ih4 (0 : Int32) (x3_4 + 1) (lp_pos h0_4 c1) (lp_dec c1 hf_4) (by first | exact Or.inl rfl | exact Or.inr rfl) (by rw [hF]; simp only [f_X6_isNew_L4, if_neg c1, if_pos c2]) _ _ hP hS ls (lv_sub hl [2, 3, 1, 0] rfl)
        · skip
          refine lv_aload_n hx hb dX6_isNew_13 rfl (lv_at hl 0 rfl) ?_
          refine lv_iload_n hx hb dX6_isNew_14 rfl (lv_at hl 1 rfl) ?_
          refine lv_iload_n hx hb dX6_isNew_15 rfl (lv_at hl 3 rfl) ?_
          refine cp_i (va_runV (As := [.int p1, .int x3_4]) (rest := []) ⟨hx, hb, hml, hown, hts⟩ (c_X6_isOne l dC dI a cI cJ xs ys pl lp lq lr v0 v1 v2 v3 v4 v5 v6 v7 p1 x3_4 (by first | with_reducible assumption | exact in0_24 | exact in0_60 | decide) (by first | with_reducible assumption | exact in0_24 | exact in0_60 | decide)) (cwV 2 hts (gG_V mG_30_9 mG_30_10 mG_30_11 mG_1_5 (gG_c mG_30_12 gG_G)) rfl rfl rfl hd_X6_isOne ⟨Nat.le_of_ble_eq_true rfl, Nat.le_of_ble_eq_true rfl⟩) (pPcV (ci := 10) (q0 := 0) hK hP rfl rfl) rfl rfl hl.1 rfl (lv_room (Nat.le_of_ble_eq_true rfl)) dX6_isNew_16 ⟨Nat.le_of_ble_eq_true rfl, Nat.le_of_ble_eq_true rfl⟩) hP hS (fun H hP hS => ?_)
          refine lv_if_ne (tgt := 26) hx hb dX6_isNew_19 (by decide) (fun c3 => ?_) (fun c3 => ?_)
          · skip
            refine lv_iconst (v := (0 : Int32)) hx hb dX6_isNew_26 (by decide) ?_
            refine lv_istore_n (lv' := [(2, .int (0 : Int32)), (0, .ref (a 0)), (1, .int p1), (3, .int x3_4)]) hx hb dX6_isNew_27 rfl hl (by decide) rfl (fun ls hl => ?_)
            refine lv_iinc (v := (x3_4 + 1)) (lv' := [(3, .int (x3_4 + 1)), (2, .int (0 : Int32)), (0, .ref (a 0)), (1, .int p1)]) hx hb dX6_isNew_28 hl (k := 3) rfl rfl (by decide) rfl (fun ls hl => ?_)
            refine lv_goto (tgt := 4) hx hb dX6_isNew_31 (by decide) ?_
            exact ih4 (0 : Int32) (x3_4 + 1) (lp_pos h0_4 c1) (lp_dec c1 hf_4) (by first | exact Or.inl rfl | exact Or.inr rfl) (by rw [hF]; simp only [f_X6_isNew_L4, if_neg c1, if_neg c2, if_neg c3]) _ _ hP hS ls (lv_sub hl [2, 3, 1, 0] rfl)
          · skip
            refine lv_iconst (v := (1 : Int32)) hx hb dX6_isNew_22 (by decide) ?_
            refine lv_goto (tgt := 27) hx hb dX6_isNew_23 (by decide) ?_
            refine lv_istore_n (lv' := [(2, .int (1 : Int32)), (0, .ref (a 0)), (1, .int p1), (3, .int x3_4)]) hx hb dX6_isNew_27 rfl hl (by decide) rfl (fun ls hl => ?_)
            refine lv_iinc (v := (x3_4 + 1)) (lv' := [(3, .int (x3_4 + 1)), (2, .int (1 : Int32)), (0, .ref (a 0)), (1, .int p1)]) hx hb dX6_isNew_28 hl (k := 3) rfl rfl (by decide) rfl (fun ls hl => ?_)
            refine lv_goto (tgt := 4) hx hb dX6_isNew_31 (by decide) ?_
            exact ih4 (1 : Int32) (x3_4 + 1) (lp_pos h0_4 c1) (lp_dec c1 hf_4) (by first | exact Or.inl rfl | exact Or.inr rfl) (by rw [hF]; simp only [f_X6_isNew_L4, if_neg c1, if_neg c2, if_pos c3]) _ _ hP hS ls (lv_sub hl [2, 3, 1, 0] rfl)
  exact K4 25 (1 : Int32) (0 : Int32) (by decide) (lp_fuel (by decide) hn) (Or.inr rfl) (by rw [eF]; simp only [f_X6_isNew]) _ _ hP hS ls (lv_sub hl [2, 3, 1, 0] rfl)
