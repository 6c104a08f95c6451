/-! X4_hasPlace -/
theorem hs_X4_hasPlace : yX4_hasPlace.cls ≠ "java/lang/invoke/MethodHandle" ∧ yX4_hasPlace.cls ≠ "java/lang/invoke/VarHandle" ∧ (parseMethodDescriptor yX4_hasPlace.desc).map (fun d => d.parameters.length) = some 1 := by decide +kernel
theorem hd_X4_hasPlace : yX4_hasPlace.cls = RX4 ∧ yX4_hasPlace.cls ≠ "java/lang/invoke/MethodHandle" ∧ yX4_hasPlace.cls ≠ "java/lang/invoke/VarHandle" ∧ (parseMethodDescriptor yX4_hasPlace.desc).map (fun d => d.parameters.length) = some 1 := ⟨rfl, hs_X4_hasPlace⟩
def f_X4_hasPlace (v5 : Int32) (p1 : Int32) : Int32 := (if p1 < 0 then (0 : Int32) else (if v5 ≤ p1 then (0 : Int32) else (1 : Int32)))
abbrev rm_X4_hasPlace : Room := { frames := 0, cells := 0, slots := 0, locals := 0 }
set_option maxHeartbeats 8000000 in
set_option maxRecDepth 100000 in
theorem c_X4_hasPlace (l : Launch) (dC : Nat → ClassId) (dI : Nat → Nat → Nat) (a : Nat → Nat) (cI cJ : ClassId) (xs : Nat → Int32) (ys : Nat → Int32) (pl : Nat → Int32) (kp : Nat → Int32) (lp : Nat → Int64) (lq : Nat → Int64) (lr : Nat → Int64) (v0 : Int32) (v1 : Int32) (v2 : Int32) (v3 : Int32) (v4 : Int32) (v5 : Int32) (v6 : Int32) (v7 : Int32) (v8 : Int32) (v9 : Int32) (v10 : Int32) (p1 : Int32) : Met l yX4_hasPlace (Cond.code yX4_hasPlace cX4_hasPlace 2 (some .boolean) :: lw_G) rm_X4_hasPlace (pPc (dC, dI) (tIJ cI cJ) (wC a cI cJ xs ys pl kp lp lq lr v0 v1 v2 v3 v4 v5 v6 v7 v8 v9 v10) [.ref (a 6), .int p1]) (pQi (f_X4_hasPlace v5 p1)) 0 0 pNo := by
  refine pm_of (by decide) (Nat.le_of_ble_eq_true rfl) ?_
  intro p e s m args below meth c Q ls hQ hx hb hr hlk hml hown hts hP hK hS hl
  have hown : s.vm.findClass RX4 = some m.cls := hown
  have hl : lv_has ls 2 [(0, .ref (a 6)), (1, .int p1)] := hl
  refine lv_iload_n hx hb dX4_hasPlace_0 rfl (lv_at hl 1 rfl) ?_
  refine lv_if_lt (tgt := 16) hx hb dX4_hasPlace_1 (by decide) (fun c1 => ?_) (fun c1 => ?_)
  · skip
    refine lv_iconst (v := (0 : Int32)) hx hb dX4_hasPlace_16 (by decide) ?_
    exact rp_z hQ hx hb hr hlk hS (Eq.symm (by simp only [f_X4_hasPlace, if_pos c1])) (by decide) dX4_hasPlace_17
  · skip
    refine lv_iload_n hx hb dX4_hasPlace_4 rfl (lv_at hl 1 rfl) ?_
    refine lv_aload_n hx hb dX4_hasPlace_5 rfl (lv_at hl 0 rfl) ?_
    refine va_get (D := (dC, dI)) (ci := 8) (v := .int v5) (C := RX4) (T := TX4) (N := 3) hx hb hts (fun _ h => gI_wsX40 h) hown hK.1 hP 6 rfl rfl 2 (by decide) (hts _ mG_3_12) (fun _ h9 => h9) rfl dX4_hasPlace_6 ?_
    refine lv_icmp_ge (tgt := 16) hx hb dX4_hasPlace_9 (by decide) (fun c2 => ?_) (fun c2 => ?_)
    · skip
      refine lv_iconst (v := (0 : Int32)) hx hb dX4_hasPlace_16 (by decide) ?_
      exact rp_z hQ hx hb hr hlk hS (Eq.symm (by simp only [f_X4_hasPlace, if_neg c1, if_pos c2])) (by decide) dX4_hasPlace_17
    · skip
      refine lv_iconst (v := (1 : Int32)) hx hb dX4_hasPlace_12 (by decide) ?_
      refine lv_goto (tgt := 17) hx hb dX4_hasPlace_13 (by decide) ?_
      exact rp_z hQ hx hb hr hlk hS (Eq.symm (by simp only [f_X4_hasPlace, if_neg c1, if_neg c2])) (by decide) dX4_hasPlace_17
/-! X4_fault -/
theorem hs_X4_fault : yX4_fault.cls ≠ "java/lang/invoke/MethodHandle" ∧ yX4_fault.cls ≠ "java/lang/invoke/VarHandle" ∧ (parseMethodDescriptor yX4_fault.desc).map (fun d => d.parameters.length) = some 2 := by decide +kernel
theorem hd_X4_fault : yX4_fault.cls = RX4 ∧ yX4_fault.cls ≠ "java/lang/invoke/MethodHandle" ∧ yX4_fault.cls ≠ "java/lang/invoke/VarHandle" ∧ (parseMethodDescriptor yX4_fault.desc).map (fun d => d.parameters.length) = some 2 := ⟨rfl, hs_X4_fault⟩
def f_X4_fault_L18 (pl : Nat → Int32) (v5 : Int32) (p1 : Int32) (p2 : Int32)  : Nat → Int32 → Int32
  | 0, _ => 0
  | n + 1, x3_18 => (if p1 ≤ x3_18 then (0 : Int32) else (if (pl (Int32.toNatClampNeg x3_18)) = (-1 : Int32) then (-4 : Int32) else (f_X4_fault_L18 pl v5 p1 p2  n (x3_18 + 1))))
def f_X4_fault (pl : Nat → Int32) (v5 : Int32) (p1 : Int32) (p2 : Int32) : Int32 := (if p1 < p2 then (-2 : Int32) else (if p1 ≤ v5 then (f_X4_fault_L18 pl v5 p1 p2  25 (0 : Int32)) else (-2 : Int32)))
abbrev rm_X4_fault : Room := { frames := 0, cells := 0, slots := 0, locals := 0 }
set_option maxHeartbeats 8000000 in
set_option maxRecDepth 100000 in
theorem c_X4_fault (l : Launch) (dC : Nat → ClassId) (dI : Nat → Nat → Nat) (a : Nat → Nat) (cI cJ : ClassId) (xs : Nat → Int32) (ys : Nat → Int32) (pl : Nat → Int32) (kp : Nat → Int32) (lp : Nat → Int64) (lq : Nat → Int64) (lr : Nat → Int64) (v0 : Int32) (v1 : Int32) (v2 : Int32) (v3 : Int32) (v4 : Int32) (v5 : Int32) (v6 : Int32) (v7 : Int32) (v8 : Int32) (v9 : Int32) (v10 : Int32) (p1 : Int32) (p2 : Int32) (hh : v5 ≤ 24) : Met l yX4_fault (Cond.code yX4_fault cX4_fault 4 (some .int) :: lw_G) rm_X4_fault (pPc (dC, dI) (tIJ cI cJ) (wC a cI cJ xs ys pl kp lp lq lr v0 v1 v2 v3 v4 v5 v6 v7 v8 v9 v10) [.ref (a 6), .int p1, .int p2]) (pQi (f_X4_fault pl v5 p1 p2)) 0 0 pNo := by
  refine pm_of (by decide) (Nat.le_of_ble_eq_true rfl) ?_
  intro p e s m args below meth c Q ls hQ hx hb hr hlk hml hown hts hP hK hS hl
  have hown : s.vm.findClass RX4 = some m.cls := hown
  have hl : lv_has ls 4 [(0, .ref (a 6)), (1, .int p1), (2, .int p2)] := hl
  obtain ⟨F, eF⟩ : ∃ F, F = (f_X4_fault pl v5 p1 p2) := ⟨_, rfl⟩
  refine lv_iload_n hx hb dX4_fault_0 rfl (lv_at hl 1 rfl) ?_
  refine lv_iload_n hx hb dX4_fault_1 rfl (lv_at hl 2 rfl) ?_
  refine lv_icmp_lt (tgt := 13) hx hb dX4_fault_2 (by decide) (fun c1 => ?_) (fun c1 => ?_)
  · skip
    refine lv_bipush (v := (-2 : Int32)) hx hb dX4_fault_13 (by decide) ?_
    exact rp_i hQ hx hb hr hlk hS (Eq.symm (by simp only [f_X4_fault, if_pos c1])) dX4_fault_15
  · skip
    refine lv_iload_n hx hb dX4_fault_5 rfl (lv_at hl 1 rfl) ?_
    refine lv_aload_n hx hb dX4_fault_6 rfl (lv_at hl 0 rfl) ?_
    refine va_get (D := (dC, dI)) (ci := 8) (v := .int v5) (C := RX4) (T := TX4) (N := 3) hx hb hts (fun _ h => gI_wsX40 h) hown hK.1 hP 6 rfl rfl 2 (by decide) (hts _ mG_3_12) (fun _ h9 => h9) rfl dX4_fault_7 ?_
    refine lv_icmp_le (tgt := 16) hx hb dX4_fault_10 (by decide) (fun c2 => ?_) (fun c2 => ?_)
    · skip
      have hn : p1 ≤ 24 := Int32.le_trans c2 hh
      refine lv_iconst (v := (0 : Int32)) hx hb dX4_fault_16 (by decide) ?_
      refine lv_istore_n (lv' := [(3, .int (0 : Int32)), (0, .ref (a 6)), (1, .int p1), (2, .int p2)]) hx hb dX4_fault_17 rfl hl (by decide) rfl (fun ls hl => ?_)
      have K18 : ∀ (n18 : Nat) (x3_18 : Int32), 0 ≤ x3_18 → ((p1).toInt - x3_18.toInt).toNat < n18 → F = f_X4_fault_L18 pl v5 p1 p2  n18 x3_18 → ∀ (H : Heap) (locs : List Loc), va_P (dC, dI) vwCl (wC a cI cJ xs ys pl kp lp lq lr v0 v1 v2 v3 v4 v5 v6 v7 v8 v9 v10) H → va_S pNo s.heap H locs → ∀ (ls : Array Slot), lv_has ls 4 [(0, .ref (a 6)), (1, .int p1), (3, .int x3_18)] → W p l e rm_X4_fault s m args below meth c H locs 0 0 Q (F0 m 18 ls []) := by
        intro n18
        induction n18 with
        | zero => intro x3_18 h0_18 hf_18 hF H locs hP hS ls hl; exact absurd hf_18 (Nat.not_lt_zero _)
        | succ n18 ih18 =>
          intro x3_18 h0_18 hf_18 hF H locs hP hS ls hl
          refine lv_iload_n hx hb dX4_fault_18 rfl (lv_at hl 2 rfl) ?_
          refine lv_iload_n hx hb dX4_fault_19 rfl (lv_at hl 1 rfl) ?_
          refine lv_icmp_ge (tgt := 42) hx hb dX4_fault_20 (by decide) (fun c3 => ?_) (fun c3 => ?_)
          · skip
            refine lv_iconst (v := (0 : Int32)) hx hb dX4_fault_42 (by decide) ?_
            exact rp_i hQ hx hb hr hlk hS (Eq.symm (eF.symm.trans (by rw [hF]; simp only [f_X4_fault_L18, if_pos c3]))) dX4_fault_43
          · skip
            have hI : vp_in x3_18 24 := ix_lt h0_18 c3 hn
            refine lv_aload_n hx hb dX4_fault_23 rfl (lv_at hl 0 rfl) ?_
            refine va_get (D := (dC, dI)) (ci := 8) (v := .ref (a 7)) (C := RX4) (T := TX4) (N := 3) hx hb hts (fun _ h => gI_wsX40 h) hown hK.1 hP 6 rfl rfl 1 (by decide) (hts _ mG_3_11) (fun _ h9 => h9) rfl dX4_fault_24 ?_
            refine lv_iload_n hx hb dX4_fault_27 rfl (lv_at hl 2 rfl) ?_
            refine va_iald hx hb hK.1 hP 7 0 rfl rfl (by first | with_reducible assumption | exact in0_24 | exact in0_60 | decide) dX4_fault_28 ?_
            refine lv_iconst (v := (-1 : Int32)) hx hb dX4_fault_29 (by decide) ?_
            refine lv_icmp_ne (tgt := 36) hx hb dX4_fault_30 (by decide) (fun c4 => ?_) (fun c4 => ?_)
            · skip
              refine lv_iinc (v := (x3_18 + 1)) (lv' := [(3, .int (x3_18 + 1)), (0, .ref (a 6)), (1, .int p1)]) hx hb dX4_fault_36 hl (k := 2) rfl rfl (by decide) rfl (fun ls hl => ?_)
              refine lv_goto (tgt := 18) hx hb dX4_fault_39 (by decide) ?_
              exact ih18 (x3_18 + 1) (lp_pos h0_18 c3) (lp_dec c3 hf_18) (by rw [hF]; simp only [f_X4_fault_L18, if_neg c3, if_neg c4]) _ _ hP hS ls (lv_sub hl [1, 2, 0] rfl)
            · skip
              refine lv_bipush (v := (-4 : Int32)) hx hb dX4_fault_33 (by decide) ?_
              exact rp_i hQ hx hb hr hlk hS (Eq.symm (eF.symm.trans (by rw [hF]; simp only [f_X4_fault_L18, if_neg c3, if_pos c4]))) dX4_fault_35
      exact K18 25 (0 : Int32) (by decide) (lp_fuel (by decide) hn) (by rw [eF]; simp only [f_X4_fault, if_neg c1, if_pos c2]) _ _ hP hS ls (lv_sub hl [1, 2, 0] rfl)
    · skip
      refine lv_bipush (v := (-2 : Int32)) hx hb dX4_fault_13 (by decide) ?_
      exact rp_i hQ hx hb hr hlk hS (Eq.symm (by simp only [f_X4_fault, if_neg c1, if_neg c2])) dX4_fault_15
/-! X4_endOf -/
theorem hs_X4_endOf : yX4_endOf.cls ≠ "java/lang/invoke/MethodHandle" ∧ yX4_endOf.cls ≠ "java/lang/invoke/VarHandle" ∧ (parseMethodDescriptor yX4_endOf.desc).map (fun d => d.parameters.length) = some 2 := by decide +kernel
theorem hd_X4_endOf : yX4_endOf.cls = RX4 ∧ yX4_endOf.cls ≠ "java/lang/invoke/MethodHandle" ∧ yX4_endOf.cls ≠ "java/lang/invoke/VarHandle" ∧ (parseMethodDescriptor yX4_endOf.desc).map (fun d => d.parameters.length) = some 2 := ⟨rfl, hs_X4_endOf⟩
def f_X4_endOf (pl : Nat → Int32) (p1 : Int32) (p2 : Int32) : Int32 := (if p2 ≤ (p1 + (1 : Int32)) then (pl (Int32.toNatClampNeg (0 : Int32))) else (pl (Int32.toNatClampNeg (p1 + (1 : Int32)))))
abbrev rm_X4_endOf : Room := { frames := 0, cells := 0, slots := 0, locals := 0 }
set_option maxHeartbeats 8000000 in
set_option maxRecDepth 100000 in
theorem c_X4_endOf (l : Launch) (dC : Nat → ClassId) (dI : Nat → Nat → Nat) (a : Nat → Nat) (cI cJ : ClassId) (xs : Nat → Int32) (ys : Nat → Int32) (pl : Nat → Int32) (kp : Nat → Int32) (lp : Nat → Int64) (lq : Nat → Int64) (lr : Nat → Int64) (v0 : Int32) (v1 : Int32) (v2 : Int32) (v3 : Int32) (v4 : Int32) (v5 : Int32) (v6 : Int32) (v7 : Int32) (v8 : Int32) (v9 : Int32) (v10 : Int32) (p1 : Int32) (p2 : Int32) (he : 0 ≤ p1) (hlt : ¬ p2 ≤ p1) (hn : p2 ≤ 24) : Met l yX4_endOf (Cond.code yX4_endOf cX4_endOf 3 (some .int) :: lw_G) rm_X4_endOf (pPc (dC, dI) (tIJ cI cJ) (wC a cI cJ xs ys pl kp lp lq lr v0 v1 v2 v3 v4 v5 v6 v7 v8 v9 v10) [.ref (a 6), .int p1, .int p2]) (pQi (f_X4_endOf pl p1 p2)) 0 0 pNo := by
  refine pm_of (by decide) (Nat.le_of_ble_eq_true rfl) ?_
  intro p e s m args below meth c Q ls hQ hx hb hr hlk hml hown hts hP hK hS hl
  have hown : s.vm.findClass RX4 = some m.cls := hown
  have hl : lv_has ls 3 [(0, .ref (a 6)), (1, .int p1), (2, .int p2)] := hl
  refine lv_iload_n hx hb dX4_endOf_0 rfl (lv_at hl 1 rfl) ?_
  refine lv_iconst (v := (1 : Int32)) hx hb dX4_endOf_1 (by decide) ?_
  refine lv_iadd hx hb dX4_endOf_2 ?_
  refine lv_iload_n hx hb dX4_endOf_3 rfl (lv_at hl 2 rfl) ?_
  refine lv_icmp_ge (tgt := 18) hx hb dX4_endOf_4 (by decide) (fun c1 => ?_) (fun c1 => ?_)
  · skip
    refine lv_aload_n hx hb dX4_endOf_18 rfl (lv_at hl 0 rfl) ?_
    refine va_get (D := (dC, dI)) (ci := 8) (v := .ref (a 7)) (C := RX4) (T := TX4) (N := 3) hx hb hts (fun _ h => gI_wsX40 h) hown hK.1 hP 6 rfl rfl 1 (by decide) (hts _ mG_3_11) (fun _ h9 => h9) rfl dX4_endOf_19 ?_
    refine lv_iconst (v := (0 : Int32)) hx hb dX4_endOf_22 (by decide) ?_
    refine va_iald hx hb hK.1 hP 7 0 rfl rfl (by first | with_reducible assumption | exact in0_24 | exact in0_60 | decide) dX4_endOf_23 ?_
    exact rp_i hQ hx hb hr hlk hS (Eq.symm (by simp only [f_X4_endOf, if_pos c1])) dX4_endOf_24
  · skip
    have hI : vp_in (p1 + 1) 24 := ix_lt (lp_pos he hlt) c1 hn
    refine lv_aload_n hx hb dX4_endOf_7 rfl (lv_at hl 0 rfl) ?_
    refine va_get (D := (dC, dI)) (ci := 8) (v := .ref (a 7)) (C := RX4) (T := TX4) (N := 3) hx hb hts (fun _ h => gI_wsX40 h) hown hK.1 hP 6 rfl rfl 1 (by decide) (hts _ mG_3_11) (fun _ h9 => h9) rfl dX4_endOf_8 ?_
    refine lv_iload_n hx hb dX4_endOf_11 rfl (lv_at hl 1 rfl) ?_
    refine lv_iconst (v := (1 : Int32)) hx hb dX4_endOf_12 (by decide) ?_
    refine lv_iadd hx hb dX4_endOf_13 ?_
    refine va_iald hx hb hK.1 hP 7 0 rfl rfl (by first | with_reducible assumption | exact in0_24 | exact in0_60 | decide) dX4_endOf_14 ?_
    refine lv_goto (tgt := 24) hx hb dX4_endOf_15 (by decide) ?_
    exact rp_i hQ hx hb hr hlk hS (Eq.symm (by simp only [f_X4_endOf, if_neg c1])) dX4_endOf_24
theorem in_endOf {pl : Nat → Int32} {i n : Int32} (hv : ∀ j : Nat, (j : Int) < n.toInt → vp_in (pl j) 60) (h0 : 0 ≤ i) (h : ¬ n ≤ i) : vp_in (f_X4_endOf pl i n) 60 := by
  unfold f_X4_endOf
  split
  · refine hv_at hv (by decide) (fun h2 => ?_)
    exact h (Int32.le_trans h2 h0)
  · next c => exact hv_at hv (lp_pos h0 h) c
/-! X4_climbsBeside -/
theorem hs_X4_climbsBeside : yX4_climbsBeside.cls ≠ "java/lang/invoke/MethodHandle" ∧ yX4_climbsBeside.cls ≠ "java/lang/invoke/VarHandle" ∧ (parseMethodDescriptor yX4_climbsBeside.desc).map (fun d => d.parameters.length) = some 3 := by decide +kernel
theorem hd_X4_climbsBeside : yX4_climbsBeside.cls = RX4 ∧ yX4_climbsBeside.cls ≠ "java/lang/invoke/MethodHandle" ∧ yX4_climbsBeside.cls ≠ "java/lang/invoke/VarHandle" ∧ (parseMethodDescriptor yX4_climbsBeside.desc).map (fun d => d.parameters.length) = some 3 := ⟨rfl, hs_X4_climbsBeside⟩
def f_X4_climbsBeside (xs : Nat → Int32) (ys : Nat → Int32) (p1 : Int32) (p2 : Int32) (p3 : Int32) : Int32 := (if (ys (Int32.toNatClampNeg p3)) < (ys (Int32.toNatClampNeg p1)) then (0 : Int32) else (if (ys (Int32.toNatClampNeg p2)) ≤ (ys (Int32.toNatClampNeg p3)) then (0 : Int32) else (if (f_X2_turn xs ys p1 p2 p3) = (1 : Int32) then (1 : Int32) else (0 : Int32))))
abbrev rm_X4_climbsBeside : Room := { frames := 3, cells := 0, slots := 0, locals := 71 }
set_option maxHeartbeats 8000000 in
set_option maxRecDepth 100000 in
theorem c_X4_climbsBeside (l : Launch) (dC : Nat → ClassId) (dI : Nat → Nat → Nat) (a : Nat → Nat) (cI cJ : ClassId) (xs : Nat → Int32) (ys : Nat → Int32) (pl : Nat → Int32) (kp : Nat → Int32) (lp : Nat → Int64) (lq : Nat → Int64) (lr : Nat → Int64) (v0 : Int32) (v1 : Int32) (v2 : Int32) (v3 : Int32) (v4 : Int32) (v5 : Int32) (v6 : Int32) (v7 : Int32) (v8 : Int32) (v9 : Int32) (v10 : Int32) (p1 : Int32) (p2 : Int32) (p3 : Int32) (hi1 : vp_in p1 60) (hi2 : vp_in p2 60) (hi3 : vp_in p3 60) : Met l yX4_climbsBeside (Cond.code yX4_climbsBeside cX4_climbsBeside 5 (some .boolean) :: lw_G) rm_X4_climbsBeside (pPc (dC, dI) (tIJ cI cJ) (wC a cI cJ xs ys pl kp lp lq lr v0 v1 v2 v3 v4 v5 v6 v7 v8 v9 v10) [.ref (a 6), .int p1, .int p2, .int p3]) (pQi (f_X4_climbsBeside xs ys p1 p2 p3)) 0 0 pNo := by
  refine pm_of (by decide) (Nat.le_of_ble_eq_true rfl) ?_
  intro p e s m args below meth c Q ls hQ hx hb hr hlk hml hown hts hP hK hS hl
  have hown : s.vm.findClass RX4 = some m.cls := hown
  have hl : lv_has ls 5 [(0, .ref (a 6)), (1, .int p1), (2, .int p2), (3, .int p3)] := hl
  refine lv_aload_n hx hb dX4_climbsBeside_0 rfl (lv_at hl 0 rfl) ?_
  refine va_get (D := (dC, dI)) (ci := 8) (v := .ref (a 1)) (C := RX4) (T := TX4) (N := 3) hx hb hts (fun _ h => gI_wsX40 h) hown hK.1 hP 6 rfl rfl 0 (by decide) (hts _ mG_3_13) (fun _ h9 => h9) rfl dX4_climbsBeside_1 ?_
  refine va_get (D := (dC, dI)) (ci := 6) (v := .ref (a 3)) (C := RX2) (T := TX2) (N := 3) hx hb hts (fun _ h => gI_wsX20 h) hown hK.1 hP 1 rfl rfl 1 (by decide) (hts _ mG_22_5) (fun _ h9 => h9) rfl dX4_climbsBeside_4 ?_
  refine lv_iload_n hx hb dX4_climbsBeside_7 rfl (lv_at hl 3 rfl) ?_
  refine va_iald hx hb hK.1 hP 3 0 rfl rfl (by first | with_reducible assumption | exact in0_24 | exact in0_60 | decide) dX4_climbsBeside_8 ?_
  refine lv_topi (fun y1 ey1 => ?_)
  refine lv_istore (lv' := [(4, .int y1), (0, .ref (a 6)), (1, .int p1), (2, .int p2), (3, .int p3)]) hx hb dX4_climbsBeside_9 hl (by decide) rfl (fun ls hl => ?_)
  refine lv_aload_n hx hb dX4_climbsBeside_11 rfl (lv_at hl 1 rfl) ?_
  refine va_get (D := (dC, dI)) (ci := 8) (v := .ref (a 1)) (C := RX4) (T := TX4) (N := 3) hx hb hts (fun _ h => gI_wsX40 h) hown hK.1 hP 6 rfl rfl 0 (by decide) (hts _ mG_3_13) (fun _ h9 => h9) rfl dX4_climbsBeside_12 ?_
  refine va_get (D := (dC, dI)) (ci := 6) (v := .ref (a 3)) (C := RX2) (T := TX2) (N := 3) hx hb hts (fun _ h => gI_wsX20 h) hown hK.1 hP 1 rfl rfl 1 (by decide) (hts _ mG_22_5) (fun _ h9 => h9) rfl dX4_climbsBeside_15 ?_
  refine lv_iload_n hx hb dX4_climbsBeside_18 rfl (lv_at hl 2 rfl) ?_
  refine va_iald hx hb hK.1 hP 3 0 rfl rfl (by first | with_reducible assumption | exact in0_24 | exact in0_60 | decide) dX4_climbsBeside_19 ?_
  refine lv_iload hx hb dX4_climbsBeside_20 (lv_at hl 0 rfl) ?_
  refine lv_icmp_gt (tgt := 57) hx hb dX4_climbsBeside_22 (by decide) (fun c2 => ?_) (fun c2 => ?_)
  · skip
    refine lv_iconst (v := (0 : Int32)) hx hb dX4_climbsBeside_57 (by decide) ?_
    exact rp_z hQ hx hb hr hlk hS (Eq.symm (by subst ey1; simp only [f_X4_climbsBeside, if_pos c2])) (by decide) dX4_climbsBeside_58
  · skip
    refine lv_aload_n hx hb dX4_climbsBeside_25 rfl (lv_at hl 1 rfl) ?_
    refine va_get (D := (dC, dI)) (ci := 8) (v := .ref (a 1)) (C := RX4) (T := TX4) (N := 3) hx hb hts (fun _ h => gI_wsX40 h) hown hK.1 hP 6 rfl rfl 0 (by decide) (hts _ mG_3_13) (fun _ h9 => h9) rfl dX4_climbsBeside_26 ?_
    refine va_get (D := (dC, dI)) (ci := 6) (v := .ref (a 3)) (C := RX2) (T := TX2) (N := 3) hx hb hts (fun _ h => gI_wsX20 h) hown hK.1 hP 1 rfl rfl 1 (by decide) (hts _ mG_22_5) (fun _ h9 => h9) rfl dX4_climbsBeside_29 ?_
    refine lv_iload_n hx hb dX4_climbsBeside_32 rfl (lv_at hl 3 rfl) ?_
    refine va_iald hx hb hK.1 hP 3 0 rfl rfl (by first | with_reducible assumption | exact in0_24 | exact in0_60 | decide) dX4_climbsBeside_33 ?_
    refine lv_iload hx hb dX4_climbsBeside_34 (lv_at hl 0 rfl) ?_
    refine lv_icmp_le (tgt := 57) hx hb dX4_climbsBeside_36 (by decide) (fun c3 => ?_) (fun c3 => ?_)
    · skip
      refine lv_iconst (v := (0 : Int32)) hx hb dX4_climbsBeside_57 (by decide) ?_
      exact rp_z hQ hx hb hr hlk hS (Eq.symm (by subst ey1; simp only [f_X4_climbsBeside, if_neg c2, if_pos c3])) (by decide) dX4_climbsBeside_58
    · skip
      refine lv_aload_n hx hb dX4_climbsBeside_39 rfl (lv_at hl 1 rfl) ?_
      refine va_get (D := (dC, dI)) (ci := 8) (v := .ref (a 1)) (C := RX4) (T := TX4) (N := 3) hx hb hts (fun _ h => gI_wsX40 h) hown hK.1 hP 6 rfl rfl 0 (by decide) (hts _ mG_3_13) (fun _ h9 => h9) rfl dX4_climbsBeside_40 ?_
      refine lv_iload_n hx hb dX4_climbsBeside_43 rfl (lv_at hl 2 rfl) ?_
      refine lv_iload_n hx hb dX4_climbsBeside_44 rfl (lv_at hl 3 rfl) ?_
      refine lv_iload_n hx hb dX4_climbsBeside_45 rfl (lv_at hl 4 rfl) ?_
      refine cp_i (va_runV (As := [.int p1, .int p2, .int p3]) (rest := []) ⟨hx, hb, hml, hown, hts⟩ (c_X2_turn l dC dI a cI cJ xs ys pl kp lp lq lr v0 v1 v2 v3 v4 v5 v6 v7 v8 v9 v10 p1 p2 p3 (by first | with_reducible assumption | exact in0_24 | exact in0_60 | decide) (by first | with_reducible assumption | exact in0_24 | exact in0_60 | decide) (by first | with_reducible assumption | exact in0_24 | exact in0_60 | decide)) (cwV 3 hts (gG_V mG_20_19 mG_11_7 mG_11_8 mG_1_16 (gG_c mG_11_9 gG_G)) rfl rfl rfl hd_X2_turn ⟨Nat.le_of_ble_eq_true rfl, Nat.le_of_ble_eq_true rfl⟩) (pPcV (ci := 6) (q0 := 1) hK hP rfl rfl) rfl rfl hl.1 rfl (lv_room (Nat.le_of_ble_eq_true rfl)) dX4_climbsBeside_46 ⟨Nat.le_of_ble_eq_true rfl, Nat.le_of_ble_eq_true rfl⟩) hP hS (fun H hP hS => ?_)
      refine lv_iconst (v := (1 : Int32)) hx hb dX4_climbsBeside_49 (by decide) ?_
      refine lv_icmp_ne (tgt := 57) hx hb dX4_climbsBeside_50 (by decide) (fun c4 => ?_) (fun c4 => ?_)
      · skip
        refine lv_iconst (v := (0 : Int32)) hx hb dX4_climbsBeside_57 (by decide) ?_
        exact rp_z hQ hx hb hr hlk hS (Eq.symm (by subst ey1; simp only [f_X4_climbsBeside, if_neg c2, if_neg c3, if_neg c4])) (by decide) dX4_climbsBeside_58
      · skip
        refine lv_iconst (v := (1 : Int32)) hx hb dX4_climbsBeside_53 (by decide) ?_
        refine lv_goto (tgt := 58) hx hb dX4_climbsBeside_54 (by decide) ?_
        exact rp_z hQ hx hb hr hlk hS (Eq.symm (by subst ey1; simp only [f_X4_climbsBeside, if_neg c2, if_neg c3, if_pos c4])) (by decide) dX4_climbsBeside_58
/-! X4_sideOfOther -/
theorem hs_X4_sideOfOther : yX4_sideOfOther.cls ≠ "java/lang/invoke/MethodHandle" ∧ yX4_sideOfOther.cls ≠ "java/lang/invoke/VarHandle" ∧ (parseMethodDescriptor yX4_sideOfOther.desc).map (fun d => d.parameters.length) = some 3 := by decide +kernel
theorem hd_X4_sideOfOther : yX4_sideOfOther.cls = RX4 ∧ yX4_sideOfOther.cls ≠ "java/lang/invoke/MethodHandle" ∧ yX4_sideOfOther.cls ≠ "java/lang/invoke/VarHandle" ∧ (parseMethodDescriptor yX4_sideOfOther.desc).map (fun d => d.parameters.length) = some 3 := ⟨rfl, hs_X4_sideOfOther⟩
def f_X4_sideOfOther (xs : Nat → Int32) (ys : Nat → Int32) (pl : Nat → Int32) (p1 : Int32) (p2 : Int32) (p3 : Int32) : Int32 := (if p3 ≤ (p1 + p2) then (f_X2_turn xs ys (pl (Int32.toNatClampNeg p1)) (f_X4_endOf pl p1 p3) (pl (Int32.toNatClampNeg ((p1 + p2) - p3)))) else (f_X2_turn xs ys (pl (Int32.toNatClampNeg p1)) (f_X4_endOf pl p1 p3) (pl (Int32.toNatClampNeg (p1 + p2)))))
abbrev rm_X4_sideOfOther : Room := { frames := 3, cells := 0, slots := 0, locals := 71 }
set_option maxHeartbeats 8000000 in
set_option maxRecDepth 100000 in
theorem c_X4_sideOfOther (l : Launch) (dC : Nat → ClassId) (dI : Nat → Nat → Nat) (a : Nat → Nat) (cI cJ : ClassId) (xs : Nat → Int32) (ys : Nat → Int32) (pl : Nat → Int32) (kp : Nat → Int32) (lp : Nat → Int64) (lq : Nat → Int64) (lr : Nat → Int64) (v0 : Int32) (v1 : Int32) (v2 : Int32) (v3 : Int32) (v4 : Int32) (v5 : Int32) (v6 : Int32) (v7 : Int32) (v8 : Int32) (v9 : Int32) (v10 : Int32) (p1 : Int32) (p2 : Int32) (p3 : Int32) (he : 0 ≤ p1) (hlt : ¬ p3 ≤ p1) (hs : 0 ≤ p2) (hs2 : ¬ p3 ≤ p2) (hn : p3 ≤ 24) (hv : ∀ j : Nat, (j : Int) < (p3).toInt → vp_in (pl j) 60) : Met l yX4_sideOfOther (Cond.code yX4_sideOfOther cX4_sideOfOther 5 (some .int) :: lw_G) rm_X4_sideOfOther (pPc (dC, dI) (tIJ cI cJ) (wC a cI cJ xs ys pl kp lp lq lr v0 v1 v2 v3 v4 v5 v6 v7 v8 v9 v10) [.ref (a 6), .int p1, .int p2, .int p3]) (pQi (f_X4_sideOfOther xs ys pl p1 p2 p3)) 0 0 pNo := by
  refine pm_of (by decide) (Nat.le_of_ble_eq_true rfl) ?_
  intro p e s m args below meth c Q ls hQ hx hb hr hlk hml hown hts hP hK hS hl
  have hown : s.vm.findClass RX4 = some m.cls := hown
  have hl : lv_has ls 5 [(0, .ref (a 6)), (1, .int p1), (2, .int p2), (3, .int p3)] := hl
  refine lv_iload_n hx hb dX4_sideOfOther_0 rfl (lv_at hl 1 rfl) ?_
  refine lv_iload_n hx hb dX4_sideOfOther_1 rfl (lv_at hl 2 rfl) ?_
  refine lv_iadd hx hb dX4_sideOfOther_2 ?_
  refine lv_iload_n hx hb dX4_sideOfOther_3 rfl (lv_at hl 3 rfl) ?_
  refine lv_icmp_ge (tgt := 13) hx hb dX4_sideOfOther_4 (by decide) (fun c1 => ?_) (fun c1 => ?_)
  · skip
    refine lv_iload_n hx hb dX4_sideOfOther_13 rfl (lv_at hl 1 rfl) ?_
    refine lv_iload_n hx hb dX4_sideOfOther_14 rfl (lv_at hl 2 rfl) ?_
    refine lv_iadd hx hb dX4_sideOfOther_15 ?_
    refine lv_iload_n hx hb dX4_sideOfOther_16 rfl (lv_at hl 3 rfl) ?_
    refine lv_isub hx hb dX4_sideOfOther_17 ?_
    refine lv_topi (fun y2 ey2 => ?_)
    refine lv_istore (lv' := [(4, .int y2), (0, .ref (a 6)), (1, .int p1), (2, .int p2), (3, .int p3)]) hx hb dX4_sideOfOther_18 hl (by decide) rfl (fun ls hl => ?_)
    have ho : 0 ≤ y2 ∧ ¬ p3 ≤ y2 := by rw [ey2]; first | exact so_a he hlt hs hs2 hn (by assumption) | exact so_b he hlt hs hs2 hn (by assumption)
    have hI4 : vp_in y2 24 := ix_lt ho.1 ho.2 hn
    have hv4 := hv_at hv ho.1 ho.2
    have hI1 : vp_in p1 24 := ix_lt he hlt hn
    have hv1 := hv_at hv he hlt
    have hE := in_endOf hv he hlt
    refine lv_aload_n hx hb dX4_sideOfOther_20 rfl (lv_at hl 1 rfl) ?_
    refine va_get (D := (dC, dI)) (ci := 8) (v := .ref (a 1)) (C := RX4) (T := TX4) (N := 3) hx hb hts (fun _ h => gI_wsX40 h) hown hK.1 hP 6 rfl rfl 0 (by decide) (hts _ mG_3_13) (fun _ h9 => h9) rfl dX4_sideOfOther_21 ?_
    refine lv_aload_n hx hb dX4_sideOfOther_24 rfl (lv_at hl 1 rfl) ?_
    refine va_get (D := (dC, dI)) (ci := 8) (v := .ref (a 7)) (C := RX4) (T := TX4) (N := 3) hx hb hts (fun _ h => gI_wsX40 h) hown hK.1 hP 6 rfl rfl 1 (by decide) (hts _ mG_3_11) (fun _ h9 => h9) rfl dX4_sideOfOther_25 ?_
    refine lv_iload_n hx hb dX4_sideOfOther_28 rfl (lv_at hl 2 rfl) ?_
    refine va_iald hx hb hK.1 hP 7 0 rfl rfl (by first | with_reducible assumption | exact in0_24 | exact in0_60 | decide) dX4_sideOfOther_29 ?_
    refine lv_aload_n hx hb dX4_sideOfOther_30 rfl (lv_at hl 1 rfl) ?_
    refine lv_iload_n hx hb dX4_sideOfOther_31 rfl (lv_at hl 2 rfl) ?_
    refine lv_iload_n hx hb dX4_sideOfOther_32 rfl (lv_at hl 4 rfl) ?_
    refine cp_i (va_runV (As := [.int p1, .int p3]) (rest := [.int (pl (Int32.toNatClampNeg p1)), .ref (a 1)]) ⟨hx, hb, hml, hown, hts⟩ (c_X4_endOf l dC dI a cI cJ xs ys pl kp lp lq lr v0 v1 v2 v3 v4 v5 v6 v7 v8 v9 v10 p1 p3 (by first | with_reducible assumption | exact in0_24 | exact in0_60 | decide) (by first | with_reducible assumption | exact in0_24 | exact in0_60 | decide) (by first | with_reducible assumption | exact in0_24 | exact in0_60 | decide)) (cwV 2 hts (gG_V mG_20_15 mG_20_16 mG_20_17 mG_2_4 (gG_c mG_20_18 gG_G)) rfl rfl rfl hd_X4_endOf ⟨Nat.le_of_ble_eq_true rfl, Nat.le_of_ble_eq_true rfl⟩) (pPcV (ci := 8) (q0 := 6) hK hP rfl rfl) rfl rfl hl.1 rfl (lv_room (Nat.le_of_ble_eq_true rfl)) dX4_sideOfOther_33 ⟨Nat.le_of_ble_eq_true rfl, Nat.le_of_ble_eq_true rfl⟩) hP hS (fun H hP hS => ?_)
    refine lv_aload_n hx hb dX4_sideOfOther_36 rfl (lv_at hl 1 rfl) ?_
    refine va_get (D := (dC, dI)) (ci := 8) (v := .ref (a 7)) (C := RX4) (T := TX4) (N := 3) hx hb hts (fun _ h => gI_wsX40 h) hown hK.1 hP 6 rfl rfl 1 (by decide) (hts _ mG_3_11) (fun _ h9 => h9) rfl dX4_sideOfOther_37 ?_
    refine lv_iload hx hb dX4_sideOfOther_40 (lv_at hl 0 rfl) ?_
    refine va_iald hx hb hK.1 hP 7 0 rfl rfl (by first | with_reducible assumption | exact in0_24 | exact in0_60 | decide) dX4_sideOfOther_42 ?_
    refine cp_i (va_runV (As := [.int (pl (Int32.toNatClampNeg p1)), .int (f_X4_endOf pl p1 p3), .int (pl (Int32.toNatClampNeg y2))]) (rest := []) ⟨hx, hb, hml, hown, hts⟩ (c_X2_turn l dC dI a cI cJ xs ys pl kp lp lq lr v0 v1 v2 v3 v4 v5 v6 v7 v8 v9 v10 (pl (Int32.toNatClampNeg p1)) (f_X4_endOf pl p1 p3) (pl (Int32.toNatClampNeg y2)) (by first | with_reducible assumption | exact in0_24 | exact in0_60 | decide) (by first | with_reducible assumption | exact in0_24 | exact in0_60 | decide) (by first | with_reducible assumption | exact in0_24 | exact in0_60 | decide)) (cwV 3 hts (gG_V mG_20_19 mG_11_7 mG_11_8 mG_1_16 (gG_c mG_11_9 gG_G)) rfl rfl rfl hd_X2_turn ⟨Nat.le_of_ble_eq_true rfl, Nat.le_of_ble_eq_true rfl⟩) (pPcV (ci := 6) (q0 := 1) hK hP rfl rfl) rfl rfl hl.1 rfl (lv_room (Nat.le_of_ble_eq_true rfl)) dX4_sideOfOther_43 ⟨Nat.le_of_ble_eq_true rfl, Nat.le_of_ble_eq_true rfl⟩) hP hS (fun H hP hS => ?_)
    exact rp_i hQ hx hb hr hlk hS (Eq.symm (by subst ey2; simp only [f_X4_sideOfOther, if_pos c1])) dX4_sideOfOther_46
  · skip
    refine lv_iload_n hx hb dX4_sideOfOther_7 rfl (lv_at hl 1 rfl) ?_
    refine lv_iload_n hx hb dX4_sideOfOther_8 rfl (lv_at hl 2 rfl) ?_
    refine lv_iadd hx hb dX4_sideOfOther_9 ?_
    refine lv_goto (tgt := 18) hx hb dX4_sideOfOther_10 (by decide) ?_
    refine lv_topi (fun y3 ey3 => ?_)
    refine lv_istore (lv' := [(4, .int y3), (0, .ref (a 6)), (1, .int p1), (2, .int p2), (3, .int p3)]) hx hb dX4_sideOfOther_18 hl (by decide) rfl (fun ls hl => ?_)
    have ho : 0 ≤ y3 ∧ ¬ p3 ≤ y3 := by rw [ey3]; first | exact so_a he hlt hs hs2 hn (by assumption) | exact so_b he hlt hs hs2 hn (by assumption)
    have hI4 : vp_in y3 24 := ix_lt ho.1 ho.2 hn
    have hv4 := hv_at hv ho.1 ho.2
    have hI1 : vp_in p1 24 := ix_lt he hlt hn
    have hv1 := hv_at hv he hlt
    have hE := in_endOf hv he hlt
    refine lv_aload_n hx hb dX4_sideOfOther_20 rfl (lv_at hl 1 rfl) ?_
    refine va_get (D := (dC, dI)) (ci := 8) (v := .ref (a 1)) (C := RX4) (T := TX4) (N := 3) hx hb hts (fun _ h => gI_wsX40 h) hown hK.1 hP 6 rfl rfl 0 (by decide) (hts _ mG_3_13) (fun _ h9 => h9) rfl dX4_sideOfOther_21 ?_
    refine lv_aload_n hx hb dX4_sideOfOther_24 rfl (lv_at hl 1 rfl) ?_
    refine va_get (D := (dC, dI)) (ci := 8) (v := .ref (a 7)) (C := RX4) (T := TX4) (N := 3) hx hb hts (fun _ h => gI_wsX40 h) hown hK.1 hP 6 rfl rfl 1 (by decide) (hts _ mG_3_11) (fun _ h9 => h9) rfl dX4_sideOfOther_25 ?_
    refine lv_iload_n hx hb dX4_sideOfOther_28 rfl (lv_at hl 2 rfl) ?_
    refine va_iald hx hb hK.1 hP 7 0 rfl rfl (by first | with_reducible assumption | exact in0_24 | exact in0_60 | decide) dX4_sideOfOther_29 ?_
    refine lv_aload_n hx hb dX4_sideOfOther_30 rfl (lv_at hl 1 rfl) ?_
    refine lv_iload_n hx hb dX4_sideOfOther_31 rfl (lv_at hl 2 rfl) ?_
    refine lv_iload_n hx hb dX4_sideOfOther_32 rfl (lv_at hl 4 rfl) ?_
    refine cp_i (va_runV (As := [.int p1, .int p3]) (rest := [.int (pl (Int32.toNatClampNeg p1)), .ref (a 1)]) ⟨hx, hb, hml, hown, hts⟩ (c_X4_endOf l dC dI a cI cJ xs ys pl kp lp lq lr v0 v1 v2 v3 v4 v5 v6 v7 v8 v9 v10 p1 p3 (by first | with_reducible assumption | exact in0_24 | exact in0_60 | decide) (by first | with_reducible assumption | exact in0_24 | exact in0_60 | decide) (by first | with_reducible assumption | exact in0_24 | exact in0_60 | decide)) (cwV 2 hts (gG_V mG_20_15 mG_20_16 mG_20_17 mG_2_4 (gG_c mG_20_18 gG_G)) rfl rfl rfl hd_X4_endOf ⟨Nat.le_of_ble_eq_true rfl, Nat.le_of_ble_eq_true rfl⟩) (pPcV (ci := 8) (q0 := 6) hK hP rfl rfl) rfl rfl hl.1 rfl (lv_room (Nat.le_of_ble_eq_true rfl)) dX4_sideOfOther_33 ⟨Nat.le_of_ble_eq_true rfl, Nat.le_of_ble_eq_true rfl⟩) hP hS (fun H hP hS => ?_)
    refine lv_aload_n hx hb dX4_sideOfOther_36 rfl (lv_at hl 1 rfl) ?_
    refine va_get (D := (dC, dI)) (ci := 8) (v := .ref (a 7)) (C := RX4) (T := TX4) (N := 3) hx hb hts (fun _ h => gI_wsX40 h) hown hK.1 hP 6 rfl rfl 1 (by decide) (hts _ mG_3_11) (fun _ h9 => h9) rfl dX4_sideOfOther_37 ?_
    refine lv_iload hx hb dX4_sideOfOther_40 (lv_at hl 0 rfl) ?_
    refine va_iald hx hb hK.1 hP 7 0 rfl rfl (by first | with_reducible assumption | exact in0_24 | exact in0_60 | decide) dX4_sideOfOther_42 ?_
    refine cp_i (va_runV (As := [.int (pl (Int32.toNatClampNeg p1)), .int (f_X4_endOf pl p1 p3), .int (pl (Int32.toNatClampNeg y3))]) (rest := []) ⟨hx, hb, hml, hown, hts⟩ (c_X2_turn l dC dI a cI cJ xs ys pl kp lp lq lr v0 v1 v2 v3 v4 v5 v6 v7 v8 v9 v10 (pl (Int32.toNatClampNeg p1)) (f_X4_endOf pl p1 p3) (pl (Int32.toNatClampNeg y3)) (by first | with_reducible assumption | exact in0_24 | exact in0_60 | decide) (by first | with_reducible assumption | exact in0_24 | exact in0_60 | decide) (by first | with_reducible assumption | exact in0_24 | exact in0_60 | decide)) (cwV 3 hts (gG_V mG_20_19 mG_11_7 mG_11_8 mG_1_16 (gG_c mG_11_9 gG_G)) rfl rfl rfl hd_X2_turn ⟨Nat.le_of_ble_eq_true rfl, Nat.le_of_ble_eq_true rfl⟩) (pPcV (ci := 6) (q0 := 1) hK hP rfl rfl) rfl rfl hl.1 rfl (lv_room (Nat.le_of_ble_eq_true rfl)) dX4_sideOfOther_43 ⟨Nat.le_of_ble_eq_true rfl, Nat.le_of_ble_eq_true rfl⟩) hP hS (fun H hP hS => ?_)
    exact rp_i hQ hx hb hr hlk hS (Eq.symm (by subst ey3; simp only [f_X4_sideOfOther, if_neg c1])) dX4_sideOfOther_46
/-! X4_convexity -/
theorem hs_X4_convexity : yX4_convexity.cls ≠ "java/lang/invoke/MethodHandle" ∧ yX4_convexity.cls ≠ "java/lang/invoke/VarHandle" ∧ (parseMethodDescriptor yX4_convexity.desc).map (fun d => d.parameters.length) = some 1 := by decide +kernel
theorem hd_X4_convexity : yX4_convexity.cls = RX4 ∧ yX4_convexity.cls ≠ "java/lang/invoke/MethodHandle" ∧ yX4_convexity.cls ≠ "java/lang/invoke/VarHandle" ∧ (parseMethodDescriptor yX4_convexity.desc).map (fun d => d.parameters.length) = some 1 := ⟨rfl, hs_X4_convexity⟩
def f_X4_convexity_L18 (xs : Nat → Int32) (ys : Nat → Int32) (pl : Nat → Int32) (p1 : Int32) (k : Int32 → Int32) (y1 : Int32) (x3_10 : Int32) : Nat → Int32 → Int32
  | 0, _ => 0
  | n + 1, x4_18 => (if p1 ≤ x4_18 then (k (x3_10 + 1)) else (if (f_X4_sideOfOther xs ys pl x3_10 x4_18 p1) = y1 then (f_X4_convexity_L18 xs ys pl p1 k y1 x3_10 n (x4_18 + 1)) else (0 : Int32)))
def f_X4_convexity_L10 (xs : Nat → Int32) (ys : Nat → Int32) (pl : Nat → Int32) (p1 : Int32) (y1 : Int32) : Nat → Int32 → Int32
  | 0, _ => 0
  | n + 1, x3_10 => (if p1 ≤ x3_10 then y1 else (f_X4_convexity_L18 xs ys pl p1 (fun x3_10 => f_X4_convexity_L10 xs ys pl p1 y1 n x3_10) y1 x3_10 25 (2 : Int32)))
def f_X4_convexity (xs : Nat → Int32) (ys : Nat → Int32) (pl : Nat → Int32) (p1 : Int32) : Int32 := (f_X4_convexity_L10 xs ys pl p1 (f_X4_sideOfOther xs ys pl (0 : Int32) (2 : Int32) p1) 25 (0 : Int32))
abbrev rm_X4_convexity : Room := { frames := 4, cells := 0, slots := 0, locals := 95 }
set_option maxHeartbeats 8000000 in
set_option maxRecDepth 100000 in
theorem c_X4_convexity (l : Launch) (dC : Nat → ClassId) (dI : Nat → Nat → Nat) (a : Nat → Nat) (cI cJ : ClassId) (xs : Nat → Int32) (ys : Nat → Int32) (pl : Nat → Int32) (kp : Nat → Int32) (lp : Nat → Int64) (lq : Nat → Int64) (lr : Nat → Int64) (v0 : Int32) (v1 : Int32) (v2 : Int32) (v3 : Int32) (v4 : Int32) (v5 : Int32) (v6 : Int32) (v7 : Int32) (v8 : Int32) (v9 : Int32) (v10 : Int32) (p1 : Int32) (h3 : 3 ≤ p1) (hn : p1 ≤ 24) (hv : ∀ j : Nat, (j : Int) < (p1).toInt → vp_in (pl j) 60) : Met l yX4_convexity (Cond.code yX4_convexity cX4_convexity 5 (some .int) :: lw_G) rm_X4_convexity (pPc (dC, dI) (tIJ cI cJ) (wC a cI cJ xs ys pl kp lp lq lr v0 v1 v2 v3 v4 v5 v6 v7 v8 v9 v10) [.ref (a 6), .int p1]) (pQi (f_X4_convexity xs ys pl p1)) 0 0 pNo := by
  refine pm_of (by decide) (Nat.le_of_ble_eq_true rfl) ?_
  intro p e s m args below meth c Q ls hQ hx hb hr hlk hml hown hts hP hK hS hl
  have hown : s.vm.findClass RX4 = some m.cls := hown
  have hl : lv_has ls 5 [(0, .ref (a 6)), (1, .int p1)] := hl
  obtain ⟨F, eF⟩ : ∃ F, F = (f_X4_convexity xs ys pl p1) := ⟨_, rfl⟩
  have g0 : ¬ p1 ≤ 0 := fun h => absurd (Int32.le_trans h3 h) (by decide)
  have g2 : ¬ p1 ≤ 2 := fun h => absurd (Int32.le_trans h3 h) (by decide)
  have q0 : (0 : Int32) ≤ 0 := by decide
  have q2 : (0 : Int32) ≤ 2 := by decide
  refine lv_aload_n hx hb dX4_convexity_0 rfl (lv_at hl 0 rfl) ?_
  refine lv_iconst (v := (0 : Int32)) hx hb dX4_convexity_1 (by decide) ?_
  refine lv_iconst (v := (2 : Int32)) hx hb dX4_convexity_2 (by decide) ?_
  refine lv_iload_n hx hb dX4_convexity_3 rfl (lv_at hl 1 rfl) ?_
  refine cp_i (va_runV (As := [.int (0 : Int32), .int (2 : Int32), .int p1]) (rest := []) ⟨hx, hb, hml, hown, hts⟩ (c_X4_sideOfOther l dC dI a cI cJ xs ys pl kp lp lq lr v0 v1 v2 v3 v4 v5 v6 v7 v8 v9 v10 (0 : Int32) (2 : Int32) p1 (by first | with_reducible assumption | exact in0_24 | exact in0_60 | decide) (by first | with_reducible assumption | exact in0_24 | exact in0_60 | decide) (by first | with_reducible assumption | exact in0_24 | exact in0_60 | decide) (by first | with_reducible assumption | exact in0_24 | exact in0_60 | decide) (by first | with_reducible assumption | exact in0_24 | exact in0_60 | decide) (by first | with_reducible assumption | exact in0_24 | exact in0_60 | decide)) (cwV 3 hts (gG_V mG_20_11 mG_20_12 mG_20_13 mG_2_4 (gG_c mG_20_14 gG_G)) rfl rfl rfl hd_X4_sideOfOther ⟨Nat.le_of_ble_eq_true rfl, Nat.le_of_ble_eq_true rfl⟩) (pPcV (ci := 8) (q0 := 6) hK hP rfl rfl) rfl rfl hl.1 rfl (lv_room (Nat.le_of_ble_eq_true rfl)) dX4_convexity_4 ⟨Nat.le_of_ble_eq_true rfl, Nat.le_of_ble_eq_true rfl⟩) hP hS (fun H hP hS => ?_)
  refine lv_topi (fun y1 ey1 => ?_)
  refine lv_istore_n (lv' := [(2, .int y1), (0, .ref (a 6)), (1, .int p1)]) hx hb dX4_convexity_7 rfl hl (by decide) rfl (fun ls hl => ?_)
  refine lv_iconst (v := (0 : Int32)) hx hb dX4_convexity_8 (by decide) ?_
  refine lv_istore_n (lv' := [(3, .int (0 : Int32)), (2, .int y1), (0, .ref (a 6)), (1, .int p1)]) hx hb dX4_convexity_9 rfl hl (by decide) rfl (fun ls hl => ?_)
  have K10 : ∀ (n10 : Nat) (x3_10 : Int32), 0 ≤ x3_10 → ((p1).toInt - x3_10.toInt).toNat < n10 → F = f_X4_convexity_L10 xs ys pl p1 y1 n10 x3_10 → ∀ (H : Heap) (locs : List Loc), va_P (dC, dI) vwCl (wC a cI cJ xs ys pl kp lp lq lr v0 v1 v2 v3 v4 v5 v6 v7 v8 v9 v10) H → va_S pNo s.heap H locs → ∀ (ls : Array Slot), lv_has ls 5 [(0, .ref (a 6)), (1, .int p1), (2, .int y1), (3, .int x3_10)] → W p l e rm_X4_convexity s m args below meth c H locs 0 0 Q (F0 m 10 ls []) := by
    intro n10
    induction n10 with
    | zero => intro x3_10 h0_10 hf_10 hF H locs hP hS ls hl; exact absurd hf_10 (Nat.not_lt_zero _)
    | succ n10 ih10 =>
      intro x3_10 h0_10 hf_10 hF H locs hP hS ls hl
      refine lv_iload_n hx hb dX4_convexity_10 rfl (lv_at hl 3 rfl) ?_
      refine lv_iload_n hx hb dX4_convexity_11 rfl (lv_at hl 1 rfl) ?_
      refine lv_icmp_ge (tgt := 50) hx hb dX4_convexity_12 (by decide) (fun c2 => ?_) (fun c2 => ?_)
      · skip
        refine lv_iload_n hx hb dX4_convexity_50 rfl (lv_at hl 2 rfl) ?_
        exact rp_i hQ hx hb hr hlk hS (Eq.symm (eF.symm.trans (by rw [hF]; simp only [f_X4_convexity_L10, if_pos c2]))) dX4_convexity_51
      · skip
        refine lv_iconst (v := (2 : Int32)) hx hb dX4_convexity_15 (by decide) ?_
        refine lv_istore (lv' := [(4, .int (2 : Int32)), (0, .ref (a 6)), (1, .int p1), (2, .int y1), (3, .int x3_10)]) hx hb dX4_convexity_16 hl (by decide) rfl (fun ls hl => ?_)
        have K18 : ∀ (n18 : Nat) (x4_18 : Int32), 0 ≤ x4_18 → ((p1).toInt - x4_18.toInt).toNat < n18 → F = f_X4_convexity_L18 xs ys pl p1 (fun x3_10 => f_X4_convexity_L10 xs ys pl p1 y1 n10 x3_10) y1 x3_10 n18 x4_18 → ∀ (H : Heap) (locs : List Loc), va_P (dC, dI) vwCl (wC a cI cJ xs ys pl kp lp lq lr v0 v1 v2 v3 v4 v5 v6 v7 v8 v9 v10) H → va_S pNo s.heap H locs → ∀ (ls : Array Slot), lv_has ls 5 [(0, .ref (a 6)), (1, .int p1), (2, .int y1), (3, .int x3_10), (4, .int x4_18)] → W p l e rm_X4_convexity s m args below meth c H locs 0 0 Q (F0 m 18 ls []) := by
          intro n18
          induction n18 with
          | zero => intro x4_18 h0_18 hf_18 hF H locs hP hS ls hl; exact absurd hf_18 (Nat.not_lt_zero _)
          | succ n18 ih18 =>
            intro x4_18 h0_18 hf_18 hF H locs hP hS ls hl
            refine lv_iload hx hb dX4_convexity_18 (lv_at hl 4 rfl) ?_
            refine lv_iload_n hx hb dX4_convexity_20 rfl (lv_at hl 1 rfl) ?_
            refine lv_icmp_ge (tgt := 44) hx hb dX4_convexity_21 (by decide) (fun c3 => ?_) (fun c3 => ?_)
            · skip
              refine lv_iinc (v := (x3_10 + 1)) (lv' := [(3, .int (x3_10 + 1)), (0, .ref (a 6)), (1, .int p1), (2, .int y1), (4, .int x4_18)]) hx hb dX4_convexity_44 hl (k := 3) rfl rfl (by decide) rfl (fun ls hl => ?_)
              refine lv_goto (tgt := 10) hx hb dX4_convexity_47 (by decide) ?_
              exact ih10 (x3_10 + 1) (lp_pos h0_10 c2) (lp_dec c2 hf_10) (by rw [hF]; simp only [f_X4_convexity_L18, if_pos c3]) _ _ hP hS ls (lv_sub hl [1, 2, 3, 0] rfl)
            · skip
              refine lv_aload_n hx hb dX4_convexity_24 rfl (lv_at hl 0 rfl) ?_
              refine lv_iload_n hx hb dX4_convexity_25 rfl (lv_at hl 3 rfl) ?_
              refine lv_iload hx hb dX4_convexity_26 (lv_at hl 4 rfl) ?_
              refine lv_iload_n hx hb dX4_convexity_28 rfl (lv_at hl 1 rfl) ?_
              refine cp_i (va_runV (As := [.int x3_10, .int x4_18, .int p1]) (rest := []) ⟨hx, hb, hml, hown, hts⟩ (c_X4_sideOfOther l dC dI a cI cJ xs ys pl kp lp lq lr v0 v1 v2 v3 v4 v5 v6 v7 v8 v9 v10 x3_10 x4_18 p1 (by first | with_reducible assumption | exact in0_24 | exact in0_60 | decide) (by first | with_reducible assumption | exact in0_24 | exact in0_60 | decide) (by first | with_reducible assumption | exact in0_24 | exact in0_60 | decide) (by first | with_reducible assumption | exact in0_24 | exact in0_60 | decide) (by first | with_reducible assumption | exact in0_24 | exact in0_60 | decide) (by first | with_reducible assumption | exact in0_24 | exact in0_60 | decide)) (cwV 3 hts (gG_V mG_20_11 mG_20_12 mG_20_13 mG_2_4 (gG_c mG_20_14 gG_G)) rfl rfl rfl hd_X4_sideOfOther ⟨Nat.le_of_ble_eq_true rfl, Nat.le_of_ble_eq_true rfl⟩) (pPcV (ci := 8) (q0 := 6) hK hP rfl rfl) rfl rfl hl.1 rfl (lv_room (Nat.le_of_ble_eq_true rfl)) dX4_convexity_29 ⟨Nat.le_of_ble_eq_true rfl, Nat.le_of_ble_eq_true rfl⟩) hP hS (fun H hP hS => ?_)
              refine lv_iload_n hx hb dX4_convexity_32 rfl (lv_at hl 2 rfl) ?_
              refine lv_icmp_eq (tgt := 38) hx hb dX4_convexity_33 (by decide) (fun c4 => ?_) (fun c4 => ?_)
              · skip
                refine lv_iinc (v := (x4_18 + 1)) (lv' := [(4, .int (x4_18 + 1)), (0, .ref (a 6)), (1, .int p1), (2, .int y1), (3, .int x3_10)]) hx hb dX4_convexity_38 hl (k := 4) rfl rfl (by decide) rfl (fun ls hl => ?_)
                refine lv_goto (tgt := 18) hx hb dX4_convexity_41 (by decide) ?_
                exact ih18 (x4_18 + 1) (lp_pos h0_18 c3) (lp_dec c3 hf_18) (by rw [hF]; simp only [f_X4_convexity_L18, if_neg c3, if_pos c4]) _ _ hP hS ls (lv_sub hl [1, 2, 3, 4, 0] rfl)
              · skip
                refine lv_iconst (v := (0 : Int32)) hx hb dX4_convexity_36 (by decide) ?_
                exact rp_i hQ hx hb hr hlk hS (Eq.symm (eF.symm.trans (by rw [hF]; simp only [f_X4_convexity_L18, if_neg c3, if_neg c4]))) dX4_convexity_37
        exact K18 25 (2 : Int32) (by decide) (lp_fuel (by decide) hn) (by rw [hF]; simp only [f_X4_convexity_L10, if_neg c2]) _ _ hP hS ls (lv_sub hl [1, 2, 3, 4, 0] rfl)
  exact K10 25 (0 : Int32) (by decide) (lp_fuel (by decide) hn) (by subst ey1; rw [eF]; simp only [f_X4_convexity]) _ _ hP hS ls (lv_sub hl [2, 3, 1, 0] rfl)
/-! X4_anyEdgeHolds -/
theorem hs_X4_anyEdgeHolds : yX4_anyEdgeHolds.cls ≠ "java/lang/invoke/MethodHandle" ∧ yX4_anyEdgeHolds.cls ≠ "java/lang/invoke/VarHandle" ∧ (parseMethodDescriptor yX4_anyEdgeHolds.desc).map (fun d => d.parameters.length) = some 2 := by decide +kernel
theorem hd_X4_anyEdgeHolds : yX4_anyEdgeHolds.cls = RX4 ∧ yX4_anyEdgeHolds.cls ≠ "java/lang/invoke/MethodHandle" ∧ yX4_anyEdgeHolds.cls ≠ "java/lang/invoke/VarHandle" ∧ (parseMethodDescriptor yX4_anyEdgeHolds.desc).map (fun d => d.parameters.length) = some 2 := ⟨rfl, hs_X4_anyEdgeHolds⟩
def f_X4_anyEdgeHolds_L2 (xs : Nat → Int32) (ys : Nat → Int32) (pl : Nat → Int32) (p1 : Int32) (p2 : Int32)  : Nat → Int32 → Int32
  | 0, _ => 0
  | n + 1, x3_2 => (if p1 ≤ x3_2 then (0 : Int32) else (if (f_X2_onSegment xs ys (pl (Int32.toNatClampNeg x3_2)) (f_X4_endOf pl x3_2 p1) p2) = 0 then (f_X4_anyEdgeHolds_L2 xs ys pl p1 p2  n (x3_2 + 1)) else (1 : Int32)))
def f_X4_anyEdgeHolds (xs : Nat → Int32) (ys : Nat → Int32) (pl : Nat → Int32) (p1 : Int32) (p2 : Int32) : Int32 := (f_X4_anyEdgeHolds_L2 xs ys pl p1 p2  25 (0 : Int32))
abbrev rm_X4_anyEdgeHolds : Room := { frames := 4, cells := 0, slots := 0, locals := 94 }
set_option maxHeartbeats 8000000 in
set_option maxRecDepth 100000 in
theorem c_X4_anyEdgeHolds (l : Launch) (dC : Nat → ClassId) (dI : Nat → Nat → Nat) (a : Nat → Nat) (cI cJ : ClassId) (xs : Nat → Int32) (ys : Nat → Int32) (pl : Nat → Int32) (kp : Nat → Int32) (lp : Nat → Int64) (lq : Nat → Int64) (lr : Nat → Int64) (v0 : Int32) (v1 : Int32) (v2 : Int32) (v3 : Int32) (v4 : Int32) (v5 : Int32) (v6 : Int32) (v7 : Int32) (v8 : Int32) (v9 : Int32) (v10 : Int32) (p1 : Int32) (p2 : Int32) (hn : p1 ≤ 24) (hv : ∀ j : Nat, (j : Int) < (p1).toInt → vp_in (pl j) 60) (hp : vp_in p2 60) : Met l yX4_anyEdgeHolds (Cond.code yX4_anyEdgeHolds cX4_anyEdgeHolds 4 (some .boolean) :: lw_G) rm_X4_anyEdgeHolds (pPc (dC, dI) (tIJ cI cJ) (wC a cI cJ xs ys pl kp lp lq lr v0 v1 v2 v3 v4 v5 v6 v7 v8 v9 v10) [.ref (a 6), .int p1, .int p2]) (pQi (f_X4_anyEdgeHolds xs ys pl p1 p2)) 0 0 pNo := by
  refine pm_of (by decide) (Nat.le_of_ble_eq_true rfl) ?_
  intro p e s m args below meth c Q ls hQ hx hb hr hlk hml hown hts hP hK hS hl
  have hown : s.vm.findClass RX4 = some m.cls := hown
  have hl : lv_has ls 4 [(0, .ref (a 6)), (1, .int p1), (2, .int p2)] := hl
  obtain ⟨F, eF⟩ : ∃ F, F = (f_X4_anyEdgeHolds xs ys pl p1 p2) := ⟨_, rfl⟩
  refine lv_iconst (v := (0 : Int32)) hx hb dX4_anyEdgeHolds_0 (by decide) ?_
  refine lv_istore_n (lv' := [(3, .int (0 : Int32)), (0, .ref (a 6)), (1, .int p1), (2, .int p2)]) hx hb dX4_anyEdgeHolds_1 rfl hl (by decide) rfl (fun ls hl => ?_)
  have K2 : ∀ (n2 : Nat) (x3_2 : Int32), 0 ≤ x3_2 → ((p1).toInt - x3_2.toInt).toNat < n2 → F = f_X4_anyEdgeHolds_L2 xs ys pl p1 p2  n2 x3_2 → ∀ (H : Heap) (locs : List Loc), va_P (dC, dI) vwCl (wC a cI cJ xs ys pl kp lp lq lr v0 v1 v2 v3 v4 v5 v6 v7 v8 v9 v10) H → va_S pNo s.heap H locs → ∀ (ls : Array Slot), lv_has ls 4 [(0, .ref (a 6)), (1, .int p1), (2, .int p2), (3, .int x3_2)] → W p l e rm_X4_anyEdgeHolds s m args below meth c H locs 0 0 Q (F0 m 2 ls []) := by
    intro n2
    induction n2 with
    | zero => intro x3_2 h0_2 hf_2 hF H locs hP hS ls hl; exact absurd hf_2 (Nat.not_lt_zero _)
    | succ n2 ih2 =>
      intro x3_2 h0_2 hf_2 hF H locs hP hS ls hl
      refine lv_iload_n hx hb dX4_anyEdgeHolds_2 rfl (lv_at hl 3 rfl) ?_
      refine lv_iload_n hx hb dX4_anyEdgeHolds_3 rfl (lv_at hl 1 rfl) ?_
      refine lv_icmp_ge (tgt := 38) hx hb dX4_anyEdgeHolds_4 (by decide) (fun c1 => ?_) (fun c1 => ?_)
      · skip
        refine lv_iconst (v := (0 : Int32)) hx hb dX4_anyEdgeHolds_38 (by decide) ?_
        exact rp_z hQ hx hb hr hlk hS (Eq.symm (eF.symm.trans (by rw [hF]; simp only [f_X4_anyEdgeHolds_L2, if_pos c1]))) (by decide) dX4_anyEdgeHolds_39
      · skip
        have hI : vp_in x3_2 24 := ix_lt h0_2 c1 hn
        have hv1 := hv_at hv h0_2 c1
        have hE := in_endOf hv h0_2 c1
        refine lv_aload_n hx hb dX4_anyEdgeHolds_7 rfl (lv_at hl 0 rfl) ?_
        refine va_get (D := (dC, dI)) (ci := 8) (v := .ref (a 1)) (C := RX4) (T := TX4) (N := 3) hx hb hts (fun _ h => gI_wsX40 h) hown hK.1 hP 6 rfl rfl 0 (by decide) (hts _ mG_3_13) (fun _ h9 => h9) rfl dX4_anyEdgeHolds_8 ?_
        refine lv_aload_n hx hb dX4_anyEdgeHolds_11 rfl (lv_at hl 0 rfl) ?_
        refine va_get (D := (dC, dI)) (ci := 8) (v := .ref (a 7)) (C := RX4) (T := TX4) (N := 3) hx hb hts (fun _ h => gI_wsX40 h) hown hK.1 hP 6 rfl rfl 1 (by decide) (hts _ mG_3_11) (fun _ h9 => h9) rfl dX4_anyEdgeHolds_12 ?_
        refine lv_iload_n hx hb dX4_anyEdgeHolds_15 rfl (lv_at hl 3 rfl) ?_
        refine va_iald hx hb hK.1 hP 7 0 rfl rfl (by first | with_reducible assumption | exact in0_24 | exact in0_60 | decide) dX4_anyEdgeHolds_16 ?_
        refine lv_aload_n hx hb dX4_anyEdgeHolds_17 rfl (lv_at hl 0 rfl) ?_
        refine lv_iload_n hx hb dX4_anyEdgeHolds_18 rfl (lv_at hl 3 rfl) ?_
        refine lv_iload_n hx hb dX4_anyEdgeHolds_19 rfl (lv_at hl 1 rfl) ?_
        refine cp_i (va_runV (As := [.int x3_2, .int p1]) (rest := [.int (pl (Int32.toNatClampNeg x3_2)), .ref (a 1)]) ⟨hx, hb, hml, hown, hts⟩ (c_X4_endOf l dC dI a cI cJ xs ys pl kp lp lq lr v0 v1 v2 v3 v4 v5 v6 v7 v8 v9 v10 x3_2 p1 (by first | with_reducible assumption | exact in0_24 | exact in0_60 | decide) (by first | with_reducible assumption | exact in0_24 | exact in0_60 | decide) (by first | with_reducible assumption | exact in0_24 | exact in0_60 | decide)) (cwV 2 hts (gG_V mG_20_15 mG_20_16 mG_20_17 mG_2_4 (gG_c mG_20_18 gG_G)) rfl rfl rfl hd_X4_endOf ⟨Nat.le_of_ble_eq_true rfl, Nat.le_of_ble_eq_true rfl⟩) (pPcV (ci := 8) (q0 := 6) hK hP rfl rfl) rfl rfl hl.1 rfl (lv_room (Nat.le_of_ble_eq_true rfl)) dX4_anyEdgeHolds_20 ⟨Nat.le_of_ble_eq_true rfl, Nat.le_of_ble_eq_true rfl⟩) hP hS (fun H hP hS => ?_)
        refine lv_iload_n hx hb dX4_anyEdgeHolds_23 rfl (lv_at hl 2 rfl) ?_
        refine cp_i (va_runV (As := [.int (pl (Int32.toNatClampNeg x3_2)), .int (f_X4_endOf pl x3_2 p1), .int p2]) (rest := []) ⟨hx, hb, hml, hown, hts⟩ (c_X2_onSegment l dC dI a cI cJ xs ys pl kp lp lq lr v0 v1 v2 v3 v4 v5 v6 v7 v8 v9 v10 (pl (Int32.toNatClampNeg x3_2)) (f_X4_endOf pl x3_2 p1) p2 (by first | with_reducible assumption | exact in0_24 | exact in0_60 | decide) (by first | with_reducible assumption | exact in0_24 | exact in0_60 | decide) (by first | with_reducible assumption | exact in0_24 | exact in0_60 | decide)) (cwV 3 hts (gG_V mG_21_20 mG_16_3 mG_16_4 mG_1_16 (gG_c mG_16_5 gG_G)) rfl rfl rfl hd_X2_onSegment ⟨Nat.le_of_ble_eq_true rfl, Nat.le_of_ble_eq_true rfl⟩) (pPcV (ci := 6) (q0 := 1) hK hP rfl rfl) rfl rfl hl.1 rfl (lv_room (Nat.le_of_ble_eq_true rfl)) dX4_anyEdgeHolds_24 ⟨Nat.le_of_ble_eq_true rfl, Nat.le_of_ble_eq_true rfl⟩) hP hS (fun H hP hS => ?_)
        refine lv_if_eq (tgt := 32) hx hb dX4_anyEdgeHolds_27 (by decide) (fun c2 => ?_) (fun c2 => ?_)
        · skip
          refine lv_iinc (v := (x3_2 + 1)) (lv' := [(3, .int (x3_2 + 1)), (0, .ref (a 6)), (1, .int p1), (2, .int p2)]) hx hb dX4_anyEdgeHolds_32 hl (k := 3) rfl rfl (by decide) rfl (fun ls hl => ?_)
          refine lv_goto (tgt := 2) hx hb dX4_anyEdgeHolds_35 (by decide) ?_
          exact ih2 (x3_2 + 1) (lp_pos h0_2 c1) (lp_dec c1 hf_2) (by rw [hF]; simp only [f_X4_anyEdgeHolds_L2, if_neg c1, if_pos c2]) _ _ hP hS ls (lv_sub hl [1, 2, 3, 0] rfl)
        · skip
          refine lv_iconst (v := (1 : Int32)) hx hb dX4_anyEdgeHolds_30 (by decide) ?_
          exact rp_z hQ hx hb hr hlk hS (Eq.symm (eF.symm.trans (by rw [hF]; simp only [f_X4_anyEdgeHolds_L2, if_neg c1, if_neg c2]))) (by decide) dX4_anyEdgeHolds_31
  exact K2 25 (0 : Int32) (by decide) (lp_fuel (by decide) hn) (by rw [eF]; simp only [f_X4_anyEdgeHolds]) _ _ hP hS ls (lv_sub hl [1, 2, 3, 0] rfl)
/-! X4_risesAt -/
theorem hs_X4_risesAt : yX4_risesAt.cls ≠ "java/lang/invoke/MethodHandle" ∧ yX4_risesAt.cls ≠ "java/lang/invoke/VarHandle" ∧ (parseMethodDescriptor yX4_risesAt.desc).map (fun d => d.parameters.length) = some 2 := by decide +kernel
theorem hd_X4_risesAt : yX4_risesAt.cls = RX4 ∧ yX4_risesAt.cls ≠ "java/lang/invoke/MethodHandle" ∧ yX4_risesAt.cls ≠ "java/lang/invoke/VarHandle" ∧ (parseMethodDescriptor yX4_risesAt.desc).map (fun d => d.parameters.length) = some 2 := ⟨rfl, hs_X4_risesAt⟩
def f_X4_risesAt_L5 (xs : Nat → Int32) (ys : Nat → Int32) (pl : Nat → Int32) (p1 : Int32) (p2 : Int32)  : Nat → Int32 → Int32 → Int32
  | 0, _, _ => 0
  | n + 1, x3_5, x4_5 => (if p1 ≤ x4_5 then x3_5 else (if (f_X4_climbsBeside xs ys (pl (Int32.toNatClampNeg x4_5)) (f_X4_endOf pl x4_5 p1) p2) = 0 then (f_X4_risesAt_L5 xs ys pl p1 p2  n x3_5 (x4_5 + 1)) else (f_X4_risesAt_L5 xs ys pl p1 p2  n (x3_5 + 1) (x4_5 + 1))))
def f_X4_risesAt (xs : Nat → Int32) (ys : Nat → Int32) (pl : Nat → Int32) (p1 : Int32) (p2 : Int32) : Int32 := (f_X4_risesAt_L5 xs ys pl p1 p2  25 (0 : Int32) (0 : Int32))
abbrev rm_X4_risesAt : Room := { frames := 4, cells := 0, slots := 0, locals := 95 }
set_option maxHeartbeats 8000000 in
set_option maxRecDepth 100000 in
theorem c_X4_risesAt (l : Launch) (dC : Nat → ClassId) (dI : Nat → Nat → Nat) (a : Nat → Nat) (cI cJ : ClassId) (xs : Nat → Int32) (ys : Nat → Int32) (pl : Nat → Int32) (kp : Nat → Int32) (lp : Nat → Int64) (lq : Nat → Int64) (lr : Nat → Int64) (v0 : Int32) (v1 : Int32) (v2 : Int32) (v3 : Int32) (v4 : Int32) (v5 : Int32) (v6 : Int32) (v7 : Int32) (v8 : Int32) (v9 : Int32) (v10 : Int32) (p1 : Int32) (p2 : Int32) (hn : p1 ≤ 24) (hv : ∀ j : Nat, (j : Int) < (p1).toInt → vp_in (pl j) 60) (hp : vp_in p2 60) : Met l yX4_risesAt (Cond.code yX4_risesAt cX4_risesAt 5 (some .int) :: lw_G) rm_X4_risesAt (pPc (dC, dI) (tIJ cI cJ) (wC a cI cJ xs ys pl kp lp lq lr v0 v1 v2 v3 v4 v5 v6 v7 v8 v9 v10) [.ref (a 6), .int p1, .int p2]) (pQi (f_X4_risesAt xs ys pl p1 p2)) 0 0 pNo := by
  refine pm_of (by decide) (Nat.le_of_ble_eq_true rfl) ?_
  intro p e s m args below meth c Q ls hQ hx hb hr hlk hml hown hts hP hK hS hl
  have hown : s.vm.findClass RX4 = some m.cls := hown
  have hl : lv_has ls 5 [(0, .ref (a 6)), (1, .int p1), (2, .int p2)] := hl
  obtain ⟨F, eF⟩ : ∃ F, F = (f_X4_risesAt xs ys pl p1 p2) := ⟨_, rfl⟩
  refine lv_iconst (v := (0 : Int32)) hx hb dX4_risesAt_0 (by decide) ?_
  refine lv_istore_n (lv' := [(3, .int (0 : Int32)), (0, .ref (a 6)), (1, .int p1), (2, .int p2)]) hx hb dX4_risesAt_1 rfl hl (by decide) rfl (fun ls hl => ?_)
  refine lv_iconst (v := (0 : Int32)) hx hb dX4_risesAt_2 (by decide) ?_
  refine lv_istore (lv' := [(4, .int (0 : Int32)), (3, .int (0 : Int32)), (0, .ref (a 6)), (1, .int p1), (2, .int p2)]) hx hb dX4_risesAt_3 hl (by decide) rfl (fun ls hl => ?_)
  have K5 : ∀ (n5 : Nat) (x3_5 : Int32) (x4_5 : Int32), 0 ≤ x4_5 → ((p1).toInt - x4_5.toInt).toNat < n5 → F = f_X4_risesAt_L5 xs ys pl p1 p2  n5 x3_5 x4_5 → ∀ (H : Heap) (locs : List Loc), va_P (dC, dI) vwCl (wC a cI cJ xs ys pl kp lp lq lr v0 v1 v2 v3 v4 v5 v6 v7 v8 v9 v10) H → va_S pNo s.heap H locs → ∀ (ls : Array Slot), lv_has ls 5 [(0, .ref (a 6)), (1, .int p1), (2, .int p2), (3, .int x3_5), (4, .int x4_5)] → W p l e rm_X4_risesAt s m args below meth c H locs 0 0 Q (F0 m 5 ls []) := by
    intro n5
    induction n5 with
    | zero => intro x3_5 x4_5 h0_5 hf_5 hF H locs hP hS ls hl; exact absurd hf_5 (Nat.not_lt_zero _)
    | succ n5 ih5 =>
      intro x3_5 x4_5 h0_5 hf_5 hF H locs hP hS ls hl
      refine lv_iload hx hb dX4_risesAt_5 (lv_at hl 4 rfl) ?_
      refine lv_iload_n hx hb dX4_risesAt_7 rfl (lv_at hl 1 rfl) ?_
      refine lv_icmp_ge (tgt := 42) hx hb dX4_risesAt_8 (by decide) (fun c1 => ?_) (fun c1 => ?_)
      · skip
        refine lv_iload_n hx hb dX4_risesAt_42 rfl (lv_at hl 3 rfl) ?_
        exact rp_i hQ hx hb hr hlk hS (Eq.symm (eF.symm.trans (by rw [hF]; simp only [f_X4_risesAt_L5, if_pos c1]))) dX4_risesAt_43
      · skip
        have hI : vp_in x4_5 24 := ix_lt h0_5 c1 hn
        have hv1 := hv_at hv h0_5 c1
        have hE := in_endOf hv h0_5 c1
        refine lv_aload_n hx hb dX4_risesAt_11 rfl (lv_at hl 0 rfl) ?_
        refine lv_aload_n hx hb dX4_risesAt_12 rfl (lv_at hl 0 rfl) ?_
        refine va_get (D := (dC, dI)) (ci := 8) (v := .ref (a 7)) (C := RX4) (T := TX4) (N := 3) hx hb hts (fun _ h => gI_wsX40 h) hown hK.1 hP 6 rfl rfl 1 (by decide) (hts _ mG_3_11) (fun _ h9 => h9) rfl dX4_risesAt_13 ?_
        refine lv_iload hx hb dX4_risesAt_16 (lv_at hl 4 rfl) ?_
        refine va_iald hx hb hK.1 hP 7 0 rfl rfl (by first | with_reducible assumption | exact in0_24 | exact in0_60 | decide) dX4_risesAt_18 ?_
        refine lv_aload_n hx hb dX4_risesAt_19 rfl (lv_at hl 0 rfl) ?_
        refine lv_iload hx hb dX4_risesAt_20 (lv_at hl 4 rfl) ?_
        refine lv_iload_n hx hb dX4_risesAt_22 rfl (lv_at hl 1 rfl) ?_
        refine cp_i (va_runV (As := [.int x4_5, .int p1]) (rest := [.int (pl (Int32.toNatClampNeg x4_5)), .ref (a 6)]) ⟨hx, hb, hml, hown, hts⟩ (c_X4_endOf l dC dI a cI cJ xs ys pl kp lp lq lr v0 v1 v2 v3 v4 v5 v6 v7 v8 v9 v10 x4_5 p1 (by first | with_reducible assumption | exact in0_24 | exact in0_60 | decide) (by first | with_reducible assumption | exact in0_24 | exact in0_60 | decide) (by first | with_reducible assumption | exact in0_24 | exact in0_60 | decide)) (cwV 2 hts (gG_V mG_20_15 mG_20_16 mG_20_17 mG_2_4 (gG_c mG_20_18 gG_G)) rfl rfl rfl hd_X4_endOf ⟨Nat.le_of_ble_eq_true rfl, Nat.le_of_ble_eq_true rfl⟩) (pPcV (ci := 8) (q0 := 6) hK hP rfl rfl) rfl rfl hl.1 rfl (lv_room (Nat.le_of_ble_eq_true rfl)) dX4_risesAt_23 ⟨Nat.le_of_ble_eq_true rfl, Nat.le_of_ble_eq_true rfl⟩) hP hS (fun H hP hS => ?_)
        refine lv_iload_n hx hb dX4_risesAt_26 rfl (lv_at hl 2 rfl) ?_
        refine cp_i (va_runV (As := [.int (pl (Int32.toNatClampNeg x4_5)), .int (f_X4_endOf pl x4_5 p1), .int p2]) (rest := []) ⟨hx, hb, hml, hown, hts⟩ (c_X4_climbsBeside l dC dI a cI cJ xs ys pl kp lp lq lr v0 v1 v2 v3 v4 v5 v6 v7 v8 v9 v10 (pl (Int32.toNatClampNeg x4_5)) (f_X4_endOf pl x4_5 p1) p2 (by first | with_reducible assumption | exact in0_24 | exact in0_60 | decide) (by first | with_reducible assumption | exact in0_24 | exact in0_60 | decide) (by first | with_reducible assumption | exact in0_24 | exact in0_60 | decide)) (cwV 3 hts (gG_V mG_22_1 mG_22_2 mG_22_3 mG_2_4 (gG_c mG_22_4 gG_G)) rfl rfl rfl hd_X4_climbsBeside ⟨Nat.le_of_ble_eq_true rfl, Nat.le_of_ble_eq_true rfl⟩) (pPcV (ci := 8) (q0 := 6) hK hP rfl rfl) rfl rfl hl.1 rfl (lv_room (Nat.le_of_ble_eq_true rfl)) dX4_risesAt_27 ⟨Nat.le_of_ble_eq_true rfl, Nat.le_of_ble_eq_true rfl⟩) hP hS (fun H hP hS => ?_)
        refine lv_if_eq (tgt := 36) hx hb dX4_risesAt_30 (by decide) (fun c2 => ?_) (fun c2 => ?_)
        · skip
          refine lv_iinc (v := (x4_5 + 1)) (lv' := [(4, .int (x4_5 + 1)), (0, .ref (a 6)), (1, .int p1), (2, .int p2), (3, .int x3_5)]) hx hb dX4_risesAt_36 hl (k := 4) rfl rfl (by decide) rfl (fun ls hl => ?_)
          refine lv_goto (tgt := 5) hx hb dX4_risesAt_39 (by decide) ?_
          exact ih5 x3_5 (x4_5 + 1) (lp_pos h0_5 c1) (lp_dec c1 hf_5) (by rw [hF]; simp only [f_X4_risesAt_L5, if_neg c1, if_pos c2]) _ _ hP hS ls (lv_sub hl [1, 2, 3, 4, 0] rfl)
        · skip
          refine lv_iinc (v := (x3_5 + 1)) (lv' := [(3, .int (x3_5 + 1)), (0, .ref (a 6)), (1, .int p1), (2, .int p2), (4, .int x4_5)]) hx hb dX4_risesAt_33 hl (k := 3) rfl rfl (by decide) rfl (fun ls hl => ?_)
          refine lv_iinc (v := (x4_5 + 1)) (lv' := [(4, .int (x4_5 + 1)), (3, .int (x3_5 + 1)), (0, .ref (a 6)), (1, .int p1), (2, .int p2)]) hx hb dX4_risesAt_36 hl (k := 4) rfl rfl (by decide) rfl (fun ls hl => ?_)
          refine lv_goto (tgt := 5) hx hb dX4_risesAt_39 (by decide) ?_
          exact ih5 (x3_5 + 1) (x4_5 + 1) (lp_pos h0_5 c1) (lp_dec c1 hf_5) (by rw [hF]; simp only [f_X4_risesAt_L5, if_neg c1, if_neg c2]) _ _ hP hS ls (lv_sub hl [2, 3, 4, 1, 0] rfl)
  exact K5 25 (0 : Int32) (0 : Int32) (by decide) (lp_fuel (by decide) hn) (by rw [eF]; simp only [f_X4_risesAt]) _ _ hP hS ls (lv_sub hl [2, 3, 4, 1, 0] rfl)
/-! X4_fallsAt -/
theorem hs_X4_fallsAt : yX4_fallsAt.cls ≠ "java/lang/invoke/MethodHandle" ∧ yX4_fallsAt.cls ≠ "java/lang/invoke/VarHandle" ∧ (parseMethodDescriptor yX4_fallsAt.desc).map (fun d => d.parameters.length) = some 2 := by decide +kernel
theorem hd_X4_fallsAt : yX4_fallsAt.cls = RX4 ∧ yX4_fallsAt.cls ≠ "java/lang/invoke/MethodHandle" ∧ yX4_fallsAt.cls ≠ "java/lang/invoke/VarHandle" ∧ (parseMethodDescriptor yX4_fallsAt.desc).map (fun d => d.parameters.length) = some 2 := ⟨rfl, hs_X4_fallsAt⟩
def f_X4_fallsAt_L5 (xs : Nat → Int32) (ys : Nat → Int32) (pl : Nat → Int32) (p1 : Int32) (p2 : Int32)  : Nat → Int32 → Int32 → Int32
  | 0, _, _ => 0
  | n + 1, x3_5, x4_5 => (if p1 ≤ x4_5 then x3_5 else (if (f_X4_climbsBeside xs ys (f_X4_endOf pl x4_5 p1) (pl (Int32.toNatClampNeg x4_5)) p2) = 0 then (f_X4_fallsAt_L5 xs ys pl p1 p2  n x3_5 (x4_5 + 1)) else (f_X4_fallsAt_L5 xs ys pl p1 p2  n (x3_5 + 1) (x4_5 + 1))))
def f_X4_fallsAt (xs : Nat → Int32) (ys : Nat → Int32) (pl : Nat → Int32) (p1 : Int32) (p2 : Int32) : Int32 := (f_X4_fallsAt_L5 xs ys pl p1 p2  25 (0 : Int32) (0 : Int32))
abbrev rm_X4_fallsAt : Room := { frames := 4, cells := 0, slots := 0, locals := 95 }
set_option maxHeartbeats 8000000 in
set_option maxRecDepth 100000 in
theorem c_X4_fallsAt (l : Launch) (dC : Nat → ClassId) (dI : Nat → Nat → Nat) (a : Nat → Nat) (cI cJ : ClassId) (xs : Nat → Int32) (ys : Nat → Int32) (pl : Nat → Int32) (kp : Nat → Int32) (lp : Nat → Int64) (lq : Nat → Int64) (lr : Nat → Int64) (v0 : Int32) (v1 : Int32) (v2 : Int32) (v3 : Int32) (v4 : Int32) (v5 : Int32) (v6 : Int32) (v7 : Int32) (v8 : Int32) (v9 : Int32) (v10 : Int32) (p1 : Int32) (p2 : Int32) (hn : p1 ≤ 24) (hv : ∀ j : Nat, (j : Int) < (p1).toInt → vp_in (pl j) 60) (hp : vp_in p2 60) : Met l yX4_fallsAt (Cond.code yX4_fallsAt cX4_fallsAt 5 (some .int) :: lw_G) rm_X4_fallsAt (pPc (dC, dI) (tIJ cI cJ) (wC a cI cJ xs ys pl kp lp lq lr v0 v1 v2 v3 v4 v5 v6 v7 v8 v9 v10) [.ref (a 6), .int p1, .int p2]) (pQi (f_X4_fallsAt xs ys pl p1 p2)) 0 0 pNo := by
  refine pm_of (by decide) (Nat.le_of_ble_eq_true rfl) ?_
  intro p e s m args below meth c Q ls hQ hx hb hr hlk hml hown hts hP hK hS hl
  have hown : s.vm.findClass RX4 = some m.cls := hown
  have hl : lv_has ls 5 [(0, .ref (a 6)), (1, .int p1), (2, .int p2)] := hl
  obtain ⟨F, eF⟩ : ∃ F, F = (f_X4_fallsAt xs ys pl p1 p2) := ⟨_, rfl⟩
  refine lv_iconst (v := (0 : Int32)) hx hb dX4_fallsAt_0 (by decide) ?_
  refine lv_istore_n (lv' := [(3, .int (0 : Int32)), (0, .ref (a 6)), (1, .int p1), (2, .int p2)]) hx hb dX4_fallsAt_1 rfl hl (by decide) rfl (fun ls hl => ?_)
  refine lv_iconst (v := (0 : Int32)) hx hb dX4_fallsAt_2 (by decide) ?_
  refine lv_istore (lv' := [(4, .int (0 : Int32)), (3, .int (0 : Int32)), (0, .ref (a 6)), (1, .int p1), (2, .int p2)]) hx hb dX4_fallsAt_3 hl (by decide) rfl (fun ls hl => ?_)
  have K5 : ∀ (n5 : Nat) (x3_5 : Int32) (x4_5 : Int32), 0 ≤ x4_5 → ((p1).toInt - x4_5.toInt).toNat < n5 → F = f_X4_fallsAt_L5 xs ys pl p1 p2  n5 x3_5 x4_5 → ∀ (H : Heap) (locs : List Loc), va_P (dC, dI) vwCl (wC a cI cJ xs ys pl kp lp lq lr v0 v1 v2 v3 v4 v5 v6 v7 v8 v9 v10) H → va_S pNo s.heap H locs → ∀ (ls : Array Slot), lv_has ls 5 [(0, .ref (a 6)), (1, .int p1), (2, .int p2), (3, .int x3_5), (4, .int x4_5)] → W p l e rm_X4_fallsAt s m args below meth c H locs 0 0 Q (F0 m 5 ls []) := by
    intro n5
    induction n5 with
    | zero => intro x3_5 x4_5 h0_5 hf_5 hF H locs hP hS ls hl; exact absurd hf_5 (Nat.not_lt_zero _)
    | succ n5 ih5 =>
      intro x3_5 x4_5 h0_5 hf_5 hF H locs hP hS ls hl
      refine lv_iload hx hb dX4_fallsAt_5 (lv_at hl 4 rfl) ?_
      refine lv_iload_n hx hb dX4_fallsAt_7 rfl (lv_at hl 1 rfl) ?_
      refine lv_icmp_ge (tgt := 42) hx hb dX4_fallsAt_8 (by decide) (fun c1 => ?_) (fun c1 => ?_)
      · skip
        refine lv_iload_n hx hb dX4_fallsAt_42 rfl (lv_at hl 3 rfl) ?_
        exact rp_i hQ hx hb hr hlk hS (Eq.symm (eF.symm.trans (by rw [hF]; simp only [f_X4_fallsAt_L5, if_pos c1]))) dX4_fallsAt_43
      · skip
        have hI : vp_in x4_5 24 := ix_lt h0_5 c1 hn
        have hv1 := hv_at hv h0_5 c1
        have hE := in_endOf hv h0_5 c1
        refine lv_aload_n hx hb dX4_fallsAt_11 rfl (lv_at hl 0 rfl) ?_
        refine lv_aload_n hx hb dX4_fallsAt_12 rfl (lv_at hl 0 rfl) ?_
        refine lv_iload hx hb dX4_fallsAt_13 (lv_at hl 4 rfl) ?_
        refine lv_iload_n hx hb dX4_fallsAt_15 rfl (lv_at hl 1 rfl) ?_
        refine cp_i (va_runV (As := [.int x4_5, .int p1]) (rest := [.ref (a 6)]) ⟨hx, hb, hml, hown, hts⟩ (c_X4_endOf l dC dI a cI cJ xs ys pl kp lp lq lr v0 v1 v2 v3 v4 v5 v6 v7 v8 v9 v10 x4_5 p1 (by first | with_reducible assumption | exact in0_24 | exact in0_60 | decide) (by first | with_reducible assumption | exact in0_24 | exact in0_60 | decide) (by first | with_reducible assumption | exact in0_24 | exact in0_60 | decide)) (cwV 2 hts (gG_V mG_20_15 mG_20_16 mG_20_17 mG_2_4 (gG_c mG_20_18 gG_G)) rfl rfl rfl hd_X4_endOf ⟨Nat.le_of_ble_eq_true rfl, Nat.le_of_ble_eq_true rfl⟩) (pPcV (ci := 8) (q0 := 6) hK hP rfl rfl) rfl rfl hl.1 rfl (lv_room (Nat.le_of_ble_eq_true rfl)) dX4_fallsAt_16 ⟨Nat.le_of_ble_eq_true rfl, Nat.le_of_ble_eq_true rfl⟩) hP hS (fun H hP hS => ?_)
        refine lv_aload_n hx hb dX4_fallsAt_19 rfl (lv_at hl 0 rfl) ?_
        refine va_get (D := (dC, dI)) (ci := 8) (v := .ref (a 7)) (C := RX4) (T := TX4) (N := 3) hx hb hts (fun _ h => gI_wsX40 h) hown hK.1 hP 6 rfl rfl 1 (by decide) (hts _ mG_3_11) (fun _ h9 => h9) rfl dX4_fallsAt_20 ?_
        refine lv_iload hx hb dX4_fallsAt_23 (lv_at hl 4 rfl) ?_
        refine va_iald hx hb hK.1 hP 7 0 rfl rfl (by first | with_reducible assumption | exact in0_24 | exact in0_60 | decide) dX4_fallsAt_25 ?_
        refine lv_iload_n hx hb dX4_fallsAt_26 rfl (lv_at hl 2 rfl) ?_
        refine cp_i (va_runV (As := [.int (f_X4_endOf pl x4_5 p1), .int (pl (Int32.toNatClampNeg x4_5)), .int p2]) (rest := []) ⟨hx, hb, hml, hown, hts⟩ (c_X4_climbsBeside l dC dI a cI cJ xs ys pl kp lp lq lr v0 v1 v2 v3 v4 v5 v6 v7 v8 v9 v10 (f_X4_endOf pl x4_5 p1) (pl (Int32.toNatClampNeg x4_5)) p2 (by first | with_reducible assumption | exact in0_24 | exact in0_60 | decide) (by first | with_reducible assumption | exact in0_24 | exact in0_60 | decide) (by first | with_reducible assumption | exact in0_24 | exact in0_60 | decide)) (cwV 3 hts (gG_V mG_22_1 mG_22_2 mG_22_3 mG_2_4 (gG_c mG_22_4 gG_G)) rfl rfl rfl hd_X4_climbsBeside ⟨Nat.le_of_ble_eq_true rfl, Nat.le_of_ble_eq_true rfl⟩) (pPcV (ci := 8) (q0 := 6) hK hP rfl rfl) rfl rfl hl.1 rfl (lv_room (Nat.le_of_ble_eq_true rfl)) dX4_fallsAt_27 ⟨Nat.le_of_ble_eq_true rfl, Nat.le_of_ble_eq_true rfl⟩) hP hS (fun H hP hS => ?_)
        refine lv_if_eq (tgt := 36) hx hb dX4_fallsAt_30 (by decide) (fun c2 => ?_) (fun c2 => ?_)
        · skip
          refine lv_iinc (v := (x4_5 + 1)) (lv' := [(4, .int (x4_5 + 1)), (0, .ref (a 6)), (1, .int p1), (2, .int p2), (3, .int x3_5)]) hx hb dX4_fallsAt_36 hl (k := 4) rfl rfl (by decide) rfl (fun ls hl => ?_)
          refine lv_goto (tgt := 5) hx hb dX4_fallsAt_39 (by decide) ?_
          exact ih5 x3_5 (x4_5 + 1) (lp_pos h0_5 c1) (lp_dec c1 hf_5) (by rw [hF]; simp only [f_X4_fallsAt_L5, if_neg c1, if_pos c2]) _ _ hP hS ls (lv_sub hl [1, 2, 3, 4, 0] rfl)
        · skip
          refine lv_iinc (v := (x3_5 + 1)) (lv' := [(3, .int (x3_5 + 1)), (0, .ref (a 6)), (1, .int p1), (2, .int p2), (4, .int x4_5)]) hx hb dX4_fallsAt_33 hl (k := 3) rfl rfl (by decide) rfl (fun ls hl => ?_)
          refine lv_iinc (v := (x4_5 + 1)) (lv' := [(4, .int (x4_5 + 1)), (3, .int (x3_5 + 1)), (0, .ref (a 6)), (1, .int p1), (2, .int p2)]) hx hb dX4_fallsAt_36 hl (k := 4) rfl rfl (by decide) rfl (fun ls hl => ?_)
          refine lv_goto (tgt := 5) hx hb dX4_fallsAt_39 (by decide) ?_
          exact ih5 (x3_5 + 1) (x4_5 + 1) (lp_pos h0_5 c1) (lp_dec c1 hf_5) (by rw [hF]; simp only [f_X4_fallsAt_L5, if_neg c1, if_neg c2]) _ _ hP hS ls (lv_sub hl [2, 3, 4, 1, 0] rfl)
  exact K5 25 (0 : Int32) (0 : Int32) (by decide) (lp_fuel (by decide) hn) (by rw [eF]; simp only [f_X4_fallsAt]) _ _ hP hS ls (lv_sub hl [2, 3, 4, 1, 0] rfl)
/-! X4_nearestBits -/
theorem hs_X4_nearestBits : yX4_nearestBits.cls ≠ "java/lang/invoke/MethodHandle" ∧ yX4_nearestBits.cls ≠ "java/lang/invoke/VarHandle" ∧ (parseMethodDescriptor yX4_nearestBits.desc).map (fun d => d.parameters.length) = some 2 := by decide +kernel
theorem hd_X4_nearestBits : yX4_nearestBits.cls = RX4 ∧ yX4_nearestBits.cls ≠ "java/lang/invoke/MethodHandle" ∧ yX4_nearestBits.cls ≠ "java/lang/invoke/VarHandle" ∧ (parseMethodDescriptor yX4_nearestBits.desc).map (fun d => d.parameters.length) = some 2 := ⟨rfl, hs_X4_nearestBits⟩
def f_X4_nearestBits_L21 (xs : Nat → Int32) (ys : Nat → Int32) (pl : Nat → Int32) (p1 : Int32) (p2 : Int32)  : Nat → Int64 → Int32 → Int32 → Int32
  | 0, _, _, _ => 0
  | n + 1, x3_21, x5_21, x6_21 => (if p2 ≤ x6_21 then x5_21 else (if 0 ≤ (lg_cmp (f_X2_distance xs ys p1 (pl (Int32.toNatClampNeg x6_21))) x3_21) then (if (lg_cmp (f_X2_distance xs ys p1 (pl (Int32.toNatClampNeg x6_21))) x3_21) = 0 then (f_X4_nearestBits_L21 xs ys pl p1 p2  n x3_21 (x5_21 ||| ((1 : Int32) <<< (x6_21 &&& 31))) (x6_21 + 1)) else (f_X4_nearestBits_L21 xs ys pl p1 p2  n x3_21 x5_21 (x6_21 + 1))) else (if (lg_cmp (f_X2_distance xs ys p1 (pl (Int32.toNatClampNeg x6_21))) (f_X2_distance xs ys p1 (pl (Int32.toNatClampNeg x6_21)))) = 0 then (f_X4_nearestBits_L21 xs ys pl p1 p2  n (f_X2_distance xs ys p1 (pl (Int32.toNatClampNeg x6_21))) ((0 : Int32) ||| ((1 : Int32) <<< (x6_21 &&& 31))) (x6_21 + 1)) else (f_X4_nearestBits_L21 xs ys pl p1 p2  n (f_X2_distance xs ys p1 (pl (Int32.toNatClampNeg x6_21))) (0 : Int32) (x6_21 + 1)))))
def f_X4_nearestBits (xs : Nat → Int32) (ys : Nat → Int32) (pl : Nat → Int32) (p1 : Int32) (p2 : Int32) : Int32 := (f_X4_nearestBits_L21 xs ys pl p1 p2  25 (f_X2_distance xs ys p1 (pl (Int32.toNatClampNeg (0 : Int32)))) (0 : Int32) (0 : Int32))
abbrev rm_X4_nearestBits : Room := { frames := 1, cells := 0, slots := 0, locals := 26 }
set_option maxHeartbeats 8000000 in
set_option maxRecDepth 100000 in
theorem c_X4_nearestBits (l : Launch) (dC : Nat → ClassId) (dI : Nat → Nat → Nat) (a : Nat → Nat) (cI cJ : ClassId) (xs : Nat → Int32) (ys : Nat → Int32) (pl : Nat → Int32) (kp : Nat → Int32) (lp : Nat → Int64) (lq : Nat → Int64) (lr : Nat → Int64) (v0 : Int32) (v1 : Int32) (v2 : Int32) (v3 : Int32) (v4 : Int32) (v5 : Int32) (v6 : Int32) (v7 : Int32) (v8 : Int32) (v9 : Int32) (v10 : Int32) (p1 : Int32) (p2 : Int32) (hp : vp_in p1 60) (h1 : ¬ p2 ≤ 0) (hn : p2 ≤ 24) (hv : ∀ j : Nat, (j : Int) < (p2).toInt → vp_in (pl j) 60) : Met l yX4_nearestBits (Cond.code yX4_nearestBits cX4_nearestBits 9 (some .int) :: lw_G) rm_X4_nearestBits (pPc (dC, dI) (tIJ cI cJ) (wC a cI cJ xs ys pl kp lp lq lr v0 v1 v2 v3 v4 v5 v6 v7 v8 v9 v10) [.ref (a 6), .int p1, .int p2]) (pQi (f_X4_nearestBits xs ys pl p1 p2)) 0 0 pNo := by
  refine pm_of (by decide) (Nat.le_of_ble_eq_true rfl) ?_
  intro p e s m args below meth c Q ls hQ hx hb hr hlk hml hown hts hP hK hS hl
  have hown : s.vm.findClass RX4 = some m.cls := hown
  have hl : lv_has ls 9 [(0, .ref (a 6)), (1, .int p1), (2, .int p2)] := hl
  obtain ⟨F, eF⟩ : ∃ F, F = (f_X4_nearestBits xs ys pl p1 p2) := ⟨_, rfl⟩
  have hv0 := hv_at hv (Int32.le_refl 0) h1
  refine lv_aload_n hx hb dX4_nearestBits_0 rfl (lv_at hl 0 rfl) ?_
  refine va_get (D := (dC, dI)) (ci := 8) (v := .ref (a 1)) (C := RX4) (T := TX4) (N := 3) hx hb hts (fun _ h => gI_wsX40 h) hown hK.1 hP 6 rfl rfl 0 (by decide) (hts _ mG_3_13) (fun _ h9 => h9) rfl dX4_nearestBits_1 ?_
  refine lv_iload_n hx hb dX4_nearestBits_4 rfl (lv_at hl 1 rfl) ?_
  refine lv_aload_n hx hb dX4_nearestBits_5 rfl (lv_at hl 0 rfl) ?_
  refine va_get (D := (dC, dI)) (ci := 8) (v := .ref (a 7)) (C := RX4) (T := TX4) (N := 3) hx hb hts (fun _ h => gI_wsX40 h) hown hK.1 hP 6 rfl rfl 1 (by decide) (hts _ mG_3_11) (fun _ h9 => h9) rfl dX4_nearestBits_6 ?_
  refine lv_iconst (v := (0 : Int32)) hx hb dX4_nearestBits_9 (by decide) ?_
  refine va_iald hx hb hK.1 hP 7 0 rfl rfl (by first | with_reducible assumption | exact in0_24 | exact in0_60 | decide) dX4_nearestBits_10 ?_
  refine cp_l (va_runV (As := [.int p1, .int (pl (Int32.toNatClampNeg (0 : Int32)))]) (rest := []) ⟨hx, hb, hml, hown, hts⟩ (c_X2_distance l dC dI a cI cJ xs ys pl kp lp lq lr v0 v1 v2 v3 v4 v5 v6 v7 v8 v9 v10 p1 (pl (Int32.toNatClampNeg (0 : Int32))) (by first | with_reducible assumption | exact in0_24 | exact in0_60 | decide) (by first | with_reducible assumption | exact in0_24 | exact in0_60 | decide)) (cwV 2 hts (gG_V mG_23_14 mG_23_15 mG_23_16 mG_1_16 (gG_c mG_23_17 gG_G)) rfl rfl rfl hd_X2_distance ⟨Nat.le_of_ble_eq_true rfl, Nat.le_of_ble_eq_true rfl⟩) (pPcV (ci := 6) (q0 := 1) hK hP rfl rfl) rfl rfl hl.1 rfl (lv_room (Nat.le_of_ble_eq_true rfl)) dX4_nearestBits_11 ⟨Nat.le_of_ble_eq_true rfl, Nat.le_of_ble_eq_true rfl⟩) hP hS (fun H hP hS => ?_)
  refine lv_topl (fun y1 ey1 => ?_)
  refine lv_lstore_n (lv' := [(3, .long y1), (0, .ref (a 6)), (1, .int p1), (2, .int p2)]) hx hb dX4_nearestBits_14 rfl hl (by decide) rfl (fun ls hl => ?_)
  refine lv_iconst (v := (0 : Int32)) hx hb dX4_nearestBits_15 (by decide) ?_
  refine lv_istore (lv' := [(5, .int (0 : Int32)), (3, .long y1), (0, .ref (a 6)), (1, .int p1), (2, .int p2)]) hx hb dX4_nearestBits_16 hl (by decide) rfl (fun ls hl => ?_)
  refine lv_iconst (v := (0 : Int32)) hx hb dX4_nearestBits_18 (by decide) ?_
  refine lv_istore (lv' := [(6, .int (0 : Int32)), (5, .int (0 : Int32)), (3, .long y1), (0, .ref (a 6)), (1, .int p1), (2, .int p2)]) hx hb dX4_nearestBits_19 hl (by decide) rfl (fun ls hl => ?_)
  have K21 : ∀ (n21 : Nat) (x3_21 : Int64) (x5_21 : Int32) (x6_21 : Int32), 0 ≤ x6_21 → ((p2).toInt - x6_21.toInt).toNat < n21 → F = f_X4_nearestBits_L21 xs ys pl p1 p2  n21 x3_21 x5_21 x6_21 → ∀ (H : Heap) (locs : List Loc), va_P (dC, dI) vwCl (wC a cI cJ xs ys pl kp lp lq lr v0 v1 v2 v3 v4 v5 v6 v7 v8 v9 v10) H → va_S pNo s.heap H locs → ∀ (ls : Array Slot), lv_has ls 9 [(0, .ref (a 6)), (1, .int p1), (2, .int p2), (3, .long x3_21), (5, .int x5_21), (6, .int x6_21)] → W p l e rm_X4_nearestBits s m args below meth c H locs 0 0 Q (F0 m 21 ls []) := by
    intro n21
    induction n21 with
    | zero => intro x3_21 x5_21 x6_21 h0_21 hf_21 hF H locs hP hS ls hl; exact absurd hf_21 (Nat.not_lt_zero _)
    | succ n21 ih21 =>
      intro x3_21 x5_21 x6_21 h0_21 hf_21 hF H locs hP hS ls hl
      refine lv_iload hx hb dX4_nearestBits_21 (lv_at hl 5 rfl) ?_
      refine lv_iload_n hx hb dX4_nearestBits_23 rfl (lv_at hl 2 rfl) ?_
      refine lv_icmp_ge (tgt := 79) hx hb dX4_nearestBits_24 (by decide) (fun c2 => ?_) (fun c2 => ?_)
      · skip
        refine lv_iload hx hb dX4_nearestBits_79 (lv_at hl 4 rfl) ?_
        exact rp_i hQ hx hb hr hlk hS (Eq.symm (eF.symm.trans (by rw [hF]; simp only [f_X4_nearestBits_L21, if_pos c2]))) dX4_nearestBits_81
      · skip
        have hI : vp_in x6_21 24 := ix_lt h0_21 c2 hn
        have hv1 := hv_at hv h0_21 c2
        refine lv_aload_n hx hb dX4_nearestBits_27 rfl (lv_at hl 0 rfl) ?_
        refine va_get (D := (dC, dI)) (ci := 8) (v := .ref (a 1)) (C := RX4) (T := TX4) (N := 3) hx hb hts (fun _ h => gI_wsX40 h) hown hK.1 hP 6 rfl rfl 0 (by decide) (hts _ mG_3_13) (fun _ h9 => h9) rfl dX4_nearestBits_28 ?_
        refine lv_iload_n hx hb dX4_nearestBits_31 rfl (lv_at hl 1 rfl) ?_
        refine lv_aload_n hx hb dX4_nearestBits_32 rfl (lv_at hl 0 rfl) ?_
        refine va_get (D := (dC, dI)) (ci := 8) (v := .ref (a 7)) (C := RX4) (T := TX4) (N := 3) hx hb hts (fun _ h => gI_wsX40 h) hown hK.1 hP 6 rfl rfl 1 (by decide) (hts _ mG_3_11) (fun _ h9 => h9) rfl dX4_nearestBits_33 ?_
        refine lv_iload hx hb dX4_nearestBits_36 (lv_at hl 5 rfl) ?_
        refine va_iald hx hb hK.1 hP 7 0 rfl rfl (by first | with_reducible assumption | exact in0_24 | exact in0_60 | decide) dX4_nearestBits_38 ?_
        refine cp_l (va_runV (As := [.int p1, .int (pl (Int32.toNatClampNeg x6_21))]) (rest := []) ⟨hx, hb, hml, hown, hts⟩ (c_X2_distance l dC dI a cI cJ xs ys pl kp lp lq lr v0 v1 v2 v3 v4 v5 v6 v7 v8 v9 v10 p1 (pl (Int32.toNatClampNeg x6_21)) (by first | with_reducible assumption | exact in0_24 | exact in0_60 | decide) (by first | with_reducible assumption | exact in0_24 | exact in0_60 | decide)) (cwV 2 hts (gG_V mG_23_14 mG_23_15 mG_23_16 mG_1_16 (gG_c mG_23_17 gG_G)) rfl rfl rfl hd_X2_distance ⟨Nat.le_of_ble_eq_true rfl, Nat.le_of_ble_eq_true rfl⟩) (pPcV (ci := 6) (q0 := 1) hK hP rfl rfl) rfl rfl hl.1 rfl (lv_room (Nat.le_of_ble_eq_true rfl)) dX4_nearestBits_39 ⟨Nat.le_of_ble_eq_true rfl, Nat.le_of_ble_eq_true rfl⟩) hP hS (fun H hP hS => ?_)
        refine lv_topl (fun y3 ey3 => ?_)
        refine lv_lstore (lv' := [(7, .long y3), (0, .ref (a 6)), (1, .int p1), (2, .int p2), (3, .long x3_21), (5, .int x5_21), (6, .int x6_21)]) hx hb dX4_nearestBits_42 hl (by decide) rfl (fun ls hl => ?_)
        refine lv_lload hx hb dX4_nearestBits_44 (lv_at hl 0 rfl) ?_
        refine lv_lload_n hx hb dX4_nearestBits_46 rfl (lv_at hl 4 rfl) ?_
        refine W.lcmp hx hb dX4_nearestBits_47 ?_
        refine lv_if_ge (tgt := 57) hx hb dX4_nearestBits_48 (by decide) (fun c4 => ?_) (fun c4 => ?_)
        · skip
          refine lv_lload hx hb dX4_nearestBits_57 (lv_at hl 0 rfl) ?_
          refine lv_lload_n hx hb dX4_nearestBits_59 rfl (lv_at hl 4 rfl) ?_
          refine W.lcmp hx hb dX4_nearestBits_60 ?_
          refine lv_if_ne (tgt := 73) hx hb dX4_nearestBits_61 (by decide) (fun c5 => ?_) (fun c5 => ?_)
          · skip
            refine lv_iinc (v := (x6_21 + 1)) (lv' := [(6, .int (x6_21 + 1)), (7, .long y3), (0, .ref (a 6)), (1, .int p1), (2, .int p2), (3, .long x3_21), (5, .int x5_21)]) hx hb dX4_nearestBits_73 hl (k := 6) rfl rfl (by decide) rfl (fun ls hl => ?_)
            refine lv_goto (tgt := 21) hx hb dX4_nearestBits_76 (by decide) ?_
            exact ih21 x3_21 x5_21 (x6_21 + 1) (lp_pos h0_21 c2) (lp_dec c2 hf_21) (by subst ey3; rw [hF]; simp only [f_X4_nearestBits_L21, if_neg c2, if_pos c4, if_neg c5]) _ _ hP hS ls (lv_sub hl [2, 3, 4, 5, 6, 0] rfl)
          · skip
            refine lv_iload hx hb dX4_nearestBits_64 (lv_at hl 5 rfl) ?_
            refine lv_iconst (v := (1 : Int32)) hx hb dX4_nearestBits_66 (by decide) ?_
            refine lv_iload hx hb dX4_nearestBits_67 (lv_at hl 6 rfl) ?_
            refine lv_ishl hx hb dX4_nearestBits_69 ?_
            refine lv_ior hx hb dX4_nearestBits_70 ?_
            refine lv_topi (fun y6 ey6 => ?_)
            refine lv_istore (lv' := [(5, .int y6), (7, .long y3), (0, .ref (a 6)), (1, .int p1), (2, .int p2), (3, .long x3_21), (6, .int x6_21)]) hx hb dX4_nearestBits_71 hl (by decide) rfl (fun ls hl => ?_)
            refine lv_iinc (v := (x6_21 + 1)) (lv' := [(6, .int (x6_21 + 1)), (5, .int y6), (7, .long y3), (0, .ref (a 6)), (1, .int p1), (2, .int p2), (3, .long x3_21)]) hx hb dX4_nearestBits_73 hl (k := 6) rfl rfl (by decide) rfl (fun ls hl => ?_)
            refine lv_goto (tgt := 21) hx hb dX4_nearestBits_76 (by decide) ?_
            exact ih21 x3_21 y6 (x6_21 + 1) (lp_pos h0_21 c2) (lp_dec c2 hf_21) (by subst ey3; subst ey6; rw [hF]; simp only [f_X4_nearestBits_L21, if_neg c2, if_pos c4, if_pos c5]) _ _ hP hS ls (lv_sub hl [3, 4, 5, 6, 1, 0] rfl)
        · skip
          refine lv_lload hx hb dX4_nearestBits_51 (lv_at hl 0 rfl) ?_
          refine lv_lstore_n (lv' := [(3, .long y3), (7, .long y3), (0, .ref (a 6)), (1, .int p1), (2, .int p2), (5, .int x5_21), (6, .int x6_21)]) hx hb dX4_nearestBits_53 rfl hl (by decide) rfl (fun ls hl => ?_)
          refine lv_iconst (v := (0 : Int32)) hx hb dX4_nearestBits_54 (by decide) ?_
          refine lv_istore (lv' := [(5, .int (0 : Int32)), (3, .long y3), (7, .long y3), (0, .ref (a 6)), (1, .int p1), (2, .int p2), (6, .int x6_21)]) hx hb dX4_nearestBits_55 hl (by decide) rfl (fun ls hl => ?_)
          refine lv_lload hx hb dX4_nearestBits_57 (lv_at hl 2 rfl) ?_
          refine lv_lload_n hx hb dX4_nearestBits_59 rfl (lv_at hl 1 rfl) ?_
          refine W.lcmp hx hb dX4_nearestBits_60 ?_
          refine lv_if_ne (tgt := 73) hx hb dX4_nearestBits_61 (by decide) (fun c7 => ?_) (fun c7 => ?_)
          · skip
            refine lv_iinc (v := (x6_21 + 1)) (lv' := [(6, .int (x6_21 + 1)), (5, .int (0 : Int32)), (3, .long y3), (7, .long y3), (0, .ref (a 6)), (1, .int p1), (2, .int p2)]) hx hb dX4_nearestBits_73 hl (k := 6) rfl rfl (by decide) rfl (fun ls hl => ?_)
            refine lv_goto (tgt := 21) hx hb dX4_nearestBits_76 (by decide) ?_
            exact ih21 y3 (0 : Int32) (x6_21 + 1) (lp_pos h0_21 c2) (lp_dec c2 hf_21) (by subst ey3; rw [hF]; simp only [f_X4_nearestBits_L21, if_neg c2, if_neg c4, if_neg c7]) _ _ hP hS ls (lv_sub hl [4, 5, 6, 2, 1, 0] rfl)
          · skip
            refine lv_iload hx hb dX4_nearestBits_64 (lv_at hl 0 rfl) ?_
            refine lv_iconst (v := (1 : Int32)) hx hb dX4_nearestBits_66 (by decide) ?_
            refine lv_iload hx hb dX4_nearestBits_67 (lv_at hl 6 rfl) ?_
            refine lv_ishl hx hb dX4_nearestBits_69 ?_
            refine lv_ior hx hb dX4_nearestBits_70 ?_
            refine lv_topi (fun y8 ey8 => ?_)
            refine lv_istore (lv' := [(5, .int y8), (3, .long y3), (7, .long y3), (0, .ref (a 6)), (1, .int p1), (2, .int p2), (6, .int x6_21)]) hx hb dX4_nearestBits_71 hl (by decide) rfl (fun ls hl => ?_)
            refine lv_iinc (v := (x6_21 + 1)) (lv' := [(6, .int (x6_21 + 1)), (5, .int y8), (3, .long y3), (7, .long y3), (0, .ref (a 6)), (1, .int p1), (2, .int p2)]) hx hb dX4_nearestBits_73 hl (k := 6) rfl rfl (by decide) rfl (fun ls hl => ?_)
            refine lv_goto (tgt := 21) hx hb dX4_nearestBits_76 (by decide) ?_
            exact ih21 y3 y8 (x6_21 + 1) (lp_pos h0_21 c2) (lp_dec c2 hf_21) (by subst ey3; subst ey8; rw [hF]; simp only [f_X4_nearestBits_L21, if_neg c2, if_neg c4, if_pos c7]) _ _ hP hS ls (lv_sub hl [4, 5, 6, 2, 1, 0] rfl)
  exact K21 25 y1 (0 : Int32) (0 : Int32) (by decide) (lp_fuel (by decide) hn) (by subst ey1; rw [eF]; simp only [f_X4_nearestBits]) _ _ hP hS ls (lv_sub hl [3, 4, 5, 2, 1, 0] rfl)
/-! X4_partOfTurn -/
theorem hs_X4_partOfTurn : yX4_partOfTurn.cls ≠ "java/lang/invoke/MethodHandle" ∧ yX4_partOfTurn.cls ≠ "java/lang/invoke/VarHandle" ∧ (parseMethodDescriptor yX4_partOfTurn.desc).map (fun d => d.parameters.length) = some 2 := by decide +kernel
theorem hd_X4_partOfTurn : yX4_partOfTurn.cls = RX4 ∧ yX4_partOfTurn.cls ≠ "java/lang/invoke/MethodHandle" ∧ yX4_partOfTurn.cls ≠ "java/lang/invoke/VarHandle" ∧ (parseMethodDescriptor yX4_partOfTurn.desc).map (fun d => d.parameters.length) = some 2 := ⟨rfl, hs_X4_partOfTurn⟩
def f_X4_partOfTurn (xs : Nat → Int32) (ys : Nat → Int32) (p1 : Int32) (p2 : Int32) : Int32 := (if ((xs (Int32.toNatClampNeg p2)) - (xs (Int32.toNatClampNeg p1))) = 0 then (if ((ys (Int32.toNatClampNeg p2)) - (ys (Int32.toNatClampNeg p1))) = 0 then (0 : Int32) else (if 0 < ((ys (Int32.toNatClampNeg p2)) - (ys (Int32.toNatClampNeg p1))) then (1 : Int32) else (2 : Int32))) else (if 0 < ((ys (Int32.toNatClampNeg p2)) - (ys (Int32.toNatClampNeg p1))) then (1 : Int32) else (if ((ys (Int32.toNatClampNeg p2)) - (ys (Int32.toNatClampNeg p1))) = 0 then (if ((xs (Int32.toNatClampNeg p2)) - (xs (Int32.toNatClampNeg p1))) ≤ 0 then (2 : Int32) else (1 : Int32)) else (2 : Int32))))
abbrev rm_X4_partOfTurn : Room := { frames := 0, cells := 0, slots := 0, locals := 0 }
set_option maxHeartbeats 8000000 in
set_option maxRecDepth 100000 in
theorem c_X4_partOfTurn (l : Launch) (dC : Nat → ClassId) (dI : Nat → Nat → Nat) (a : Nat → Nat) (cI cJ : ClassId) (xs : Nat → Int32) (ys : Nat → Int32) (pl : Nat → Int32) (kp : Nat → Int32) (lp : Nat → Int64) (lq : Nat → Int64) (lr : Nat → Int64) (v0 : Int32) (v1 : Int32) (v2 : Int32) (v3 : Int32) (v4 : Int32) (v5 : Int32) (v6 : Int32) (v7 : Int32) (v8 : Int32) (v9 : Int32) (v10 : Int32) (p1 : Int32) (p2 : Int32) (hi1 : vp_in p1 60) (hi2 : vp_in p2 60) : Met l yX4_partOfTurn (Cond.code yX4_partOfTurn cX4_partOfTurn 5 (some .int) :: lw_G) rm_X4_partOfTurn (pPc (dC, dI) (tIJ cI cJ) (wC a cI cJ xs ys pl kp lp lq lr v0 v1 v2 v3 v4 v5 v6 v7 v8 v9 v10) [.ref (a 6), .int p1, .int p2]) (pQi (f_X4_partOfTurn xs ys p1 p2)) 0 0 pNo := by
  refine pm_of (by decide) (Nat.le_of_ble_eq_true rfl) ?_
  intro p e s m args below meth c Q ls hQ hx hb hr hlk hml hown hts hP hK hS hl
  have hown : s.vm.findClass RX4 = some m.cls := hown
  have hl : lv_has ls 5 [(0, .ref (a 6)), (1, .int p1), (2, .int p2)] := hl
  refine lv_aload_n hx hb dX4_partOfTurn_0 rfl (lv_at hl 0 rfl) ?_
  refine va_get (D := (dC, dI)) (ci := 8) (v := .ref (a 1)) (C := RX4) (T := TX4) (N := 3) hx hb hts (fun _ h => gI_wsX40 h) hown hK.1 hP 6 rfl rfl 0 (by decide) (hts _ mG_3_13) (fun _ h9 => h9) rfl dX4_partOfTurn_1 ?_
  refine va_get (D := (dC, dI)) (ci := 6) (v := .ref (a 2)) (C := RX2) (T := TX2) (N := 3) hx hb hts (fun _ h => gI_wsX20 h) hown hK.1 hP 1 rfl rfl 0 (by decide) (hts _ mG_24_22) (fun _ h9 => h9) rfl dX4_partOfTurn_4 ?_
  refine lv_iload_n hx hb dX4_partOfTurn_7 rfl (lv_at hl 2 rfl) ?_
  refine va_iald hx hb hK.1 hP 2 0 rfl rfl (by first | with_reducible assumption | exact in0_24 | exact in0_60 | decide) dX4_partOfTurn_8 ?_
  refine lv_aload_n hx hb dX4_partOfTurn_9 rfl (lv_at hl 0 rfl) ?_
  refine va_get (D := (dC, dI)) (ci := 8) (v := .ref (a 1)) (C := RX4) (T := TX4) (N := 3) hx hb hts (fun _ h => gI_wsX40 h) hown hK.1 hP 6 rfl rfl 0 (by decide) (hts _ mG_3_13) (fun _ h9 => h9) rfl dX4_partOfTurn_10 ?_
  refine va_get (D := (dC, dI)) (ci := 6) (v := .ref (a 2)) (C := RX2) (T := TX2) (N := 3) hx hb hts (fun _ h => gI_wsX20 h) hown hK.1 hP 1 rfl rfl 0 (by decide) (hts _ mG_24_22) (fun _ h9 => h9) rfl dX4_partOfTurn_13 ?_
  refine lv_iload_n hx hb dX4_partOfTurn_16 rfl (lv_at hl 1 rfl) ?_
  refine va_iald hx hb hK.1 hP 2 0 rfl rfl (by first | with_reducible assumption | exact in0_24 | exact in0_60 | decide) dX4_partOfTurn_17 ?_
  refine lv_isub hx hb dX4_partOfTurn_18 ?_
  refine lv_topi (fun y1 ey1 => ?_)
  refine lv_istore_n (lv' := [(3, .int y1), (0, .ref (a 6)), (1, .int p1), (2, .int p2)]) hx hb dX4_partOfTurn_19 rfl hl (by decide) rfl (fun ls hl => ?_)
  refine lv_aload_n hx hb dX4_partOfTurn_20 rfl (lv_at hl 1 rfl) ?_
  refine va_get (D := (dC, dI)) (ci := 8) (v := .ref (a 1)) (C := RX4) (T := TX4) (N := 3) hx hb hts (fun _ h => gI_wsX40 h) hown hK.1 hP 6 rfl rfl 0 (by decide) (hts _ mG_3_13) (fun _ h9 => h9) rfl dX4_partOfTurn_21 ?_
  refine va_get (D := (dC, dI)) (ci := 6) (v := .ref (a 3)) (C := RX2) (T := TX2) (N := 3) hx hb hts (fun _ h => gI_wsX20 h) hown hK.1 hP 1 rfl rfl 1 (by decide) (hts _ mG_22_5) (fun _ h9 => h9) rfl dX4_partOfTurn_24 ?_
  refine lv_iload_n hx hb dX4_partOfTurn_27 rfl (lv_at hl 3 rfl) ?_
  refine va_iald hx hb hK.1 hP 3 0 rfl rfl (by first | with_reducible assumption | exact in0_24 | exact in0_60 | decide) dX4_partOfTurn_28 ?_
  refine lv_aload_n hx hb dX4_partOfTurn_29 rfl (lv_at hl 1 rfl) ?_
  refine va_get (D := (dC, dI)) (ci := 8) (v := .ref (a 1)) (C := RX4) (T := TX4) (N := 3) hx hb hts (fun _ h => gI_wsX40 h) hown hK.1 hP 6 rfl rfl 0 (by decide) (hts _ mG_3_13) (fun _ h9 => h9) rfl dX4_partOfTurn_30 ?_
  refine va_get (D := (dC, dI)) (ci := 6) (v := .ref (a 3)) (C := RX2) (T := TX2) (N := 3) hx hb hts (fun _ h => gI_wsX20 h) hown hK.1 hP 1 rfl rfl 1 (by decide) (hts _ mG_22_5) (fun _ h9 => h9) rfl dX4_partOfTurn_33 ?_
  refine lv_iload_n hx hb dX4_partOfTurn_36 rfl (lv_at hl 2 rfl) ?_
  refine va_iald hx hb hK.1 hP 3 0 rfl rfl (by first | with_reducible assumption | exact in0_24 | exact in0_60 | decide) dX4_partOfTurn_37 ?_
  refine lv_isub hx hb dX4_partOfTurn_38 ?_
  refine lv_topi (fun y2 ey2 => ?_)
  refine lv_istore (lv' := [(4, .int y2), (3, .int y1), (0, .ref (a 6)), (1, .int p1), (2, .int p2)]) hx hb dX4_partOfTurn_39 hl (by decide) rfl (fun ls hl => ?_)
  refine lv_iload_n hx hb dX4_partOfTurn_41 rfl (lv_at hl 1 rfl) ?_
  refine lv_if_ne (tgt := 52) hx hb dX4_partOfTurn_42 (by decide) (fun c3 => ?_) (fun c3 => ?_)
  · skip
    refine lv_iload hx hb dX4_partOfTurn_52 (lv_at hl 0 rfl) ?_
    refine lv_if_gt (tgt := 66) hx hb dX4_partOfTurn_54 (by decide) (fun c4 => ?_) (fun c4 => ?_)
    · skip
      refine lv_iconst (v := (1 : Int32)) hx hb dX4_partOfTurn_66 (by decide) ?_
      refine lv_goto (tgt := 71) hx hb dX4_partOfTurn_67 (by decide) ?_
      exact rp_i hQ hx hb hr hlk hS (Eq.symm (by subst ey1; subst ey2; simp only [f_X4_partOfTurn, if_neg c3, if_pos c4])) dX4_partOfTurn_71
    · skip
      refine lv_iload hx hb dX4_partOfTurn_57 (lv_at hl 0 rfl) ?_
      refine lv_if_ne (tgt := 70) hx hb dX4_partOfTurn_59 (by decide) (fun c5 => ?_) (fun c5 => ?_)
      · skip
        refine lv_iconst (v := (2 : Int32)) hx hb dX4_partOfTurn_70 (by decide) ?_
        exact rp_i hQ hx hb hr hlk hS (Eq.symm (by subst ey1; subst ey2; simp only [f_X4_partOfTurn, if_neg c3, if_neg c4, if_neg c5])) dX4_partOfTurn_71
      · skip
        refine lv_iload_n hx hb dX4_partOfTurn_62 rfl (lv_at hl 1 rfl) ?_
        refine lv_if_le (tgt := 70) hx hb dX4_partOfTurn_63 (by decide) (fun c6 => ?_) (fun c6 => ?_)
        · skip
          refine lv_iconst (v := (2 : Int32)) hx hb dX4_partOfTurn_70 (by decide) ?_
          exact rp_i hQ hx hb hr hlk hS (Eq.symm (by subst ey1; subst ey2; simp only [f_X4_partOfTurn, if_neg c3, if_neg c4, if_pos c5, if_pos c6])) dX4_partOfTurn_71
        · skip
          refine lv_iconst (v := (1 : Int32)) hx hb dX4_partOfTurn_66 (by decide) ?_
          refine lv_goto (tgt := 71) hx hb dX4_partOfTurn_67 (by decide) ?_
          exact rp_i hQ hx hb hr hlk hS (Eq.symm (by subst ey1; subst ey2; simp only [f_X4_partOfTurn, if_neg c3, if_neg c4, if_pos c5, if_neg c6])) dX4_partOfTurn_71
  · skip
    refine lv_iload hx hb dX4_partOfTurn_45 (lv_at hl 0 rfl) ?_
    refine lv_if_ne (tgt := 52) hx hb dX4_partOfTurn_47 (by decide) (fun c7 => ?_) (fun c7 => ?_)
    · skip
      refine lv_iload hx hb dX4_partOfTurn_52 (lv_at hl 0 rfl) ?_
      refine lv_if_gt (tgt := 66) hx hb dX4_partOfTurn_54 (by decide) (fun c8 => ?_) (fun c8 => ?_)
      · skip
        refine lv_iconst (v := (1 : Int32)) hx hb dX4_partOfTurn_66 (by decide) ?_
        refine lv_goto (tgt := 71) hx hb dX4_partOfTurn_67 (by decide) ?_
        exact rp_i hQ hx hb hr hlk hS (Eq.symm (by subst ey1; subst ey2; simp only [f_X4_partOfTurn, if_pos c3, if_neg c7, if_pos c8])) dX4_partOfTurn_71
      · skip
        refine lv_iload hx hb dX4_partOfTurn_57 (lv_at hl 0 rfl) ?_
        refine lv_if_ne (tgt := 70) hx hb dX4_partOfTurn_59 (by decide) (fun _ => ?_) (fun c9 => by subst ey1; subst ey2; exact absurd c9 c7)
        refine lv_iconst (v := (2 : Int32)) hx hb dX4_partOfTurn_70 (by decide) ?_
        exact rp_i hQ hx hb hr hlk hS (Eq.symm (by subst ey1; subst ey2; simp only [f_X4_partOfTurn, if_pos c3, if_neg c7, if_neg c8])) dX4_partOfTurn_71
    · skip
      refine lv_iconst (v := (0 : Int32)) hx hb dX4_partOfTurn_50 (by decide) ?_
      exact rp_i hQ hx hb hr hlk hS (Eq.symm (by subst ey1; subst ey2; simp only [f_X4_partOfTurn, if_pos c3, if_pos c7])) dX4_partOfTurn_51
/-! X4_compareRound -/
theorem hs_X4_compareRound : yX4_compareRound.cls ≠ "java/lang/invoke/MethodHandle" ∧ yX4_compareRound.cls ≠ "java/lang/invoke/VarHandle" ∧ (parseMethodDescriptor yX4_compareRound.desc).map (fun d => d.parameters.length) = some 3 := by decide +kernel
theorem hd_X4_compareRound : yX4_compareRound.cls = RX4 ∧ yX4_compareRound.cls ≠ "java/lang/invoke/MethodHandle" ∧ yX4_compareRound.cls ≠ "java/lang/invoke/VarHandle" ∧ (parseMethodDescriptor yX4_compareRound.desc).map (fun d => d.parameters.length) = some 3 := ⟨rfl, hs_X4_compareRound⟩
def f_X4_compareRound (xs : Nat → Int32) (ys : Nat → Int32) (pl : Nat → Int32) (p1 : Int32) (p2 : Int32) (p3 : Int32) : Int32 := (if (f_X4_partOfTurn xs ys p1 (pl (Int32.toNatClampNeg p2))) = (f_X4_partOfTurn xs ys p1 (pl (Int32.toNatClampNeg p3))) then (if (f_X2_turn xs ys p1 (pl (Int32.toNatClampNeg p2)) (pl (Int32.toNatClampNeg p3))) = 0 then (if (f_J13_compare_74951 (f_X2_distance xs ys p1 (pl (Int32.toNatClampNeg p2))) (f_X2_distance xs ys p1 (pl (Int32.toNatClampNeg p3)))) = 0 then (f_J6_compare_7cf53 p2 p3) else (f_J13_compare_74951 (f_X2_distance xs ys p1 (pl (Int32.toNatClampNeg p2))) (f_X2_distance xs ys p1 (pl (Int32.toNatClampNeg p3))))) else (-(f_X2_turn xs ys p1 (pl (Int32.toNatClampNeg p2)) (pl (Int32.toNatClampNeg p3))))) else (f_J6_compare_7cf53 (f_X4_partOfTurn xs ys p1 (pl (Int32.toNatClampNeg p2))) (f_X4_partOfTurn xs ys p1 (pl (Int32.toNatClampNeg p3)))))
abbrev rm_X4_compareRound : Room := { frames := 3, cells := 0, slots := 0, locals := 71 }
set_option maxHeartbeats 8000000 in
set_option maxRecDepth 100000 in
theorem c_X4_compareRound (l : Launch) (dC : Nat → ClassId) (dI : Nat → Nat → Nat) (a : Nat → Nat) (cI cJ : ClassId) (xs : Nat → Int32) (ys : Nat → Int32) (pl : Nat → Int32) (kp : Nat → Int32) (lp : Nat → Int64) (lq : Nat → Int64) (lr : Nat → Int64) (v0 : Int32) (v1 : Int32) (v2 : Int32) (v3 : Int32) (v4 : Int32) (v5 : Int32) (v6 : Int32) (v7 : Int32) (v8 : Int32) (v9 : Int32) (v10 : Int32) (p1 : Int32) (p2 : Int32) (p3 : Int32) (hc : vp_in p1 60) (hj : vp_in p2 24) (hk : vp_in p3 24) (hvj : vp_in (pl (Int32.toNatClampNeg p2)) 60) (hvk : vp_in (pl (Int32.toNatClampNeg p3)) 60) : Met l yX4_compareRound (Cond.code yX4_compareRound cX4_compareRound 10 (some .int) :: lw_G) rm_X4_compareRound (pPc (dC, dI) (tIJ cI cJ) (wC a cI cJ xs ys pl kp lp lq lr v0 v1 v2 v3 v4 v5 v6 v7 v8 v9 v10) [.ref (a 6), .int p1, .int p2, .int p3]) (pQi (f_X4_compareRound xs ys pl p1 p2 p3)) 0 0 pNo := by
  refine pm_of (by decide) (Nat.le_of_ble_eq_true rfl) ?_
  intro p e s m args below meth c Q ls hQ hx hb hr hlk hml hown hts hP hK hS hl
  have hown : s.vm.findClass RX4 = some m.cls := hown
  have hl : lv_has ls 10 [(0, .ref (a 6)), (1, .int p1), (2, .int p2), (3, .int p3)] := hl
  refine lv_aload_n hx hb dX4_compareRound_0 rfl (lv_at hl 0 rfl) ?_
  refine va_get (D := (dC, dI)) (ci := 8) (v := .ref (a 7)) (C := RX4) (T := TX4) (N := 3) hx hb hts (fun _ h => gI_wsX40 h) hown hK.1 hP 6 rfl rfl 1 (by decide) (hts _ mG_3_11) (fun _ h9 => h9) rfl dX4_compareRound_1 ?_
  refine lv_iload_n hx hb dX4_compareRound_4 rfl (lv_at hl 2 rfl) ?_
  refine va_iald hx hb hK.1 hP 7 0 rfl rfl (by first | with_reducible assumption | exact in0_24 | exact in0_60 | decide) dX4_compareRound_5 ?_
  refine lv_topi (fun y1 ey1 => ?_)
  refine lv_istore (lv' := [(4, .int y1), (0, .ref (a 6)), (1, .int p1), (2, .int p2), (3, .int p3)]) hx hb dX4_compareRound_6 hl (by decide) rfl (fun ls hl => ?_)
  refine lv_aload_n hx hb dX4_compareRound_8 rfl (lv_at hl 1 rfl) ?_
  refine va_get (D := (dC, dI)) (ci := 8) (v := .ref (a 7)) (C := RX4) (T := TX4) (N := 3) hx hb hts (fun _ h => gI_wsX40 h) hown hK.1 hP 6 rfl rfl 1 (by decide) (hts _ mG_3_11) (fun _ h9 => h9) rfl dX4_compareRound_9 ?_
  refine lv_iload_n hx hb dX4_compareRound_12 rfl (lv_at hl 4 rfl) ?_
  refine va_iald hx hb hK.1 hP 7 0 rfl rfl (by first | with_reducible assumption | exact in0_24 | exact in0_60 | decide) dX4_compareRound_13 ?_
  refine lv_topi (fun y2 ey2 => ?_)
  refine lv_istore (lv' := [(5, .int y2), (4, .int y1), (0, .ref (a 6)), (1, .int p1), (2, .int p2), (3, .int p3)]) hx hb dX4_compareRound_14 hl (by decide) rfl (fun ls hl => ?_)
  have hy4 : vp_in y1 60 := by rw [ey1]; exact hvj
  have hy5 : vp_in y2 60 := by rw [ey2]; exact hvk
  refine lv_aload_n hx hb dX4_compareRound_16 rfl (lv_at hl 2 rfl) ?_
  refine lv_iload_n hx hb dX4_compareRound_17 rfl (lv_at hl 3 rfl) ?_
  refine lv_iload hx hb dX4_compareRound_18 (lv_at hl 1 rfl) ?_
  refine cp_i (va_runV (As := [.int p1, .int y1]) (rest := []) ⟨hx, hb, hml, hown, hts⟩ (c_X4_partOfTurn l dC dI a cI cJ xs ys pl kp lp lq lr v0 v1 v2 v3 v4 v5 v6 v7 v8 v9 v10 p1 y1 (by first | with_reducible assumption | exact in0_24 | exact in0_60 | decide) (by first | with_reducible assumption | exact in0_24 | exact in0_60 | decide)) (cwV 2 hts (gG_V mG_24_18 mG_24_19 mG_24_20 mG_2_4 (gG_c mG_24_21 gG_G)) rfl rfl rfl hd_X4_partOfTurn ⟨Nat.le_of_ble_eq_true rfl, Nat.le_of_ble_eq_true rfl⟩) (pPcV (ci := 8) (q0 := 6) hK hP rfl rfl) rfl rfl hl.1 rfl (lv_room (Nat.le_of_ble_eq_true rfl)) dX4_compareRound_20 ⟨Nat.le_of_ble_eq_true rfl, Nat.le_of_ble_eq_true rfl⟩) hP hS (fun H hP hS => ?_)
  refine lv_topi (fun y3 ey3 => ?_)
  refine lv_istore (lv' := [(6, .int y3), (5, .int y2), (4, .int y1), (0, .ref (a 6)), (1, .int p1), (2, .int p2), (3, .int p3)]) hx hb dX4_compareRound_23 hl (by decide) rfl (fun ls hl => ?_)
  refine lv_aload_n hx hb dX4_compareRound_25 rfl (lv_at hl 3 rfl) ?_
  refine lv_iload_n hx hb dX4_compareRound_26 rfl (lv_at hl 4 rfl) ?_
  refine lv_iload hx hb dX4_compareRound_27 (lv_at hl 1 rfl) ?_
  refine cp_i (va_runV (As := [.int p1, .int y2]) (rest := []) ⟨hx, hb, hml, hown, hts⟩ (c_X4_partOfTurn l dC dI a cI cJ xs ys pl kp lp lq lr v0 v1 v2 v3 v4 v5 v6 v7 v8 v9 v10 p1 y2 (by first | with_reducible assumption | exact in0_24 | exact in0_60 | decide) (by first | with_reducible assumption | exact in0_24 | exact in0_60 | decide)) (cwV 2 hts (gG_V mG_24_18 mG_24_19 mG_24_20 mG_2_4 (gG_c mG_24_21 gG_G)) rfl rfl rfl hd_X4_partOfTurn ⟨Nat.le_of_ble_eq_true rfl, Nat.le_of_ble_eq_true rfl⟩) (pPcV (ci := 8) (q0 := 6) hK hP rfl rfl) rfl rfl hl.1 rfl (lv_room (Nat.le_of_ble_eq_true rfl)) dX4_compareRound_29 ⟨Nat.le_of_ble_eq_true rfl, Nat.le_of_ble_eq_true rfl⟩) hP hS (fun H hP hS => ?_)
  refine lv_topi (fun y4 ey4 => ?_)
  refine lv_istore (lv' := [(7, .int y4), (6, .int y3), (5, .int y2), (4, .int y1), (0, .ref (a 6)), (1, .int p1), (2, .int p2), (3, .int p3)]) hx hb dX4_compareRound_32 hl (by decide) rfl (fun ls hl => ?_)
  refine lv_iload hx hb dX4_compareRound_34 (lv_at hl 1 rfl) ?_
  refine lv_iload hx hb dX4_compareRound_36 (lv_at hl 0 rfl) ?_
  refine lv_icmp_eq (tgt := 49) hx hb dX4_compareRound_38 (by decide) (fun c5 => ?_) (fun c5 => ?_)
  · skip
    refine lv_aload_n hx hb dX4_compareRound_49 rfl (lv_at hl 4 rfl) ?_
    refine va_get (D := (dC, dI)) (ci := 8) (v := .ref (a 1)) (C := RX4) (T := TX4) (N := 3) hx hb hts (fun _ h => gI_wsX40 h) hown hK.1 hP 6 rfl rfl 0 (by decide) (hts _ mG_3_13) (fun _ h9 => h9) rfl dX4_compareRound_50 ?_
    refine lv_iload_n hx hb dX4_compareRound_53 rfl (lv_at hl 5 rfl) ?_
    refine lv_iload hx hb dX4_compareRound_54 (lv_at hl 3 rfl) ?_
    refine lv_iload hx hb dX4_compareRound_56 (lv_at hl 2 rfl) ?_
    refine cp_i (va_runV (As := [.int p1, .int y1, .int y2]) (rest := []) ⟨hx, hb, hml, hown, hts⟩ (c_X2_turn l dC dI a cI cJ xs ys pl kp lp lq lr v0 v1 v2 v3 v4 v5 v6 v7 v8 v9 v10 p1 y1 y2 (by first | with_reducible assumption | exact in0_24 | exact in0_60 | decide) (by first | with_reducible assumption | exact in0_24 | exact in0_60 | decide) (by first | with_reducible assumption | exact in0_24 | exact in0_60 | decide)) (cwV 3 hts (gG_V mG_20_19 mG_11_7 mG_11_8 mG_1_16 (gG_c mG_11_9 gG_G)) rfl rfl rfl hd_X2_turn ⟨Nat.le_of_ble_eq_true rfl, Nat.le_of_ble_eq_true rfl⟩) (pPcV (ci := 6) (q0 := 1) hK hP rfl rfl) rfl rfl hl.1 rfl (lv_room (Nat.le_of_ble_eq_true rfl)) dX4_compareRound_58 ⟨Nat.le_of_ble_eq_true rfl, Nat.le_of_ble_eq_true rfl⟩) hP hS (fun H hP hS => ?_)
    refine lv_topi (fun y6 ey6 => ?_)
    refine lv_istore (lv' := [(8, .int y6), (7, .int y4), (6, .int y3), (5, .int y2), (4, .int y1), (0, .ref (a 6)), (1, .int p1), (2, .int p2), (3, .int p3)]) hx hb dX4_compareRound_61 hl (by decide) rfl (fun ls hl => ?_)
    refine lv_iload hx hb dX4_compareRound_63 (lv_at hl 0 rfl) ?_
    refine lv_if_eq (tgt := 72) hx hb dX4_compareRound_65 (by decide) (fun c7 => ?_) (fun c7 => ?_)
    · skip
      refine lv_aload_n hx hb dX4_compareRound_72 rfl (lv_at hl 5 rfl) ?_
      refine va_get (D := (dC, dI)) (ci := 8) (v := .ref (a 1)) (C := RX4) (T := TX4) (N := 3) hx hb hts (fun _ h => gI_wsX40 h) hown hK.1 hP 6 rfl rfl 0 (by decide) (hts _ mG_3_13) (fun _ h9 => h9) rfl dX4_compareRound_73 ?_
      refine lv_iload_n hx hb dX4_compareRound_76 rfl (lv_at hl 6 rfl) ?_
      refine lv_iload hx hb dX4_compareRound_77 (lv_at hl 4 rfl) ?_
      refine cp_l (va_runV (As := [.int p1, .int y1]) (rest := []) ⟨hx, hb, hml, hown, hts⟩ (c_X2_distance l dC dI a cI cJ xs ys pl kp lp lq lr v0 v1 v2 v3 v4 v5 v6 v7 v8 v9 v10 p1 y1 (by first | with_reducible assumption | exact in0_24 | exact in0_60 | decide) (by first | with_reducible assumption | exact in0_24 | exact in0_60 | decide)) (cwV 2 hts (gG_V mG_23_14 mG_23_15 mG_23_16 mG_1_16 (gG_c mG_23_17 gG_G)) rfl rfl rfl hd_X2_distance ⟨Nat.le_of_ble_eq_true rfl, Nat.le_of_ble_eq_true rfl⟩) (pPcV (ci := 6) (q0 := 1) hK hP rfl rfl) rfl rfl hl.1 rfl (lv_room (Nat.le_of_ble_eq_true rfl)) dX4_compareRound_79 ⟨Nat.le_of_ble_eq_true rfl, Nat.le_of_ble_eq_true rfl⟩) hP hS (fun H hP hS => ?_)
      refine lv_aload_n hx hb dX4_compareRound_82 rfl (lv_at hl 5 rfl) ?_
      refine va_get (D := (dC, dI)) (ci := 8) (v := .ref (a 1)) (C := RX4) (T := TX4) (N := 3) hx hb hts (fun _ h => gI_wsX40 h) hown hK.1 hP 6 rfl rfl 0 (by decide) (hts _ mG_3_13) (fun _ h9 => h9) rfl dX4_compareRound_83 ?_
      refine lv_iload_n hx hb dX4_compareRound_86 rfl (lv_at hl 6 rfl) ?_
      refine lv_iload hx hb dX4_compareRound_87 (lv_at hl 3 rfl) ?_
      refine cp_l (va_runV (As := [.int p1, .int y2]) (rest := [.long (f_X2_distance xs ys p1 y1)]) ⟨hx, hb, hml, hown, hts⟩ (c_X2_distance l dC dI a cI cJ xs ys pl kp lp lq lr v0 v1 v2 v3 v4 v5 v6 v7 v8 v9 v10 p1 y2 (by first | with_reducible assumption | exact in0_24 | exact in0_60 | decide) (by first | with_reducible assumption | exact in0_24 | exact in0_60 | decide)) (cwV 2 hts (gG_V mG_23_14 mG_23_15 mG_23_16 mG_1_16 (gG_c mG_23_17 gG_G)) rfl rfl rfl hd_X2_distance ⟨Nat.le_of_ble_eq_true rfl, Nat.le_of_ble_eq_true rfl⟩) (pPcV (ci := 6) (q0 := 1) hK hP rfl rfl) rfl rfl hl.1 rfl (lv_room (Nat.le_of_ble_eq_true rfl)) dX4_compareRound_89 ⟨Nat.le_of_ble_eq_true rfl, Nat.le_of_ble_eq_true rfl⟩) hP hS (fun H hP hS => ?_)
      refine cp_i (va_runS (As := [.long (f_X2_distance xs ys p1 y1), .long (f_X2_distance xs ys p1 y2)]) (rest := []) ⟨hx, hb, hml, hown, hts⟩ (c_J13_compare_74951 l (f_X2_distance xs ys p1 y1) (f_X2_distance xs ys p1 y2) ) (va_cwS 2 hts (gG_S mG_25_0 mG_11_13 mG_11_14 (gG_c mG_11_15 gG_G)) rfl rfl rfl hs_J13_compare_74951 ⟨Nat.le_of_ble_eq_true rfl, Nat.le_of_ble_eq_true rfl⟩) nPcS rfl rfl hl.1 rfl (lv_room (Nat.le_of_ble_eq_true rfl)) dX4_compareRound_92 ⟨Nat.le_of_ble_eq_true rfl, Nat.le_of_ble_eq_true rfl⟩) hP hS (fun H hP hS => ?_)
      refine lv_topi (fun y8 ey8 => ?_)
      refine lv_istore (lv' := [(9, .int y8), (8, .int y6), (7, .int y4), (6, .int y3), (5, .int y2), (4, .int y1), (0, .ref (a 6)), (1, .int p1), (2, .int p2), (3, .int p3)]) hx hb dX4_compareRound_95 hl (by decide) rfl (fun ls hl => ?_)
      refine lv_iload hx hb dX4_compareRound_97 (lv_at hl 0 rfl) ?_
      refine lv_if_eq (tgt := 107) hx hb dX4_compareRound_99 (by decide) (fun c9 => ?_) (fun c9 => ?_)
      · skip
        refine lv_iload_n hx hb dX4_compareRound_107 rfl (lv_at hl 8 rfl) ?_
        refine lv_iload_n hx hb dX4_compareRound_108 rfl (lv_at hl 9 rfl) ?_
        refine cp_i (va_runS (As := [.int p2, .int p3]) (rest := []) ⟨hx, hb, hml, hown, hts⟩ (c_J6_compare_7cf53 l p2 p3 ) (va_cwS 2 hts (gG_S mG_24_23 mG_10_1 mG_10_2 (gG_c mG_10_3 gG_G)) rfl rfl rfl hs_J6_compare_7cf53 ⟨Nat.le_of_ble_eq_true rfl, Nat.le_of_ble_eq_true rfl⟩) nPcS rfl rfl hl.1 rfl (lv_room (Nat.le_of_ble_eq_true rfl)) dX4_compareRound_109 ⟨Nat.le_of_ble_eq_true rfl, Nat.le_of_ble_eq_true rfl⟩) hP hS (fun H hP hS => ?_)
        exact rp_i hQ hx hb hr hlk hS (Eq.symm (by subst ey1; subst ey2; subst ey3; subst ey4; subst ey6; subst ey8; simp only [f_X4_compareRound, if_pos c5, if_pos c7, if_pos c9])) dX4_compareRound_112
      · skip
        refine lv_iload hx hb dX4_compareRound_102 (lv_at hl 0 rfl) ?_
        refine lv_goto (tgt := 112) hx hb dX4_compareRound_104 (by decide) ?_
        exact rp_i hQ hx hb hr hlk hS (Eq.symm (by subst ey1; subst ey2; subst ey3; subst ey4; subst ey6; subst ey8; simp only [f_X4_compareRound, if_pos c5, if_pos c7, if_neg c9])) dX4_compareRound_112
    · skip
      refine lv_iload hx hb dX4_compareRound_68 (lv_at hl 0 rfl) ?_
      refine lv_ineg hx hb dX4_compareRound_70 ?_
      exact rp_i hQ hx hb hr hlk hS (Eq.symm (by subst ey1; subst ey2; subst ey3; subst ey4; subst ey6; simp only [f_X4_compareRound, if_pos c5, if_neg c7])) dX4_compareRound_71
  · skip
    refine lv_iload hx hb dX4_compareRound_41 (lv_at hl 1 rfl) ?_
    refine lv_iload hx hb dX4_compareRound_43 (lv_at hl 0 rfl) ?_
    refine cp_i (va_runS (As := [.int y3, .int y4]) (rest := []) ⟨hx, hb, hml, hown, hts⟩ (c_J6_compare_7cf53 l y3 y4 ) (va_cwS 2 hts (gG_S mG_24_23 mG_10_1 mG_10_2 (gG_c mG_10_3 gG_G)) rfl rfl rfl hs_J6_compare_7cf53 ⟨Nat.le_of_ble_eq_true rfl, Nat.le_of_ble_eq_true rfl⟩) nPcS rfl rfl hl.1 rfl (lv_room (Nat.le_of_ble_eq_true rfl)) dX4_compareRound_45 ⟨Nat.le_of_ble_eq_true rfl, Nat.le_of_ble_eq_true rfl⟩) hP hS (fun H hP hS => ?_)
    exact rp_i hQ hx hb hr hlk hS (Eq.symm (by subst ey1; subst ey2; subst ey3; subst ey4; simp only [f_X4_compareRound, if_neg c5])) dX4_compareRound_48
/-! X4_aheadRound -/
theorem hs_X4_aheadRound : yX4_aheadRound.cls ≠ "java/lang/invoke/MethodHandle" ∧ yX4_aheadRound.cls ≠ "java/lang/invoke/VarHandle" ∧ (parseMethodDescriptor yX4_aheadRound.desc).map (fun d => d.parameters.length) = some 3 := by decide +kernel
theorem hd_X4_aheadRound : yX4_aheadRound.cls = RX4 ∧ yX4_aheadRound.cls ≠ "java/lang/invoke/MethodHandle" ∧ yX4_aheadRound.cls ≠ "java/lang/invoke/VarHandle" ∧ (parseMethodDescriptor yX4_aheadRound.desc).map (fun d => d.parameters.length) = some 3 := ⟨rfl, hs_X4_aheadRound⟩
def f_X4_aheadRound_L6 (xs : Nat → Int32) (ys : Nat → Int32) (pl : Nat → Int32) (p1 : Int32) (p2 : Int32) (p3 : Int32)  : Nat → Int32 → Int32 → Int32
  | 0, _, _ => 0
  | n + 1, x4_6, x5_6 => (if p2 ≤ x5_6 then x4_6 else (if 0 ≤ (f_X4_compareRound xs ys pl p1 x5_6 p3) then (f_X4_aheadRound_L6 xs ys pl p1 p2 p3  n x4_6 (x5_6 + 1)) else (f_X4_aheadRound_L6 xs ys pl p1 p2 p3  n (x4_6 + 1) (x5_6 + 1))))
def f_X4_aheadRound (xs : Nat → Int32) (ys : Nat → Int32) (pl : Nat → Int32) (p1 : Int32) (p2 : Int32) (p3 : Int32) : Int32 := (f_X4_aheadRound_L6 xs ys pl p1 p2 p3  25 (0 : Int32) (0 : Int32))
abbrev rm_X4_aheadRound : Room := { frames := 4, cells := 0, slots := 0, locals := 100 }
set_option maxHeartbeats 8000000 in
set_option maxRecDepth 100000 in
theorem c_X4_aheadRound (l : Launch) (dC : Nat → ClassId) (dI : Nat → Nat → Nat) (a : Nat → Nat) (cI cJ : ClassId) (xs : Nat → Int32) (ys : Nat → Int32) (pl : Nat → Int32) (kp : Nat → Int32) (lp : Nat → Int64) (lq : Nat → Int64) (lr : Nat → Int64) (v0 : Int32) (v1 : Int32) (v2 : Int32) (v3 : Int32) (v4 : Int32) (v5 : Int32) (v6 : Int32) (v7 : Int32) (v8 : Int32) (v9 : Int32) (v10 : Int32) (p1 : Int32) (p2 : Int32) (p3 : Int32) (hc : vp_in p1 60) (hn : p2 ≤ 24) (hv : ∀ j : Nat, (j : Int) < (p2).toInt → vp_in (pl j) 60) (hk : vp_in p3 24) (hvk : vp_in (pl (Int32.toNatClampNeg p3)) 60) : Met l yX4_aheadRound (Cond.code yX4_aheadRound cX4_aheadRound 6 (some .int) :: lw_G) rm_X4_aheadRound (pPc (dC, dI) (tIJ cI cJ) (wC a cI cJ xs ys pl kp lp lq lr v0 v1 v2 v3 v4 v5 v6 v7 v8 v9 v10) [.ref (a 6), .int p1, .int p2, .int p3]) (pQi (f_X4_aheadRound xs ys pl p1 p2 p3)) 0 0 pNo := by
  refine pm_of (by decide) (Nat.le_of_ble_eq_true rfl) ?_
  intro p e s m args below meth c Q ls hQ hx hb hr hlk hml hown hts hP hK hS hl
  have hown : s.vm.findClass RX4 = some m.cls := hown
  have hl : lv_has ls 6 [(0, .ref (a 6)), (1, .int p1), (2, .int p2), (3, .int p3)] := hl
  obtain ⟨F, eF⟩ : ∃ F, F = (f_X4_aheadRound xs ys pl p1 p2 p3) := ⟨_, rfl⟩
  refine lv_iconst (v := (0 : Int32)) hx hb dX4_aheadRound_0 (by decide) ?_
  refine lv_istore (lv' := [(4, .int (0 : Int32)), (0, .ref (a 6)), (1, .int p1), (2, .int p2), (3, .int p3)]) hx hb dX4_aheadRound_1 hl (by decide) rfl (fun ls hl => ?_)
  refine lv_iconst (v := (0 : Int32)) hx hb dX4_aheadRound_3 (by decide) ?_
  refine lv_istore (lv' := [(5, .int (0 : Int32)), (4, .int (0 : Int32)), (0, .ref (a 6)), (1, .int p1), (2, .int p2), (3, .int p3)]) hx hb dX4_aheadRound_4 hl (by decide) rfl (fun ls hl => ?_)
  have K6 : ∀ (n6 : Nat) (x4_6 : Int32) (x5_6 : Int32), 0 ≤ x5_6 → ((p2).toInt - x5_6.toInt).toNat < n6 → F = f_X4_aheadRound_L6 xs ys pl p1 p2 p3  n6 x4_6 x5_6 → ∀ (H : Heap) (locs : List Loc), va_P (dC, dI) vwCl (wC a cI cJ xs ys pl kp lp lq lr v0 v1 v2 v3 v4 v5 v6 v7 v8 v9 v10) H → va_S pNo s.heap H locs → ∀ (ls : Array Slot), lv_has ls 6 [(0, .ref (a 6)), (1, .int p1), (2, .int p2), (3, .int p3), (4, .int x4_6), (5, .int x5_6)] → W p l e rm_X4_aheadRound s m args below meth c H locs 0 0 Q (F0 m 6 ls []) := by
    intro n6
    induction n6 with
    | zero => intro x4_6 x5_6 h0_6 hf_6 hF H locs hP hS ls hl; exact absurd hf_6 (Nat.not_lt_zero _)
    | succ n6 ih6 =>
      intro x4_6 x5_6 h0_6 hf_6 hF H locs hP hS ls hl
      refine lv_iload hx hb dX4_aheadRound_6 (lv_at hl 5 rfl) ?_
      refine lv_iload_n hx hb dX4_aheadRound_8 rfl (lv_at hl 2 rfl) ?_
      refine lv_icmp_ge (tgt := 32) hx hb dX4_aheadRound_9 (by decide) (fun c1 => ?_) (fun c1 => ?_)
      · skip
        refine lv_iload hx hb dX4_aheadRound_32 (lv_at hl 4 rfl) ?_
        exact rp_i hQ hx hb hr hlk hS (Eq.symm (eF.symm.trans (by rw [hF]; simp only [f_X4_aheadRound_L6, if_pos c1]))) dX4_aheadRound_34
      · skip
        have hI : vp_in x5_6 24 := ix_lt h0_6 c1 hn
        have hv1 := hv_at hv h0_6 c1
        refine lv_aload_n hx hb dX4_aheadRound_12 rfl (lv_at hl 0 rfl) ?_
        refine lv_iload_n hx hb dX4_aheadRound_13 rfl (lv_at hl 1 rfl) ?_
        refine lv_iload hx hb dX4_aheadRound_14 (lv_at hl 5 rfl) ?_
        refine lv_iload_n hx hb dX4_aheadRound_16 rfl (lv_at hl 3 rfl) ?_
        refine cp_i (va_runV (As := [.int p1, .int x5_6, .int p3]) (rest := []) ⟨hx, hb, hml, hown, hts⟩ (c_X4_compareRound l dC dI a cI cJ xs ys pl kp lp lq lr v0 v1 v2 v3 v4 v5 v6 v7 v8 v9 v10 p1 x5_6 p3 (by first | with_reducible assumption | exact in0_24 | exact in0_60 | decide) (by first | with_reducible assumption | exact in0_24 | exact in0_60 | decide) (by first | with_reducible assumption | exact in0_24 | exact in0_60 | decide) (by first | with_reducible assumption | exact in0_24 | exact in0_60 | decide) (by first | with_reducible assumption | exact in0_24 | exact in0_60 | decide)) (cwV 3 hts (gG_V mG_24_14 mG_24_15 mG_24_16 mG_2_4 (gG_c mG_24_17 gG_G)) rfl rfl rfl hd_X4_compareRound ⟨Nat.le_of_ble_eq_true rfl, Nat.le_of_ble_eq_true rfl⟩) (pPcV (ci := 8) (q0 := 6) hK hP rfl rfl) rfl rfl hl.1 rfl (lv_room (Nat.le_of_ble_eq_true rfl)) dX4_aheadRound_17 ⟨Nat.le_of_ble_eq_true rfl, Nat.le_of_ble_eq_true rfl⟩) hP hS (fun H hP hS => ?_)
        refine lv_if_ge (tgt := 26) hx hb dX4_aheadRound_20 (by decide) (fun c2 => ?_) (fun c2 => ?_)
        · skip
          refine lv_iinc (v := (x5_6 + 1)) (lv' := [(5, .int (x5_6 + 1)), (0, .ref (a 6)), (1, .int p1), (2, .int p2), (3, .int p3), (4, .int x4_6)]) hx hb dX4_aheadRound_26 hl (k := 5) rfl rfl (by decide) rfl (fun ls hl => ?_)
          refine lv_goto (tgt := 6) hx hb dX4_aheadRound_29 (by decide) ?_
          exact ih6 x4_6 (x5_6 + 1) (lp_pos h0_6 c1) (lp_dec c1 hf_6) (by rw [hF]; simp only [f_X4_aheadRound_L6, if_neg c1, if_pos c2]) _ _ hP hS ls (lv_sub hl [1, 2, 3, 4, 5, 0] rfl)
        · skip
          refine lv_iinc (v := (x4_6 + 1)) (lv' := [(4, .int (x4_6 + 1)), (0, .ref (a 6)), (1, .int p1), (2, .int p2), (3, .int p3), (5, .int x5_6)]) hx hb dX4_aheadRound_23 hl (k := 4) rfl rfl (by decide) rfl (fun ls hl => ?_)
          refine lv_iinc (v := (x5_6 + 1)) (lv' := [(5, .int (x5_6 + 1)), (4, .int (x4_6 + 1)), (0, .ref (a 6)), (1, .int p1), (2, .int p2), (3, .int p3)]) hx hb dX4_aheadRound_26 hl (k := 5) rfl rfl (by decide) rfl (fun ls hl => ?_)
          refine lv_goto (tgt := 6) hx hb dX4_aheadRound_29 (by decide) ?_
          exact ih6 (x4_6 + 1) (x5_6 + 1) (lp_pos h0_6 c1) (lp_dec c1 hf_6) (by rw [hF]; simp only [f_X4_aheadRound_L6, if_neg c1, if_neg c2]) _ _ hP hS ls (lv_sub hl [2, 3, 4, 5, 1, 0] rfl)
  exact K6 25 (0 : Int32) (0 : Int32) (by decide) (lp_fuel (by decide) hn) (by rw [eF]; simp only [f_X4_aheadRound]) _ _ hP hS ls (lv_sub hl [2, 3, 4, 5, 1, 0] rfl)
/-! X4_placeRound -/
theorem hs_X4_placeRound : yX4_placeRound.cls ≠ "java/lang/invoke/MethodHandle" ∧ yX4_placeRound.cls ≠ "java/lang/invoke/VarHandle" ∧ (parseMethodDescriptor yX4_placeRound.desc).map (fun d => d.parameters.length) = some 3 := by decide +kernel
theorem hd_X4_placeRound : yX4_placeRound.cls = RX4 ∧ yX4_placeRound.cls ≠ "java/lang/invoke/MethodHandle" ∧ yX4_placeRound.cls ≠ "java/lang/invoke/VarHandle" ∧ (parseMethodDescriptor yX4_placeRound.desc).map (fun d => d.parameters.length) = some 3 := ⟨rfl, hs_X4_placeRound⟩
def f_X4_placeRound_L3 (xs : Nat → Int32) (ys : Nat → Int32) (pl : Nat → Int32) (p1 : Int32) (p2 : Int32) (p3 : Int32)  : Nat → Int32 → Int32
  | 0, _ => 0
  | n + 1, x4_3 => (if p2 ≤ x4_3 then (-2 : Int32) else (if (f_X4_aheadRound xs ys pl p1 p2 x4_3) = p3 then x4_3 else (f_X4_placeRound_L3 xs ys pl p1 p2 p3  n (x4_3 + 1))))
def f_X4_placeRound (xs : Nat → Int32) (ys : Nat → Int32) (pl : Nat → Int32) (p1 : Int32) (p2 : Int32) (p3 : Int32) : Int32 := (f_X4_placeRound_L3 xs ys pl p1 p2 p3  25 (0 : Int32))
abbrev rm_X4_placeRound : Room := { frames := 5, cells := 0, slots := 0, locals := 125 }
set_option maxHeartbeats 8000000 in
set_option maxRecDepth 100000 in
theorem c_X4_placeRound (l : Launch) (dC : Nat → ClassId) (dI : Nat → Nat → Nat) (a : Nat → Nat) (cI cJ : ClassId) (xs : Nat → Int32) (ys : Nat → Int32) (pl : Nat → Int32) (kp : Nat → Int32) (lp : Nat → Int64) (lq : Nat → Int64) (lr : Nat → Int64) (v0 : Int32) (v1 : Int32) (v2 : Int32) (v3 : Int32) (v4 : Int32) (v5 : Int32) (v6 : Int32) (v7 : Int32) (v8 : Int32) (v9 : Int32) (v10 : Int32) (p1 : Int32) (p2 : Int32) (p3 : Int32) (hc : vp_in p1 60) (hn : p2 ≤ 24) (hv : ∀ j : Nat, (j : Int) < (p2).toInt → vp_in (pl j) 60) : Met l yX4_placeRound (Cond.code yX4_placeRound cX4_placeRound 5 (some .int) :: lw_G) rm_X4_placeRound (pPc (dC, dI) (tIJ cI cJ) (wC a cI cJ xs ys pl kp lp lq lr v0 v1 v2 v3 v4 v5 v6 v7 v8 v9 v10) [.ref (a 6), .int p1, .int p2, .int p3]) (pQi (f_X4_placeRound xs ys pl p1 p2 p3)) 0 0 pNo := by
  refine pm_of (by decide) (Nat.le_of_ble_eq_true rfl) ?_
  intro p e s m args below meth c Q ls hQ hx hb hr hlk hml hown hts hP hK hS hl
  have hown : s.vm.findClass RX4 = some m.cls := hown
  have hl : lv_has ls 5 [(0, .ref (a 6)), (1, .int p1), (2, .int p2), (3, .int p3)] := hl
  obtain ⟨F, eF⟩ : ∃ F, F = (f_X4_placeRound xs ys pl p1 p2 p3) := ⟨_, rfl⟩
  refine lv_iconst (v := (0 : Int32)) hx hb dX4_placeRound_0 (by decide) ?_
  refine lv_istore (lv' := [(4, .int (0 : Int32)), (0, .ref (a 6)), (1, .int p1), (2, .int p2), (3, .int p3)]) hx hb dX4_placeRound_1 hl (by decide) rfl (fun ls hl => ?_)
  have K3 : ∀ (n3 : Nat) (x4_3 : Int32), 0 ≤ x4_3 → ((p2).toInt - x4_3.toInt).toNat < n3 → F = f_X4_placeRound_L3 xs ys pl p1 p2 p3  n3 x4_3 → ∀ (H : Heap) (locs : List Loc), va_P (dC, dI) vwCl (wC a cI cJ xs ys pl kp lp lq lr v0 v1 v2 v3 v4 v5 v6 v7 v8 v9 v10) H → va_S pNo s.heap H locs → ∀ (ls : Array Slot), lv_has ls 5 [(0, .ref (a 6)), (1, .int p1), (2, .int p2), (3, .int p3), (4, .int x4_3)] → W p l e rm_X4_placeRound s m args below meth c H locs 0 0 Q (F0 m 3 ls []) := by
    intro n3
    induction n3 with
    | zero => intro x4_3 h0_3 hf_3 hF H locs hP hS ls hl; exact absurd hf_3 (Nat.not_lt_zero _)
    | succ n3 ih3 =>
      intro x4_3 h0_3 hf_3 hF H locs hP hS ls hl
      refine lv_iload hx hb dX4_placeRound_3 (lv_at hl 4 rfl) ?_
      refine lv_iload_n hx hb dX4_placeRound_5 rfl (lv_at hl 2 rfl) ?_
      refine lv_icmp_ge (tgt := 30) hx hb dX4_placeRound_6 (by decide) (fun c1 => ?_) (fun c1 => ?_)
      · skip
        refine lv_bipush (v := (-2 : Int32)) hx hb dX4_placeRound_30 (by decide) ?_
        exact rp_i hQ hx hb hr hlk hS (Eq.symm (eF.symm.trans (by rw [hF]; simp only [f_X4_placeRound_L3, if_pos c1]))) dX4_placeRound_32
      · skip
        have hI : vp_in x4_3 24 := ix_lt h0_3 c1 hn
        have hv1 := hv_at hv h0_3 c1
        refine lv_aload_n hx hb dX4_placeRound_9 rfl (lv_at hl 0 rfl) ?_
        refine lv_iload_n hx hb dX4_placeRound_10 rfl (lv_at hl 1 rfl) ?_
        refine lv_iload_n hx hb dX4_placeRound_11 rfl (lv_at hl 2 rfl) ?_
        refine lv_iload hx hb dX4_placeRound_12 (lv_at hl 4 rfl) ?_
        refine cp_i (va_runV (As := [.int p1, .int p2, .int x4_3]) (rest := []) ⟨hx, hb, hml, hown, hts⟩ (c_X4_aheadRound l dC dI a cI cJ xs ys pl kp lp lq lr v0 v1 v2 v3 v4 v5 v6 v7 v8 v9 v10 p1 p2 x4_3 (by first | with_reducible assumption | exact in0_24 | exact in0_60 | decide) (by first | with_reducible assumption | exact in0_24 | exact in0_60 | decide) (by first | with_reducible assumption | exact in0_24 | exact in0_60 | decide) (by first | with_reducible assumption | exact in0_24 | exact in0_60 | decide) (by first | with_reducible assumption | exact in0_24 | exact in0_60 | decide)) (cwV 3 hts (gG_V mG_24_10 mG_24_11 mG_24_12 mG_2_4 (gG_c mG_24_13 gG_G)) rfl rfl rfl hd_X4_aheadRound ⟨Nat.le_of_ble_eq_true rfl, Nat.le_of_ble_eq_true rfl⟩) (pPcV (ci := 8) (q0 := 6) hK hP rfl rfl) rfl rfl hl.1 rfl (lv_room (Nat.le_of_ble_eq_true rfl)) dX4_placeRound_14 ⟨Nat.le_of_ble_eq_true rfl, Nat.le_of_ble_eq_true rfl⟩) hP hS (fun H hP hS => ?_)
        refine lv_iload_n hx hb dX4_placeRound_17 rfl (lv_at hl 3 rfl) ?_
        refine lv_icmp_ne (tgt := 24) hx hb dX4_placeRound_18 (by decide) (fun c2 => ?_) (fun c2 => ?_)
        · skip
          refine lv_iinc (v := (x4_3 + 1)) (lv' := [(4, .int (x4_3 + 1)), (0, .ref (a 6)), (1, .int p1), (2, .int p2), (3, .int p3)]) hx hb dX4_placeRound_24 hl (k := 4) rfl rfl (by decide) rfl (fun ls hl => ?_)
          refine lv_goto (tgt := 3) hx hb dX4_placeRound_27 (by decide) ?_
          exact ih3 (x4_3 + 1) (lp_pos h0_3 c1) (lp_dec c1 hf_3) (by rw [hF]; simp only [f_X4_placeRound_L3, if_neg c1, if_neg c2]) _ _ hP hS ls (lv_sub hl [1, 2, 3, 4, 0] rfl)
        · skip
          refine lv_iload hx hb dX4_placeRound_21 (lv_at hl 4 rfl) ?_
          exact rp_i hQ hx hb hr hlk hS (Eq.symm (eF.symm.trans (by rw [hF]; simp only [f_X4_placeRound_L3, if_neg c1, if_pos c2]))) dX4_placeRound_23
  exact K3 25 (0 : Int32) (by decide) (lp_fuel (by decide) hn) (by rw [eF]; simp only [f_X4_placeRound]) _ _ hP hS ls (lv_sub hl [1, 2, 3, 4, 0] rfl)
/-! X4_compareAlong -/
theorem hs_X4_compareAlong : yX4_compareAlong.cls ≠ "java/lang/invoke/MethodHandle" ∧ yX4_compareAlong.cls ≠ "java/lang/invoke/VarHandle" ∧ (parseMethodDescriptor yX4_compareAlong.desc).map (fun d => d.parameters.length) = some 2 := by decide +kernel
theorem hd_X4_compareAlong : yX4_compareAlong.cls = RX4 ∧ yX4_compareAlong.cls ≠ "java/lang/invoke/MethodHandle" ∧ yX4_compareAlong.cls ≠ "java/lang/invoke/VarHandle" ∧ (parseMethodDescriptor yX4_compareAlong.desc).map (fun d => d.parameters.length) = some 2 := ⟨rfl, hs_X4_compareAlong⟩
def f_X4_compareAlong (xs : Nat → Int32) (ys : Nat → Int32) (pl : Nat → Int32) (p1 : Int32) (p2 : Int32) : Int32 := (if (f_X2_compare xs ys (pl (Int32.toNatClampNeg p1)) (pl (Int32.toNatClampNeg p2))) = 0 then (f_J6_compare_7cf53 p1 p2) else (f_X2_compare xs ys (pl (Int32.toNatClampNeg p1)) (pl (Int32.toNatClampNeg p2))))
abbrev rm_X4_compareAlong : Room := { frames := 2, cells := 0, slots := 0, locals := 44 }
set_option maxHeartbeats 8000000 in
set_option maxRecDepth 100000 in
theorem c_X4_compareAlong (l : Launch) (dC : Nat → ClassId) (dI : Nat → Nat → Nat) (a : Nat → Nat) (cI cJ : ClassId) (xs : Nat → Int32) (ys : Nat → Int32) (pl : Nat → Int32) (kp : Nat → Int32) (lp : Nat → Int64) (lq : Nat → Int64) (lr : Nat → Int64) (v0 : Int32) (v1 : Int32) (v2 : Int32) (v3 : Int32) (v4 : Int32) (v5 : Int32) (v6 : Int32) (v7 : Int32) (v8 : Int32) (v9 : Int32) (v10 : Int32) (p1 : Int32) (p2 : Int32) (hj : vp_in p1 24) (hk : vp_in p2 24) (hvj : vp_in (pl (Int32.toNatClampNeg p1)) 60) (hvk : vp_in (pl (Int32.toNatClampNeg p2)) 60) : Met l yX4_compareAlong (Cond.code yX4_compareAlong cX4_compareAlong 4 (some .int) :: lw_G) rm_X4_compareAlong (pPc (dC, dI) (tIJ cI cJ) (wC a cI cJ xs ys pl kp lp lq lr v0 v1 v2 v3 v4 v5 v6 v7 v8 v9 v10) [.ref (a 6), .int p1, .int p2]) (pQi (f_X4_compareAlong xs ys pl p1 p2)) 0 0 pNo := by
  refine pm_of (by decide) (Nat.le_of_ble_eq_true rfl) ?_
  intro p e s m args below meth c Q ls hQ hx hb hr hlk hml hown hts hP hK hS hl
  have hown : s.vm.findClass RX4 = some m.cls := hown
  have hl : lv_has ls 4 [(0, .ref (a 6)), (1, .int p1), (2, .int p2)] := hl
  refine lv_aload_n hx hb dX4_compareAlong_0 rfl (lv_at hl 0 rfl) ?_
  refine va_get (D := (dC, dI)) (ci := 8) (v := .ref (a 1)) (C := RX4) (T := TX4) (N := 3) hx hb hts (fun _ h => gI_wsX40 h) hown hK.1 hP 6 rfl rfl 0 (by decide) (hts _ mG_3_13) (fun _ h9 => h9) rfl dX4_compareAlong_1 ?_
  refine lv_aload_n hx hb dX4_compareAlong_4 rfl (lv_at hl 0 rfl) ?_
  refine va_get (D := (dC, dI)) (ci := 8) (v := .ref (a 7)) (C := RX4) (T := TX4) (N := 3) hx hb hts (fun _ h => gI_wsX40 h) hown hK.1 hP 6 rfl rfl 1 (by decide) (hts _ mG_3_11) (fun _ h9 => h9) rfl dX4_compareAlong_5 ?_
  refine lv_iload_n hx hb dX4_compareAlong_8 rfl (lv_at hl 1 rfl) ?_
  refine va_iald hx hb hK.1 hP 7 0 rfl rfl (by first | with_reducible assumption | exact in0_24 | exact in0_60 | decide) dX4_compareAlong_9 ?_
  refine lv_aload_n hx hb dX4_compareAlong_10 rfl (lv_at hl 0 rfl) ?_
  refine va_get (D := (dC, dI)) (ci := 8) (v := .ref (a 7)) (C := RX4) (T := TX4) (N := 3) hx hb hts (fun _ h => gI_wsX40 h) hown hK.1 hP 6 rfl rfl 1 (by decide) (hts _ mG_3_11) (fun _ h9 => h9) rfl dX4_compareAlong_11 ?_
  refine lv_iload_n hx hb dX4_compareAlong_14 rfl (lv_at hl 2 rfl) ?_
  refine va_iald hx hb hK.1 hP 7 0 rfl rfl (by first | with_reducible assumption | exact in0_24 | exact in0_60 | decide) dX4_compareAlong_15 ?_
  refine cp_i (va_runV (As := [.int (pl (Int32.toNatClampNeg p1)), .int (pl (Int32.toNatClampNeg p2))]) (rest := []) ⟨hx, hb, hml, hown, hts⟩ (c_X2_compare l dC dI a cI cJ xs ys pl kp lp lq lr v0 v1 v2 v3 v4 v5 v6 v7 v8 v9 v10 (pl (Int32.toNatClampNeg p1)) (pl (Int32.toNatClampNeg p2)) (by first | with_reducible assumption | exact in0_24 | exact in0_60 | decide) (by first | with_reducible assumption | exact in0_24 | exact in0_60 | decide)) (cwV 2 hts (gG_V mG_26_5 mG_9_21 mG_9_22 mG_1_16 (gG_c mG_9_23 gG_G)) rfl rfl rfl hd_X2_compare ⟨Nat.le_of_ble_eq_true rfl, Nat.le_of_ble_eq_true rfl⟩) (pPcV (ci := 6) (q0 := 1) hK hP rfl rfl) rfl rfl hl.1 rfl (lv_room (Nat.le_of_ble_eq_true rfl)) dX4_compareAlong_16 ⟨Nat.le_of_ble_eq_true rfl, Nat.le_of_ble_eq_true rfl⟩) hP hS (fun H hP hS => ?_)
  refine lv_topi (fun y1 ey1 => ?_)
  refine lv_istore_n (lv' := [(3, .int y1), (0, .ref (a 6)), (1, .int p1), (2, .int p2)]) hx hb dX4_compareAlong_19 rfl hl (by decide) rfl (fun ls hl => ?_)
  refine lv_iload_n hx hb dX4_compareAlong_20 rfl (lv_at hl 0 rfl) ?_
  refine lv_if_eq (tgt := 28) hx hb dX4_compareAlong_21 (by decide) (fun c2 => ?_) (fun c2 => ?_)
  · skip
    refine lv_iload_n hx hb dX4_compareAlong_28 rfl (lv_at hl 2 rfl) ?_
    refine lv_iload_n hx hb dX4_compareAlong_29 rfl (lv_at hl 3 rfl) ?_
    refine cp_i (va_runS (As := [.int p1, .int p2]) (rest := []) ⟨hx, hb, hml, hown, hts⟩ (c_J6_compare_7cf53 l p1 p2 ) (va_cwS 2 hts (gG_S mG_24_23 mG_10_1 mG_10_2 (gG_c mG_10_3 gG_G)) rfl rfl rfl hs_J6_compare_7cf53 ⟨Nat.le_of_ble_eq_true rfl, Nat.le_of_ble_eq_true rfl⟩) nPcS rfl rfl hl.1 rfl (lv_room (Nat.le_of_ble_eq_true rfl)) dX4_compareAlong_30 ⟨Nat.le_of_ble_eq_true rfl, Nat.le_of_ble_eq_true rfl⟩) hP hS (fun H hP hS => ?_)
    exact rp_i hQ hx hb hr hlk hS (Eq.symm (by subst ey1; simp only [f_X4_compareAlong, if_pos c2])) dX4_compareAlong_33
  · skip
    refine lv_iload_n hx hb dX4_compareAlong_24 rfl (lv_at hl 0 rfl) ?_
    refine lv_goto (tgt := 33) hx hb dX4_compareAlong_25 (by decide) ?_
    exact rp_i hQ hx hb hr hlk hS (Eq.symm (by subst ey1; simp only [f_X4_compareAlong, if_neg c2])) dX4_compareAlong_33
/-! X4_aheadAlong -/
theorem hs_X4_aheadAlong : yX4_aheadAlong.cls ≠ "java/lang/invoke/MethodHandle" ∧ yX4_aheadAlong.cls ≠ "java/lang/invoke/VarHandle" ∧ (parseMethodDescriptor yX4_aheadAlong.desc).map (fun d => d.parameters.length) = some 2 := by decide +kernel
theorem hd_X4_aheadAlong : yX4_aheadAlong.cls = RX4 ∧ yX4_aheadAlong.cls ≠ "java/lang/invoke/MethodHandle" ∧ yX4_aheadAlong.cls ≠ "java/lang/invoke/VarHandle" ∧ (parseMethodDescriptor yX4_aheadAlong.desc).map (fun d => d.parameters.length) = some 2 := ⟨rfl, hs_X4_aheadAlong⟩
def f_X4_aheadAlong_L5 (xs : Nat → Int32) (ys : Nat → Int32) (pl : Nat → Int32) (p1 : Int32) (p2 : Int32)  : Nat → Int32 → Int32 → Int32
  | 0, _, _ => 0
  | n + 1, x3_5, x4_5 => (if p1 ≤ x4_5 then x3_5 else (if 0 ≤ (f_X4_compareAlong xs ys pl x4_5 p2) then (f_X4_aheadAlong_L5 xs ys pl p1 p2  n x3_5 (x4_5 + 1)) else (f_X4_aheadAlong_L5 xs ys pl p1 p2  n (x3_5 + 1) (x4_5 + 1))))
def f_X4_aheadAlong (xs : Nat → Int32) (ys : Nat → Int32) (pl : Nat → Int32) (p1 : Int32) (p2 : Int32) : Int32 := (f_X4_aheadAlong_L5 xs ys pl p1 p2  25 (0 : Int32) (0 : Int32))
abbrev rm_X4_aheadAlong : Room := { frames := 3, cells := 0, slots := 0, locals := 67 }
set_option maxHeartbeats 8000000 in
set_option maxRecDepth 100000 in
theorem c_X4_aheadAlong (l : Launch) (dC : Nat → ClassId) (dI : Nat → Nat → Nat) (a : Nat → Nat) (cI cJ : ClassId) (xs : Nat → Int32) (ys : Nat → Int32) (pl : Nat → Int32) (kp : Nat → Int32) (lp : Nat → Int64) (lq : Nat → Int64) (lr : Nat → Int64) (v0 : Int32) (v1 : Int32) (v2 : Int32) (v3 : Int32) (v4 : Int32) (v5 : Int32) (v6 : Int32) (v7 : Int32) (v8 : Int32) (v9 : Int32) (v10 : Int32) (p1 : Int32) (p2 : Int32) (hn : p1 ≤ 24) (hv : ∀ j : Nat, (j : Int) < (p1).toInt → vp_in (pl j) 60) (hk : vp_in p2 24) (hvk : vp_in (pl (Int32.toNatClampNeg p2)) 60) : Met l yX4_aheadAlong (Cond.code yX4_aheadAlong cX4_aheadAlong 5 (some .int) :: lw_G) rm_X4_aheadAlong (pPc (dC, dI) (tIJ cI cJ) (wC a cI cJ xs ys pl kp lp lq lr v0 v1 v2 v3 v4 v5 v6 v7 v8 v9 v10) [.ref (a 6), .int p1, .int p2]) (pQi (f_X4_aheadAlong xs ys pl p1 p2)) 0 0 pNo := by
  refine pm_of (by decide) (Nat.le_of_ble_eq_true rfl) ?_
  intro p e s m args below meth c Q ls hQ hx hb hr hlk hml hown hts hP hK hS hl
  have hown : s.vm.findClass RX4 = some m.cls := hown
  have hl : lv_has ls 5 [(0, .ref (a 6)), (1, .int p1), (2, .int p2)] := hl
  obtain ⟨F, eF⟩ : ∃ F, F = (f_X4_aheadAlong xs ys pl p1 p2) := ⟨_, rfl⟩
  refine lv_iconst (v := (0 : Int32)) hx hb dX4_aheadAlong_0 (by decide) ?_
  refine lv_istore_n (lv' := [(3, .int (0 : Int32)), (0, .ref (a 6)), (1, .int p1), (2, .int p2)]) hx hb dX4_aheadAlong_1 rfl hl (by decide) rfl (fun ls hl => ?_)
  refine lv_iconst (v := (0 : Int32)) hx hb dX4_aheadAlong_2 (by decide) ?_
  refine lv_istore (lv' := [(4, .int (0 : Int32)), (3, .int (0 : Int32)), (0, .ref (a 6)), (1, .int p1), (2, .int p2)]) hx hb dX4_aheadAlong_3 hl (by decide) rfl (fun ls hl => ?_)
  have K5 : ∀ (n5 : Nat) (x3_5 : Int32) (x4_5 : Int32), 0 ≤ x4_5 → ((p1).toInt - x4_5.toInt).toNat < n5 → F = f_X4_aheadAlong_L5 xs ys pl p1 p2  n5 x3_5 x4_5 → ∀ (H : Heap) (locs : List Loc), va_P (dC, dI) vwCl (wC a cI cJ xs ys pl kp lp lq lr v0 v1 v2 v3 v4 v5 v6 v7 v8 v9 v10) H → va_S pNo s.heap H locs → ∀ (ls : Array Slot), lv_has ls 5 [(0, .ref (a 6)), (1, .int p1), (2, .int p2), (3, .int x3_5), (4, .int x4_5)] → W p l e rm_X4_aheadAlong s m args below meth c H locs 0 0 Q (F0 m 5 ls []) := by
    intro n5
    induction n5 with
    | zero => intro x3_5 x4_5 h0_5 hf_5 hF H locs hP hS ls hl; exact absurd hf_5 (Nat.not_lt_zero _)
    | succ n5 ih5 =>
      intro x3_5 x4_5 h0_5 hf_5 hF H locs hP hS ls hl
      refine lv_iload hx hb dX4_aheadAlong_5 (lv_at hl 4 rfl) ?_
      refine lv_iload_n hx hb dX4_aheadAlong_7 rfl (lv_at hl 1 rfl) ?_
      refine lv_icmp_ge (tgt := 30) hx hb dX4_aheadAlong_8 (by decide) (fun c1 => ?_) (fun c1 => ?_)
      · skip
        refine lv_iload_n hx hb dX4_aheadAlong_30 rfl (lv_at hl 3 rfl) ?_
        exact rp_i hQ hx hb hr hlk hS (Eq.symm (eF.symm.trans (by rw [hF]; simp only [f_X4_aheadAlong_L5, if_pos c1]))) dX4_aheadAlong_31
      · skip
        have hI : vp_in x4_5 24 := ix_lt h0_5 c1 hn
        have hv1 := hv_at hv h0_5 c1
        refine lv_aload_n hx hb dX4_aheadAlong_11 rfl (lv_at hl 0 rfl) ?_
        refine lv_iload hx hb dX4_aheadAlong_12 (lv_at hl 4 rfl) ?_
        refine lv_iload_n hx hb dX4_aheadAlong_14 rfl (lv_at hl 2 rfl) ?_
        refine cp_i (va_runV (As := [.int x4_5, .int p2]) (rest := []) ⟨hx, hb, hml, hown, hts⟩ (c_X4_compareAlong l dC dI a cI cJ xs ys pl kp lp lq lr v0 v1 v2 v3 v4 v5 v6 v7 v8 v9 v10 x4_5 p2 (by first | with_reducible assumption | exact in0_24 | exact in0_60 | decide) (by first | with_reducible assumption | exact in0_24 | exact in0_60 | decide) (by first | with_reducible assumption | exact in0_24 | exact in0_60 | decide) (by first | with_reducible assumption | exact in0_24 | exact in0_60 | decide)) (cwV 2 hts (gG_V mG_26_1 mG_26_2 mG_26_3 mG_2_4 (gG_c mG_26_4 gG_G)) rfl rfl rfl hd_X4_compareAlong ⟨Nat.le_of_ble_eq_true rfl, Nat.le_of_ble_eq_true rfl⟩) (pPcV (ci := 8) (q0 := 6) hK hP rfl rfl) rfl rfl hl.1 rfl (lv_room (Nat.le_of_ble_eq_true rfl)) dX4_aheadAlong_15 ⟨Nat.le_of_ble_eq_true rfl, Nat.le_of_ble_eq_true rfl⟩) hP hS (fun H hP hS => ?_)
        refine lv_if_ge (tgt := 24) hx hb dX4_aheadAlong_18 (by decide) (fun c2 => ?_) (fun c2 => ?_)
        · skip
          refine lv_iinc (v := (x4_5 + 1)) (lv' := [(4, .int (x4_5 + 1)), (0, .ref (a 6)), (1, .int p1), (2, .int p2), (3, .int x3_5)]) hx hb dX4_aheadAlong_24 hl (k := 4) rfl rfl (by decide) rfl (fun ls hl => ?_)
          refine lv_goto (tgt := 5) hx hb dX4_aheadAlong_27 (by decide) ?_
          exact ih5 x3_5 (x4_5 + 1) (lp_pos h0_5 c1) (lp_dec c1 hf_5) (by rw [hF]; simp only [f_X4_aheadAlong_L5, if_neg c1, if_pos c2]) _ _ hP hS ls (lv_sub hl [1, 2, 3, 4, 0] rfl)
        · skip
          refine lv_iinc (v := (x3_5 + 1)) (lv' := [(3, .int (x3_5 + 1)), (0, .ref (a 6)), (1, .int p1), (2, .int p2), (4, .int x4_5)]) hx hb dX4_aheadAlong_21 hl (k := 3) rfl rfl (by decide) rfl (fun ls hl => ?_)
          refine lv_iinc (v := (x4_5 + 1)) (lv' := [(4, .int (x4_5 + 1)), (3, .int (x3_5 + 1)), (0, .ref (a 6)), (1, .int p1), (2, .int p2)]) hx hb dX4_aheadAlong_24 hl (k := 4) rfl rfl (by decide) rfl (fun ls hl => ?_)
          refine lv_goto (tgt := 5) hx hb dX4_aheadAlong_27 (by decide) ?_
          exact ih5 (x3_5 + 1) (x4_5 + 1) (lp_pos h0_5 c1) (lp_dec c1 hf_5) (by rw [hF]; simp only [f_X4_aheadAlong_L5, if_neg c1, if_neg c2]) _ _ hP hS ls (lv_sub hl [2, 3, 4, 1, 0] rfl)
  exact K5 25 (0 : Int32) (0 : Int32) (by decide) (lp_fuel (by decide) hn) (by rw [eF]; simp only [f_X4_aheadAlong]) _ _ hP hS ls (lv_sub hl [2, 3, 4, 1, 0] rfl)
/-! X4_placeAlong -/
theorem hs_X4_placeAlong : yX4_placeAlong.cls ≠ "java/lang/invoke/MethodHandle" ∧ yX4_placeAlong.cls ≠ "java/lang/invoke/VarHandle" ∧ (parseMethodDescriptor yX4_placeAlong.desc).map (fun d => d.parameters.length) = some 2 := by decide +kernel
theorem hd_X4_placeAlong : yX4_placeAlong.cls = RX4 ∧ yX4_placeAlong.cls ≠ "java/lang/invoke/MethodHandle" ∧ yX4_placeAlong.cls ≠ "java/lang/invoke/VarHandle" ∧ (parseMethodDescriptor yX4_placeAlong.desc).map (fun d => d.parameters.length) = some 2 := ⟨rfl, hs_X4_placeAlong⟩
def f_X4_placeAlong_L2 (xs : Nat → Int32) (ys : Nat → Int32) (pl : Nat → Int32) (p1 : Int32) (p2 : Int32)  : Nat → Int32 → Int32
  | 0, _ => 0
  | n + 1, x3_2 => (if p1 ≤ x3_2 then (-2 : Int32) else (if (f_X4_aheadAlong xs ys pl p1 x3_2) = p2 then x3_2 else (f_X4_placeAlong_L2 xs ys pl p1 p2  n (x3_2 + 1))))
def f_X4_placeAlong (xs : Nat → Int32) (ys : Nat → Int32) (pl : Nat → Int32) (p1 : Int32) (p2 : Int32) : Int32 := (f_X4_placeAlong_L2 xs ys pl p1 p2  25 (0 : Int32))
abbrev rm_X4_placeAlong : Room := { frames := 4, cells := 0, slots := 0, locals := 91 }
set_option maxHeartbeats 8000000 in
set_option maxRecDepth 100000 in
theorem c_X4_placeAlong (l : Launch) (dC : Nat → ClassId) (dI : Nat → Nat → Nat) (a : Nat → Nat) (cI cJ : ClassId) (xs : Nat → Int32) (ys : Nat → Int32) (pl : Nat → Int32) (kp : Nat → Int32) (lp : Nat → Int64) (lq : Nat → Int64) (lr : Nat → Int64) (v0 : Int32) (v1 : Int32) (v2 : Int32) (v3 : Int32) (v4 : Int32) (v5 : Int32) (v6 : Int32) (v7 : Int32) (v8 : Int32) (v9 : Int32) (v10 : Int32) (p1 : Int32) (p2 : Int32) (hn : p1 ≤ 24) (hv : ∀ j : Nat, (j : Int) < (p1).toInt → vp_in (pl j) 60) : Met l yX4_placeAlong (Cond.code yX4_placeAlong cX4_placeAlong 4 (some .int) :: lw_G) rm_X4_placeAlong (pPc (dC, dI) (tIJ cI cJ) (wC a cI cJ xs ys pl kp lp lq lr v0 v1 v2 v3 v4 v5 v6 v7 v8 v9 v10) [.ref (a 6), .int p1, .int p2]) (pQi (f_X4_placeAlong xs ys pl p1 p2)) 0 0 pNo := by
  refine pm_of (by decide) (Nat.le_of_ble_eq_true rfl) ?_
  intro p e s m args below meth c Q ls hQ hx hb hr hlk hml hown hts hP hK hS hl
  have hown : s.vm.findClass RX4 = some m.cls := hown
  have hl : lv_has ls 4 [(0, .ref (a 6)), (1, .int p1), (2, .int p2)] := hl
  obtain ⟨F, eF⟩ : ∃ F, F = (f_X4_placeAlong xs ys pl p1 p2) := ⟨_, rfl⟩
  refine lv_iconst (v := (0 : Int32)) hx hb dX4_placeAlong_0 (by decide) ?_
  refine lv_istore_n (lv' := [(3, .int (0 : Int32)), (0, .ref (a 6)), (1, .int p1), (2, .int p2)]) hx hb dX4_placeAlong_1 rfl hl (by decide) rfl (fun ls hl => ?_)
  have K2 : ∀ (n2 : Nat) (x3_2 : Int32), 0 ≤ x3_2 → ((p1).toInt - x3_2.toInt).toNat < n2 → F = f_X4_placeAlong_L2 xs ys pl p1 p2  n2 x3_2 → ∀ (H : Heap) (locs : List Loc), va_P (dC, dI) vwCl (wC a cI cJ xs ys pl kp lp lq lr v0 v1 v2 v3 v4 v5 v6 v7 v8 v9 v10) H → va_S pNo s.heap H locs → ∀ (ls : Array Slot), lv_has ls 4 [(0, .ref (a 6)), (1, .int p1), (2, .int p2), (3, .int x3_2)] → W p l e rm_X4_placeAlong s m args below meth c H locs 0 0 Q (F0 m 2 ls []) := by
    intro n2
    induction n2 with
    | zero => intro x3_2 h0_2 hf_2 hF H locs hP hS ls hl; exact absurd hf_2 (Nat.not_lt_zero _)
    | succ n2 ih2 =>
      intro x3_2 h0_2 hf_2 hF H locs hP hS ls hl
      refine lv_iload_n hx hb dX4_placeAlong_2 rfl (lv_at hl 3 rfl) ?_
      refine lv_iload_n hx hb dX4_placeAlong_3 rfl (lv_at hl 1 rfl) ?_
      refine lv_icmp_ge (tgt := 25) hx hb dX4_placeAlong_4 (by decide) (fun c1 => ?_) (fun c1 => ?_)
      · skip
        refine lv_bipush (v := (-2 : Int32)) hx hb dX4_placeAlong_25 (by decide) ?_
        exact rp_i hQ hx hb hr hlk hS (Eq.symm (eF.symm.trans (by rw [hF]; simp only [f_X4_placeAlong_L2, if_pos c1]))) dX4_placeAlong_27
      · skip
        have hI : vp_in x3_2 24 := ix_lt h0_2 c1 hn
        have hv1 := hv_at hv h0_2 c1
        refine lv_aload_n hx hb dX4_placeAlong_7 rfl (lv_at hl 0 rfl) ?_
        refine lv_iload_n hx hb dX4_placeAlong_8 rfl (lv_at hl 1 rfl) ?_
        refine lv_iload_n hx hb dX4_placeAlong_9 rfl (lv_at hl 3 rfl) ?_
        refine cp_i (va_runV (As := [.int p1, .int x3_2]) (rest := []) ⟨hx, hb, hml, hown, hts⟩ (c_X4_aheadAlong l dC dI a cI cJ xs ys pl kp lp lq lr v0 v1 v2 v3 v4 v5 v6 v7 v8 v9 v10 p1 x3_2 (by first | with_reducible assumption | exact in0_24 | exact in0_60 | decide) (by first | with_reducible assumption | exact in0_24 | exact in0_60 | decide) (by first | with_reducible assumption | exact in0_24 | exact in0_60 | decide) (by first | with_reducible assumption | exact in0_24 | exact in0_60 | decide)) (cwV 2 hts (gG_V mG_25_21 mG_25_22 mG_25_23 mG_2_4 (gG_c mG_26_0 gG_G)) rfl rfl rfl hd_X4_aheadAlong ⟨Nat.le_of_ble_eq_true rfl, Nat.le_of_ble_eq_true rfl⟩) (pPcV (ci := 8) (q0 := 6) hK hP rfl rfl) rfl rfl hl.1 rfl (lv_room (Nat.le_of_ble_eq_true rfl)) dX4_placeAlong_10 ⟨Nat.le_of_ble_eq_true rfl, Nat.le_of_ble_eq_true rfl⟩) hP hS (fun H hP hS => ?_)
        refine lv_iload_n hx hb dX4_placeAlong_13 rfl (lv_at hl 2 rfl) ?_
        refine lv_icmp_ne (tgt := 19) hx hb dX4_placeAlong_14 (by decide) (fun c2 => ?_) (fun c2 => ?_)
        · skip
          refine lv_iinc (v := (x3_2 + 1)) (lv' := [(3, .int (x3_2 + 1)), (0, .ref (a 6)), (1, .int p1), (2, .int p2)]) hx hb dX4_placeAlong_19 hl (k := 3) rfl rfl (by decide) rfl (fun ls hl => ?_)
          refine lv_goto (tgt := 2) hx hb dX4_placeAlong_22 (by decide) ?_
          exact ih2 (x3_2 + 1) (lp_pos h0_2 c1) (lp_dec c1 hf_2) (by rw [hF]; simp only [f_X4_placeAlong_L2, if_neg c1, if_neg c2]) _ _ hP hS ls (lv_sub hl [1, 2, 3, 0] rfl)
        · skip
          refine lv_iload_n hx hb dX4_placeAlong_17 rfl (lv_at hl 3 rfl) ?_
          exact rp_i hQ hx hb hr hlk hS (Eq.symm (eF.symm.trans (by rw [hF]; simp only [f_X4_placeAlong_L2, if_neg c1, if_pos c2]))) dX4_placeAlong_18
  exact K2 25 (0 : Int32) (by decide) (lp_fuel (by decide) hn) (by rw [eF]; simp only [f_X4_placeAlong]) _ _ hP hS ls (lv_sub hl [1, 2, 3, 0] rfl)
/-! X4_crossSum -/
theorem hs_X4_crossSum : yX4_crossSum.cls ≠ "java/lang/invoke/MethodHandle" ∧ yX4_crossSum.cls ≠ "java/lang/invoke/VarHandle" ∧ (parseMethodDescriptor yX4_crossSum.desc).map (fun d => d.parameters.length) = some 1 := by decide +kernel
theorem hd_X4_crossSum : yX4_crossSum.cls = RX4 ∧ yX4_crossSum.cls ≠ "java/lang/invoke/MethodHandle" ∧ yX4_crossSum.cls ≠ "java/lang/invoke/VarHandle" ∧ (parseMethodDescriptor yX4_crossSum.desc).map (fun d => d.parameters.length) = some 1 := ⟨rfl, hs_X4_crossSum⟩
def f_X4_crossSum_L5 (xs : Nat → Int32) (ys : Nat → Int32) (pl : Nat → Int32) (p1 : Int32)  : Nat → Int64 → Int32 → Int64
  | 0, _, _ => 0
  | n + 1, x2_5, x4_5 => (if p1 ≤ x4_5 then x2_5 else (f_X4_crossSum_L5 xs ys pl p1  n (x2_5 + (((Int32.toInt64 (xs (Int32.toNatClampNeg (pl (Int32.toNatClampNeg x4_5))))) * (Int32.toInt64 (ys (Int32.toNatClampNeg (f_X4_endOf pl x4_5 p1))))) - ((Int32.toInt64 (xs (Int32.toNatClampNeg (f_X4_endOf pl x4_5 p1)))) * (Int32.toInt64 (ys (Int32.toNatClampNeg (pl (Int32.toNatClampNeg x4_5)))))))) (x4_5 + 1)))
def f_X4_crossSum (xs : Nat → Int32) (ys : Nat → Int32) (pl : Nat → Int32) (p1 : Int32) : Int64 := (f_X4_crossSum_L5 xs ys pl p1  25 (0 : Int64) (0 : Int32))
abbrev rm_X4_crossSum : Room := { frames := 1, cells := 0, slots := 0, locals := 22 }
set_option maxHeartbeats 8000000 in
set_option maxRecDepth 100000 in
theorem c_X4_crossSum (l : Launch) (dC : Nat → ClassId) (dI : Nat → Nat → Nat) (a : Nat → Nat) (cI cJ : ClassId) (xs : Nat → Int32) (ys : Nat → Int32) (pl : Nat → Int32) (kp : Nat → Int32) (lp : Nat → Int64) (lq : Nat → Int64) (lr : Nat → Int64) (v0 : Int32) (v1 : Int32) (v2 : Int32) (v3 : Int32) (v4 : Int32) (v5 : Int32) (v6 : Int32) (v7 : Int32) (v8 : Int32) (v9 : Int32) (v10 : Int32) (p1 : Int32) (hn : p1 ≤ 24) (hv : ∀ j : Nat, (j : Int) < (p1).toInt → vp_in (pl j) 60) : Met l yX4_crossSum (Cond.code yX4_crossSum cX4_crossSum 7 (some .long) :: lw_G) rm_X4_crossSum (pPc (dC, dI) (tIJ cI cJ) (wC a cI cJ xs ys pl kp lp lq lr v0 v1 v2 v3 v4 v5 v6 v7 v8 v9 v10) [.ref (a 6), .int p1]) (pQl (f_X4_crossSum xs ys pl p1)) 0 0 pNo := by
  refine pm_of (by decide) (Nat.le_of_ble_eq_true rfl) ?_
  intro p e s m args below meth c Q ls hQ hx hb hr hlk hml hown hts hP hK hS hl
  have hown : s.vm.findClass RX4 = some m.cls := hown
  have hl : lv_has ls 7 [(0, .ref (a 6)), (1, .int p1)] := hl
  obtain ⟨F, eF⟩ : ∃ F, F = (f_X4_crossSum xs ys pl p1) := ⟨_, rfl⟩
  refine lv_lconst (v := (0 : Int64)) hx hb dX4_crossSum_0 (by decide) ?_
  refine lv_lstore_n (lv' := [(2, .long (0 : Int64)), (0, .ref (a 6)), (1, .int p1)]) hx hb dX4_crossSum_1 rfl hl (by decide) rfl (fun ls hl => ?_)
  refine lv_iconst (v := (0 : Int32)) hx hb dX4_crossSum_2 (by decide) ?_
  refine lv_istore (lv' := [(4, .int (0 : Int32)), (2, .long (0 : Int64)), (0, .ref (a 6)), (1, .int p1)]) hx hb dX4_crossSum_3 hl (by decide) rfl (fun ls hl => ?_)
  have K5 : ∀ (n5 : Nat) (x2_5 : Int64) (x4_5 : Int32), 0 ≤ x4_5 → ((p1).toInt - x4_5.toInt).toNat < n5 → F = f_X4_crossSum_L5 xs ys pl p1  n5 x2_5 x4_5 → ∀ (H : Heap) (locs : List Loc), va_P (dC, dI) vwCl (wC a cI cJ xs ys pl kp lp lq lr v0 v1 v2 v3 v4 v5 v6 v7 v8 v9 v10) H → va_S pNo s.heap H locs → ∀ (ls : Array Slot), lv_has ls 7 [(0, .ref (a 6)), (1, .int p1), (2, .long x2_5), (4, .int x4_5)] → W p l e rm_X4_crossSum s m args below meth c H locs 0 0 Q (F0 m 5 ls []) := by
    intro n5
    induction n5 with
    | zero => intro x2_5 x4_5 h0_5 hf_5 hF H locs hP hS ls hl; exact absurd hf_5 (Nat.not_lt_zero _)
    | succ n5 ih5 =>
      intro x2_5 x4_5 h0_5 hf_5 hF H locs hP hS ls hl
      refine lv_iload hx hb dX4_crossSum_5 (lv_at hl 3 rfl) ?_
      refine lv_iload_n hx hb dX4_crossSum_7 rfl (lv_at hl 1 rfl) ?_
      refine lv_icmp_ge (tgt := 85) hx hb dX4_crossSum_8 (by decide) (fun c1 => ?_) (fun c1 => ?_)
      · skip
        refine lv_lload_n hx hb dX4_crossSum_85 rfl (lv_at hl 2 rfl) ?_
        exact rp_l hQ hx hb hr hlk hS (Eq.symm (eF.symm.trans (by rw [hF]; simp only [f_X4_crossSum_L5, if_pos c1]))) dX4_crossSum_86
      · skip
        have hI : vp_in x4_5 24 := ix_lt h0_5 c1 hn
        have hv1 := hv_at hv h0_5 c1
        have hE := in_endOf hv h0_5 c1
        refine lv_aload_n hx hb dX4_crossSum_11 rfl (lv_at hl 0 rfl) ?_
        refine va_get (D := (dC, dI)) (ci := 8) (v := .ref (a 7)) (C := RX4) (T := TX4) (N := 3) hx hb hts (fun _ h => gI_wsX40 h) hown hK.1 hP 6 rfl rfl 1 (by decide) (hts _ mG_3_11) (fun _ h9 => h9) rfl dX4_crossSum_12 ?_
        refine lv_iload hx hb dX4_crossSum_15 (lv_at hl 3 rfl) ?_
        refine va_iald hx hb hK.1 hP 7 0 rfl rfl (by first | with_reducible assumption | exact in0_24 | exact in0_60 | decide) dX4_crossSum_17 ?_
        refine lv_topi (fun y2 ey2 => ?_)
        refine lv_istore (lv' := [(5, .int y2), (0, .ref (a 6)), (1, .int p1), (2, .long x2_5), (4, .int x4_5)]) hx hb dX4_crossSum_18 hl (by decide) rfl (fun ls hl => ?_)
        refine lv_aload_n hx hb dX4_crossSum_20 rfl (lv_at hl 1 rfl) ?_
        refine lv_iload hx hb dX4_crossSum_21 (lv_at hl 4 rfl) ?_
        refine lv_iload_n hx hb dX4_crossSum_23 rfl (lv_at hl 2 rfl) ?_
        refine cp_i (va_runV (As := [.int x4_5, .int p1]) (rest := []) ⟨hx, hb, hml, hown, hts⟩ (c_X4_endOf l dC dI a cI cJ xs ys pl kp lp lq lr v0 v1 v2 v3 v4 v5 v6 v7 v8 v9 v10 x4_5 p1 (by first | with_reducible assumption | exact in0_24 | exact in0_60 | decide) (by first | with_reducible assumption | exact in0_24 | exact in0_60 | decide) (by first | with_reducible assumption | exact in0_24 | exact in0_60 | decide)) (cwV 2 hts (gG_V mG_20_15 mG_20_16 mG_20_17 mG_2_4 (gG_c mG_20_18 gG_G)) rfl rfl rfl hd_X4_endOf ⟨Nat.le_of_ble_eq_true rfl, Nat.le_of_ble_eq_true rfl⟩) (pPcV (ci := 8) (q0 := 6) hK hP rfl rfl) rfl rfl hl.1 rfl (lv_room (Nat.le_of_ble_eq_true rfl)) dX4_crossSum_24 ⟨Nat.le_of_ble_eq_true rfl, Nat.le_of_ble_eq_true rfl⟩) hP hS (fun H hP hS => ?_)
        refine lv_topi (fun y3 ey3 => ?_)
        refine lv_istore (lv' := [(6, .int y3), (5, .int y2), (0, .ref (a 6)), (1, .int p1), (2, .long x2_5), (4, .int x4_5)]) hx hb dX4_crossSum_27 hl (by decide) rfl (fun ls hl => ?_)
        have hy5 : vp_in y2 60 := by rw [ey2]; exact hv1
        have hy6 : vp_in y3 60 := by rw [ey3]; exact hE
        refine lv_lload_n hx hb dX4_crossSum_29 rfl (lv_at hl 4 rfl) ?_
        refine lv_aload_n hx hb dX4_crossSum_30 rfl (lv_at hl 2 rfl) ?_
        refine va_get (D := (dC, dI)) (ci := 8) (v := .ref (a 1)) (C := RX4) (T := TX4) (N := 3) hx hb hts (fun _ h => gI_wsX40 h) hown hK.1 hP 6 rfl rfl 0 (by decide) (hts _ mG_3_13) (fun _ h9 => h9) rfl dX4_crossSum_31 ?_
        refine va_get (D := (dC, dI)) (ci := 6) (v := .ref (a 2)) (C := RX2) (T := TX2) (N := 3) hx hb hts (fun _ h => gI_wsX20 h) hown hK.1 hP 1 rfl rfl 0 (by decide) (hts _ mG_24_22) (fun _ h9 => h9) rfl dX4_crossSum_34 ?_
        refine lv_iload hx hb dX4_crossSum_37 (lv_at hl 1 rfl) ?_
        refine va_iald hx hb hK.1 hP 2 0 rfl rfl (by first | with_reducible assumption | exact in0_24 | exact in0_60 | decide) dX4_crossSum_39 ?_
        refine lv_i2l hx hb dX4_crossSum_40 rfl ?_
        refine lv_aload_n hx hb dX4_crossSum_41 rfl (lv_at hl 2 rfl) ?_
        refine va_get (D := (dC, dI)) (ci := 8) (v := .ref (a 1)) (C := RX4) (T := TX4) (N := 3) hx hb hts (fun _ h => gI_wsX40 h) hown hK.1 hP 6 rfl rfl 0 (by decide) (hts _ mG_3_13) (fun _ h9 => h9) rfl dX4_crossSum_42 ?_
        refine va_get (D := (dC, dI)) (ci := 6) (v := .ref (a 3)) (C := RX2) (T := TX2) (N := 3) hx hb hts (fun _ h => gI_wsX20 h) hown hK.1 hP 1 rfl rfl 1 (by decide) (hts _ mG_22_5) (fun _ h9 => h9) rfl dX4_crossSum_45 ?_
        refine lv_iload hx hb dX4_crossSum_48 (lv_at hl 0 rfl) ?_
        refine va_iald hx hb hK.1 hP 3 0 rfl rfl (by first | with_reducible assumption | exact in0_24 | exact in0_60 | decide) dX4_crossSum_50 ?_
        refine lv_i2l hx hb dX4_crossSum_51 rfl ?_
        refine lv_lmul hx hb dX4_crossSum_52 ?_
        refine lv_aload_n hx hb dX4_crossSum_53 rfl (lv_at hl 2 rfl) ?_
        refine va_get (D := (dC, dI)) (ci := 8) (v := .ref (a 1)) (C := RX4) (T := TX4) (N := 3) hx hb hts (fun _ h => gI_wsX40 h) hown hK.1 hP 6 rfl rfl 0 (by decide) (hts _ mG_3_13) (fun _ h9 => h9) rfl dX4_crossSum_54 ?_
        refine va_get (D := (dC, dI)) (ci := 6) (v := .ref (a 2)) (C := RX2) (T := TX2) (N := 3) hx hb hts (fun _ h => gI_wsX20 h) hown hK.1 hP 1 rfl rfl 0 (by decide) (hts _ mG_24_22) (fun _ h9 => h9) rfl dX4_crossSum_57 ?_
        refine lv_iload hx hb dX4_crossSum_60 (lv_at hl 0 rfl) ?_
        refine va_iald hx hb hK.1 hP 2 0 rfl rfl (by first | with_reducible assumption | exact in0_24 | exact in0_60 | decide) dX4_crossSum_62 ?_
        refine lv_i2l hx hb dX4_crossSum_63 rfl ?_
        refine lv_aload_n hx hb dX4_crossSum_64 rfl (lv_at hl 2 rfl) ?_
        refine va_get (D := (dC, dI)) (ci := 8) (v := .ref (a 1)) (C := RX4) (T := TX4) (N := 3) hx hb hts (fun _ h => gI_wsX40 h) hown hK.1 hP 6 rfl rfl 0 (by decide) (hts _ mG_3_13) (fun _ h9 => h9) rfl dX4_crossSum_65 ?_
        refine va_get (D := (dC, dI)) (ci := 6) (v := .ref (a 3)) (C := RX2) (T := TX2) (N := 3) hx hb hts (fun _ h => gI_wsX20 h) hown hK.1 hP 1 rfl rfl 1 (by decide) (hts _ mG_22_5) (fun _ h9 => h9) rfl dX4_crossSum_68 ?_
        refine lv_iload hx hb dX4_crossSum_71 (lv_at hl 1 rfl) ?_
        refine va_iald hx hb hK.1 hP 3 0 rfl rfl (by first | with_reducible assumption | exact in0_24 | exact in0_60 | decide) dX4_crossSum_73 ?_
        refine lv_i2l hx hb dX4_crossSum_74 rfl ?_
        refine lv_lmul hx hb dX4_crossSum_75 ?_
        refine lv_lsub hx hb dX4_crossSum_76 ?_
        refine lv_ladd hx hb dX4_crossSum_77 ?_
        refine lv_topl (fun y4 ey4 => ?_)
        refine lv_lstore_n (lv' := [(2, .long y4), (6, .int y3), (5, .int y2), (0, .ref (a 6)), (1, .int p1), (4, .int x4_5)]) hx hb dX4_crossSum_78 rfl hl (by decide) rfl (fun ls hl => ?_)
        refine lv_iinc (v := (x4_5 + 1)) (lv' := [(4, .int (x4_5 + 1)), (2, .long y4), (6, .int y3), (5, .int y2), (0, .ref (a 6)), (1, .int p1)]) hx hb dX4_crossSum_79 hl (k := 5) rfl rfl (by decide) rfl (fun ls hl => ?_)
        refine lv_goto (tgt := 5) hx hb dX4_crossSum_82 (by decide) ?_
        exact ih5 y4 (x4_5 + 1) (lp_pos h0_5 c1) (lp_dec c1 hf_5) (by subst ey2; subst ey3; subst ey4; rw [hF]; simp only [f_X4_crossSum_L5, if_neg c1]) _ _ hP hS ls (lv_sub hl [4, 5, 1, 0] rfl)
  exact K5 25 (0 : Int64) (0 : Int32) (by decide) (lp_fuel (by decide) hn) (by rw [eF]; simp only [f_X4_crossSum]) _ _ hP hS ls (lv_sub hl [2, 3, 1, 0] rfl)
