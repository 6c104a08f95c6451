theorem in_hasPlace {v p : Int32} (h : v ≤ 24) (c : ¬ f_X4_hasPlace v p = 0) : vp_in p 24 := in_place h c
/-! X5_size -/
theorem hs_X5_size : yX5_size.cls ≠ "java/lang/invoke/MethodHandle" ∧ yX5_size.cls ≠ "java/lang/invoke/VarHandle" ∧ (parseMethodDescriptor yX5_size.desc).map (fun d => d.parameters.length) = some 1 := by decide +kernel
theorem hd_X5_size : yX5_size.cls = RX5 ∧ yX5_size.cls ≠ "java/lang/invoke/MethodHandle" ∧ yX5_size.cls ≠ "java/lang/invoke/VarHandle" ∧ (parseMethodDescriptor yX5_size.desc).map (fun d => d.parameters.length) = some 1 := ⟨rfl, hs_X5_size⟩
def f_X5_size (pl : Nat → Int32) (v5 : Int32) (p1 : Int32) : Int32 × Int32 × (Nat → Int32) × Int32 := (if 0 ≤ p1 then (if p1 ≤ (24 : Int32) then ((0 : Int32), ((f_X4_resize pl v5 p1).1), ((f_X4_resize pl v5 p1).2.1), ((f_X4_resize pl v5 p1).2.2)) else ((0 : Int32), (-2 : Int32), pl, v5)) else ((1 : Int32), (0 : Int32), pl, v5))
abbrev rm_X5_size : Room := { frames := 6, cells := 1, slots := 8, locals := 82 }
set_option maxHeartbeats 8000000 in
set_option maxRecDepth 100000 in
theorem c_X5_size (l : Launch) (dC : Nat → ClassId) (dI : Nat → Nat → Nat) (a : Nat → Nat) (cI cJ : ClassId) (xs : Nat → Int32) (ys : Nat → Int32) (pl : Nat → Int32) (kp : Nat → Int32) (lp : Nat → Int64) (lq : Nat → Int64) (lr : Nat → Int64) (v0 : Int32) (v1 : Int32) (v2 : Int32) (v3 : Int32) (v4 : Int32) (v5 : Int32) (v6 : Int32) (v7 : Int32) (v8 : Int32) (v9 : Int32) (v10 : Int32) (sa : Nat → Nat) (hlt : l.stackTraces = false) (p1 : Int32) : vx_Met l yX5_size (Cond.code yX5_size cX5_size 2 (some .int) :: lw_H) rm_X5_size (xPc (dC, dI) (tIJ cI cJ) sa (wC a cI cJ xs ys pl kp lp lq lr v0 v1 v2 v3 v4 v5 v6 v7 v8 v9 v10) [.ref (a 0), .int p1]) (xQi (dC, dI) (wA (wC a cI cJ xs ys pl kp lp lq lr v0 v1 v2 v3 v4 v5 v6 v7 v8 v9 v10)) (wC a cI cJ xs ys ((f_X5_size pl v5 p1).2.2.1) kp lp lq lr v0 v1 v2 v3 v4 ((f_X5_size pl v5 p1).2.2.2) v6 v7 v8 v9 v10) (f_X5_size pl v5 p1).1 (f_X5_size pl v5 p1).2.1) (xX (dC, dI) (wA (wC a cI cJ xs ys pl kp lp lq lr v0 v1 v2 v3 v4 v5 v6 v7 v8 v9 v10)) (wC a cI cJ xs ys pl kp lp lq lr v0 v1 v2 v3 v4 v5 v6 v7 v8 v9 v10) (f_X5_size pl v5 p1).1 eN1 eP1) 1 8 (wA (wC a cI cJ xs ys pl kp lp lq lr v0 v1 v2 v3 v4 v5 v6 v7 v8 v9 v10)) := by
  refine xm_of (by decide) (Nat.le_of_ble_eq_true rfl) ?_
  intro p e s m args below meth c Q ls hQ hx hb hr hlk hml hown htH htab hP hK hD hX hS hl
  have hown : s.vm.findClass RX5 = some m.cls := hown
  have hl : lv_has ls 2 [(0, .ref (a 0)), (1, .int p1)] := hl
  have hts : ∀ w ∈ lw_G, w.before args s = true := fun w h => htH w (List.mem_append_right _ h)
  generalize hAe : wA (wC a cI cJ xs ys pl kp lp lq lr v0 v1 v2 v3 v4 v5 v6 v7 v8 v9 v10) = A at hQ hD hX hS
  refine lv_iload_n hx hb dX5_size_0 rfl (lv_at hl 1 rfl) ?_
  refine lv_if_ge (tgt := 14) hx hb dX5_size_1 (by decide) (fun c1 => ?_) (fun c1 => ?_)
  · skip
    refine lv_iload_n hx hb dX5_size_14 rfl (lv_at hl 1 rfl) ?_
    refine lv_bipush (v := (24 : Int32)) hx hb dX5_size_15 (by decide) ?_
    refine lv_icmp_le (tgt := 23) hx hb dX5_size_17 (by decide) (fun c2 => ?_) (fun c2 => ?_)
    · skip
      refine lv_aload_n hx hb dX5_size_23 rfl (lv_at hl 0 rfl) ?_
      refine va_get (D := (dC, dI)) (ci := 9) (v := .ref (a 6)) (C := RX5) (T := TX5) (N := 5) hx hb hts (fun _ h => gI_wsX50 h) hown hK.1 hP 0 rfl rfl 3 (by decide) (hts _ mG_2_5) (fun _ h9 => h9) rfl dX5_size_24 ?_
      refine lv_iload_n hx hb dX5_size_27 rfl (lv_at hl 1 rfl) ?_
      refine cw_i (va_runV (As := [.int p1]) (rest := []) ⟨hx, hb, hml, hown, hts⟩ (c_X4_resize l dC dI a cI cJ xs ys pl kp lp lq lr v0 v1 v2 v3 v4 v5 v6 v7 v8 v9 v10 p1 ) (cwV 1 hts (gG_V mG_6_9 mG_6_10 mG_6_11 mG_2_4 (gG_c mG_6_12 gG_G)) rfl rfl rfl hd_X4_resize ⟨Nat.le_of_ble_eq_true rfl, Nat.le_of_ble_eq_true rfl⟩) (wPcV (ci := 8) (q0 := 6) hK hP hD rfl rfl) rfl rfl hl.1 rfl (lv_room (Nat.le_of_ble_eq_true rfl)) dX5_size_28 ⟨Nat.le_of_ble_eq_true rfl, Nat.le_of_ble_eq_true rfl⟩) (wA.sub hD) hS (fun H locs hP hk1 hS => ?_)
      have hD := hD.addr (w1 := (wC a cI cJ xs ys ((f_X4_resize pl v5 p1).2.1) kp lp lq lr v0 v1 v2 v3 v4 ((f_X4_resize pl v5 p1).2.2) v6 v7 v8 v9 v10)) rfl
      have hE : (f_X5_size pl v5 p1) = ((0 : Int32), ((f_X4_resize pl v5 p1).1), ((f_X4_resize pl v5 p1).2.1), ((f_X4_resize pl v5 p1).2.2)) := (by simp only [f_X5_size, if_pos c1, if_pos c2])
      exact rx_i hQ hx hb hr hlk (by rw [hE]; exact hP) hS (by rw [hE]) (by rw [hE]) dX5_size_31
    · skip
      refine lv_bipush (v := (-2 : Int32)) hx hb dX5_size_20 (by decide) ?_
      have hE : (f_X5_size pl v5 p1) = ((0 : Int32), (-2 : Int32), pl, v5) := (by simp only [f_X5_size, if_pos c1, if_neg c2])
      exact rx_i hQ hx hb hr hlk (by rw [hE]; exact hP) hS (by rw [hE]) (by rw [hE]) dX5_size_22
  · skip
    have hE : (f_X5_size pl v5 p1) = ((1 : Int32), (0 : Int32), pl, v5) := (by simp only [f_X5_size, if_neg c1])
    exact tx hQ (by rw [hE]; exact Or.inl ⟨rfl, rfl⟩) hx hb hlt hown (by decide) (by decide) (hts _ mG_6_6) (hts _ mG_6_8) hX.2.2.1 (hat_N htH hX.2.2.2.2.2.2) x_ot_N hX.1 hX.2.1 hS (by rw [hml]; exact hl.1) hlk hP htab (Nat.le_of_ble_eq_true rfl) (Nat.le_of_ble_eq_true rfl) (Nat.le_of_ble_eq_true rfl) (Nat.le_of_ble_eq_true rfl) dX5_size_4 dX5_size_7 dX5_size_8 dX5_size_10 dX5_size_13
/-! X5_of -/
theorem hs_X5_of : yX5_of.cls ≠ "java/lang/invoke/MethodHandle" ∧ yX5_of.cls ≠ "java/lang/invoke/VarHandle" ∧ (parseMethodDescriptor yX5_of.desc).map (fun d => d.parameters.length) = some 2 := by decide +kernel
theorem hd_X5_of : yX5_of.cls = RX5 ∧ yX5_of.cls ≠ "java/lang/invoke/MethodHandle" ∧ yX5_of.cls ≠ "java/lang/invoke/VarHandle" ∧ (parseMethodDescriptor yX5_of.desc).map (fun d => d.parameters.length) = some 2 := ⟨rfl, hs_X5_of⟩
def f_X5_of (pl : Nat → Int32) (v0 : Int32) (v5 : Int32) (p1 : Int32) (p2 : Int32) : Int32 × Int32 × (Nat → Int32) := (if p2 = (-1 : Int32) then (if (f_X4_hasPlace v5 p1) = 0 then ((1 : Int32), (0 : Int32), pl) else ((0 : Int32), ((f_X4_put pl p1 p2).1), ((f_X4_put pl p1 p2).2))) else (if (f_X2_has v0 p2) = 0 then ((0 : Int32), (-2 : Int32), pl) else (if (f_X4_hasPlace v5 p1) = 0 then ((1 : Int32), (0 : Int32), pl) else ((0 : Int32), ((f_X4_put pl p1 p2).1), ((f_X4_put pl p1 p2).2)))))
abbrev rm_X5_of : Room := { frames := 7, cells := 1, slots := 8, locals := 95 }
set_option maxHeartbeats 8000000 in
set_option maxRecDepth 100000 in
theorem c_X5_of (l : Launch) (dC : Nat → ClassId) (dI : Nat → Nat → Nat) (a : Nat → Nat) (cI cJ : ClassId) (xs : Nat → Int32) (ys : Nat → Int32) (pl : Nat → Int32) (kp : Nat → Int32) (lp : Nat → Int64) (lq : Nat → Int64) (lr : Nat → Int64) (v0 : Int32) (v1 : Int32) (v2 : Int32) (v3 : Int32) (v4 : Int32) (v5 : Int32) (v6 : Int32) (v7 : Int32) (v8 : Int32) (v9 : Int32) (v10 : Int32) (sa : Nat → Nat) (hlt : l.stackTraces = false) (p1 : Int32) (p2 : Int32) (hh : v5 ≤ 24) : vx_Met l yX5_of (Cond.code yX5_of cX5_of 3 (some .int) :: lw_H) rm_X5_of (xPc (dC, dI) (tIJ cI cJ) sa (wC a cI cJ xs ys pl kp lp lq lr v0 v1 v2 v3 v4 v5 v6 v7 v8 v9 v10) [.ref (a 0), .int p1, .int p2]) (xQi (dC, dI) (wA (wC a cI cJ xs ys pl kp lp lq lr v0 v1 v2 v3 v4 v5 v6 v7 v8 v9 v10)) (wC a cI cJ xs ys ((f_X5_of pl v0 v5 p1 p2).2.2) kp lp lq lr v0 v1 v2 v3 v4 v5 v6 v7 v8 v9 v10) (f_X5_of pl v0 v5 p1 p2).1 (f_X5_of pl v0 v5 p1 p2).2.1) (xX (dC, dI) (wA (wC a cI cJ xs ys pl kp lp lq lr v0 v1 v2 v3 v4 v5 v6 v7 v8 v9 v10)) (wC a cI cJ xs ys pl kp lp lq lr v0 v1 v2 v3 v4 v5 v6 v7 v8 v9 v10) (f_X5_of pl v0 v5 p1 p2).1 eA1 eP1) 1 8 (wA (wC a cI cJ xs ys pl kp lp lq lr v0 v1 v2 v3 v4 v5 v6 v7 v8 v9 v10)) := by
  refine xm_of (by decide) (Nat.le_of_ble_eq_true rfl) ?_
  intro p e s m args below meth c Q ls hQ hx hb hr hlk hml hown htH htab hP hK hD hX hS hl
  have hown : s.vm.findClass RX5 = some m.cls := hown
  have hl : lv_has ls 3 [(0, .ref (a 0)), (1, .int p1), (2, .int p2)] := hl
  have hts : ∀ w ∈ lw_G, w.before args s = true := fun w h => htH w (List.mem_append_right _ h)
  generalize hAe : wA (wC a cI cJ xs ys pl kp lp lq lr v0 v1 v2 v3 v4 v5 v6 v7 v8 v9 v10) = A at hQ hD hX hS
  refine lv_iload_n hx hb dX5_of_0 rfl (lv_at hl 2 rfl) ?_
  refine lv_iconst (v := (-1 : Int32)) hx hb dX5_of_1 (by decide) ?_
  refine lv_icmp_eq (tgt := 19) hx hb dX5_of_2 (by decide) (fun c1 => ?_) (fun c1 => ?_)
  · skip
    refine lv_aload_n hx hb dX5_of_19 rfl (lv_at hl 0 rfl) ?_
    refine va_get (D := (dC, dI)) (ci := 9) (v := .ref (a 6)) (C := RX5) (T := TX5) (N := 5) hx hb hts (fun _ h => gI_wsX50 h) hown hK.1 hP 0 rfl rfl 3 (by decide) (hts _ mG_2_5) (fun _ h9 => h9) rfl dX5_of_20 ?_
    refine lv_iload_n hx hb dX5_of_23 rfl (lv_at hl 1 rfl) ?_
    refine cp_i (va_runV (As := [.int p1]) (rest := []) ⟨hx, hb, hml, hown, hts⟩ (c_X4_hasPlace l dC dI a cI cJ xs ys pl kp lp lq lr v0 v1 v2 v3 v4 v5 v6 v7 v8 v9 v10 p1 ) (cwV 1 hts (gG_V mG_7_17 mG_7_18 mG_7_19 mG_2_4 (gG_c mG_7_20 gG_G)) rfl rfl rfl hd_X4_hasPlace ⟨Nat.le_of_ble_eq_true rfl, Nat.le_of_ble_eq_true rfl⟩) (pPcV (ci := 8) (q0 := 6) hK hP rfl rfl) rfl rfl hl.1 rfl (lv_room (Nat.le_of_ble_eq_true rfl)) dX5_of_24 ⟨Nat.le_of_ble_eq_true rfl, Nat.le_of_ble_eq_true rfl⟩) hP hS (fun H hP hS => ?_)
    refine lv_if_ne (tgt := 40) hx hb dX5_of_27 (by decide) (fun c2 => ?_) (fun c2 => ?_)
    · skip
      have hI : vp_in p1 24 := in_hasPlace hh c2
      refine lv_aload_n hx hb dX5_of_40 rfl (lv_at hl 0 rfl) ?_
      refine va_get (D := (dC, dI)) (ci := 9) (v := .ref (a 6)) (C := RX5) (T := TX5) (N := 5) hx hb hts (fun _ h => gI_wsX50 h) hown hK.1 hP 0 rfl rfl 3 (by decide) (hts _ mG_2_5) (fun _ h9 => h9) rfl dX5_of_41 ?_
      refine lv_iload_n hx hb dX5_of_44 rfl (lv_at hl 1 rfl) ?_
      refine lv_iload_n hx hb dX5_of_45 rfl (lv_at hl 2 rfl) ?_
      refine cw_i (va_runV (As := [.int p1, .int p2]) (rest := []) ⟨hx, hb, hml, hown, hts⟩ (c_X4_put l dC dI a cI cJ xs ys pl kp lp lq lr v0 v1 v2 v3 v4 v5 v6 v7 v8 v9 v10 p1 p2 (by first | with_reducible assumption | exact in0_24 | exact in0_60 | decide)) (cwV 2 hts (gG_V mG_7_21 mG_7_22 mG_7_23 mG_2_4 (gG_c mG_8_0 gG_G)) rfl rfl rfl hd_X4_put ⟨Nat.le_of_ble_eq_true rfl, Nat.le_of_ble_eq_true rfl⟩) (wPcV (ci := 8) (q0 := 6) hK hP hD rfl rfl) rfl rfl hl.1 rfl (lv_room (Nat.le_of_ble_eq_true rfl)) dX5_of_46 ⟨Nat.le_of_ble_eq_true rfl, Nat.le_of_ble_eq_true rfl⟩) (wA.sub hD) hS (fun H locs hP hk1 hS => ?_)
      have hD := hD.addr (w1 := (wC a cI cJ xs ys ((f_X4_put pl p1 p2).2) kp lp lq lr v0 v1 v2 v3 v4 v5 v6 v7 v8 v9 v10)) rfl
      have hE : (f_X5_of pl v0 v5 p1 p2) = ((0 : Int32), ((f_X4_put pl p1 p2).1), ((f_X4_put pl p1 p2).2)) := (by simp only [f_X5_of, if_pos c1, if_neg c2])
      exact rx_i hQ hx hb hr hlk (by rw [hE]; exact hP) hS (by rw [hE]) (by rw [hE]) dX5_of_49
    · skip
      have hE : (f_X5_of pl v0 v5 p1 p2) = ((1 : Int32), (0 : Int32), pl) := (by simp only [f_X5_of, if_pos c1, if_pos c2])
      exact tx hQ (by rw [hE]; exact Or.inl ⟨rfl, rfl⟩) hx hb hlt hown (by decide) (by decide) (hts _ mG_7_10) (hts _ mG_7_12) hX.2.2.2.1 (hat_A htH hX.2.2.2.2.2.2) x_ot_A hX.1 hX.2.1 hS (by rw [hml]; exact hl.1) hlk hP htab (Nat.le_of_ble_eq_true rfl) (Nat.le_of_ble_eq_true rfl) (Nat.le_of_ble_eq_true rfl) (Nat.le_of_ble_eq_true rfl) dX5_of_30 dX5_of_33 dX5_of_34 dX5_of_36 dX5_of_39
  · skip
    refine lv_aload_n hx hb dX5_of_5 rfl (lv_at hl 0 rfl) ?_
    refine va_get (D := (dC, dI)) (ci := 9) (v := .ref (a 1)) (C := RX5) (T := TX5) (N := 5) hx hb hts (fun _ h => gI_wsX50 h) hown hK.1 hP 0 rfl rfl 0 (by decide) (hts _ mG_1_17) (fun _ h9 => h9) rfl dX5_of_6 ?_
    refine lv_iload_n hx hb dX5_of_9 rfl (lv_at hl 2 rfl) ?_
    refine cp_i (va_runV (As := [.int p2]) (rest := []) ⟨hx, hb, hml, hown, hts⟩ (c_X2_has l dC dI a cI cJ xs ys pl kp lp lq lr v0 v1 v2 v3 v4 v5 v6 v7 v8 v9 v10 p2 ) (cwV 1 hts (gG_V mG_7_13 mG_7_14 mG_7_15 mG_1_16 (gG_c mG_7_16 gG_G)) rfl rfl rfl hd_X2_has ⟨Nat.le_of_ble_eq_true rfl, Nat.le_of_ble_eq_true rfl⟩) (pPcV (ci := 6) (q0 := 1) hK hP rfl rfl) rfl rfl hl.1 rfl (lv_room (Nat.le_of_ble_eq_true rfl)) dX5_of_10 ⟨Nat.le_of_ble_eq_true rfl, Nat.le_of_ble_eq_true rfl⟩) hP hS (fun H hP hS => ?_)
    refine lv_if_ne (tgt := 19) hx hb dX5_of_13 (by decide) (fun c3 => ?_) (fun c3 => ?_)
    · skip
      refine lv_aload_n hx hb dX5_of_19 rfl (lv_at hl 0 rfl) ?_
      refine va_get (D := (dC, dI)) (ci := 9) (v := .ref (a 6)) (C := RX5) (T := TX5) (N := 5) hx hb hts (fun _ h => gI_wsX50 h) hown hK.1 hP 0 rfl rfl 3 (by decide) (hts _ mG_2_5) (fun _ h9 => h9) rfl dX5_of_20 ?_
      refine lv_iload_n hx hb dX5_of_23 rfl (lv_at hl 1 rfl) ?_
      refine cp_i (va_runV (As := [.int p1]) (rest := []) ⟨hx, hb, hml, hown, hts⟩ (c_X4_hasPlace l dC dI a cI cJ xs ys pl kp lp lq lr v0 v1 v2 v3 v4 v5 v6 v7 v8 v9 v10 p1 ) (cwV 1 hts (gG_V mG_7_17 mG_7_18 mG_7_19 mG_2_4 (gG_c mG_7_20 gG_G)) rfl rfl rfl hd_X4_hasPlace ⟨Nat.le_of_ble_eq_true rfl, Nat.le_of_ble_eq_true rfl⟩) (pPcV (ci := 8) (q0 := 6) hK hP rfl rfl) rfl rfl hl.1 rfl (lv_room (Nat.le_of_ble_eq_true rfl)) dX5_of_24 ⟨Nat.le_of_ble_eq_true rfl, Nat.le_of_ble_eq_true rfl⟩) hP hS (fun H hP hS => ?_)
      refine lv_if_ne (tgt := 40) hx hb dX5_of_27 (by decide) (fun c4 => ?_) (fun c4 => ?_)
      · skip
        have hI : vp_in p1 24 := in_hasPlace hh c4
        refine lv_aload_n hx hb dX5_of_40 rfl (lv_at hl 0 rfl) ?_
        refine va_get (D := (dC, dI)) (ci := 9) (v := .ref (a 6)) (C := RX5) (T := TX5) (N := 5) hx hb hts (fun _ h => gI_wsX50 h) hown hK.1 hP 0 rfl rfl 3 (by decide) (hts _ mG_2_5) (fun _ h9 => h9) rfl dX5_of_41 ?_
        refine lv_iload_n hx hb dX5_of_44 rfl (lv_at hl 1 rfl) ?_
        refine lv_iload_n hx hb dX5_of_45 rfl (lv_at hl 2 rfl) ?_
        refine cw_i (va_runV (As := [.int p1, .int p2]) (rest := []) ⟨hx, hb, hml, hown, hts⟩ (c_X4_put l dC dI a cI cJ xs ys pl kp lp lq lr v0 v1 v2 v3 v4 v5 v6 v7 v8 v9 v10 p1 p2 (by first | with_reducible assumption | exact in0_24 | exact in0_60 | decide)) (cwV 2 hts (gG_V mG_7_21 mG_7_22 mG_7_23 mG_2_4 (gG_c mG_8_0 gG_G)) rfl rfl rfl hd_X4_put ⟨Nat.le_of_ble_eq_true rfl, Nat.le_of_ble_eq_true rfl⟩) (wPcV (ci := 8) (q0 := 6) hK hP hD rfl rfl) rfl rfl hl.1 rfl (lv_room (Nat.le_of_ble_eq_true rfl)) dX5_of_46 ⟨Nat.le_of_ble_eq_true rfl, Nat.le_of_ble_eq_true rfl⟩) (wA.sub hD) hS (fun H locs hP hk1 hS => ?_)
        have hD := hD.addr (w1 := (wC a cI cJ xs ys ((f_X4_put pl p1 p2).2) kp lp lq lr v0 v1 v2 v3 v4 v5 v6 v7 v8 v9 v10)) rfl
        have hE : (f_X5_of pl v0 v5 p1 p2) = ((0 : Int32), ((f_X4_put pl p1 p2).1), ((f_X4_put pl p1 p2).2)) := (by simp only [f_X5_of, if_neg c1, if_neg c3, if_neg c4])
        exact rx_i hQ hx hb hr hlk (by rw [hE]; exact hP) hS (by rw [hE]) (by rw [hE]) dX5_of_49
      · skip
        have hE : (f_X5_of pl v0 v5 p1 p2) = ((1 : Int32), (0 : Int32), pl) := (by simp only [f_X5_of, if_neg c1, if_neg c3, if_pos c4])
        exact tx hQ (by rw [hE]; exact Or.inl ⟨rfl, rfl⟩) hx hb hlt hown (by decide) (by decide) (hts _ mG_7_10) (hts _ mG_7_12) hX.2.2.2.1 (hat_A htH hX.2.2.2.2.2.2) x_ot_A hX.1 hX.2.1 hS (by rw [hml]; exact hl.1) hlk hP htab (Nat.le_of_ble_eq_true rfl) (Nat.le_of_ble_eq_true rfl) (Nat.le_of_ble_eq_true rfl) (Nat.le_of_ble_eq_true rfl) dX5_of_30 dX5_of_33 dX5_of_34 dX5_of_36 dX5_of_39
    · skip
      refine lv_bipush (v := (-2 : Int32)) hx hb dX5_of_16 (by decide) ?_
      have hE : (f_X5_of pl v0 v5 p1 p2) = ((0 : Int32), (-2 : Int32), pl) := (by simp only [f_X5_of, if_neg c1, if_pos c3])
      exact rx_i hQ hx hb hr hlk (by rw [hE]; exact hP) hS (by rw [hE]) (by rw [hE]) dX5_of_18
/-! X5_at -/
theorem hs_X5_at : yX5_at.cls ≠ "java/lang/invoke/MethodHandle" ∧ yX5_at.cls ≠ "java/lang/invoke/VarHandle" ∧ (parseMethodDescriptor yX5_at.desc).map (fun d => d.parameters.length) = some 2 := by decide +kernel
theorem hd_X5_at : yX5_at.cls = RX5 ∧ yX5_at.cls ≠ "java/lang/invoke/MethodHandle" ∧ yX5_at.cls ≠ "java/lang/invoke/VarHandle" ∧ (parseMethodDescriptor yX5_at.desc).map (fun d => d.parameters.length) = some 2 := ⟨rfl, hs_X5_at⟩
def f_X5_at (xs : Nat → Int32) (ys : Nat → Int32) (pl : Nat → Int32) (v0 : Int32) (v5 : Int32) (p1 : Int32) (p2 : Int32) : Int32 × Int32 := (if (f_X4_hasPlace v5 p1) = 0 then ((1 : Int32), (0 : Int32)) else (if (f_X2_has v0 (pl (Int32.toNatClampNeg p1))) = 0 then ((2 : Int32), (0 : Int32)) else (if p2 = 0 then ((0 : Int32), (xs (Int32.toNatClampNeg (pl (Int32.toNatClampNeg p1))))) else (if p2 = (1 : Int32) then ((0 : Int32), (ys (Int32.toNatClampNeg (pl (Int32.toNatClampNeg p1))))) else ((0 : Int32), (pl (Int32.toNatClampNeg p1)))))))
abbrev rm_X5_at : Room := { frames := 10, cells := 1, slots := 8, locals := 10270 }
set_option maxHeartbeats 8000000 in
set_option maxRecDepth 100000 in
theorem c_X5_at (l : Launch) (dC : Nat → ClassId) (dI : Nat → Nat → Nat) (a : Nat → Nat) (cI cJ : ClassId) (xs : Nat → Int32) (ys : Nat → Int32) (pl : Nat → Int32) (kp : Nat → Int32) (lp : Nat → Int64) (lq : Nat → Int64) (lr : Nat → Int64) (v0 : Int32) (v1 : Int32) (v2 : Int32) (v3 : Int32) (v4 : Int32) (v5 : Int32) (v6 : Int32) (v7 : Int32) (v8 : Int32) (v9 : Int32) (v10 : Int32) (sa : Nat → Nat) (hlt : l.stackTraces = false) (p1 : Int32) (p2 : Int32) (hv0 : v0 ≤ 60) (hh : v5 ≤ 24) : vx_Met l yX5_at (Cond.code yX5_at cX5_at 4 (some .int) :: lw_H) rm_X5_at (xPc (dC, dI) (tIJ cI cJ) sa (wC a cI cJ xs ys pl kp lp lq lr v0 v1 v2 v3 v4 v5 v6 v7 v8 v9 v10) [.ref (a 0), .int p1, .int p2]) (xQi (dC, dI) (wA (wC a cI cJ xs ys pl kp lp lq lr v0 v1 v2 v3 v4 v5 v6 v7 v8 v9 v10)) (wC a cI cJ xs ys pl kp lp lq lr v0 v1 v2 v3 v4 v5 v6 v7 v8 v9 v10) (f_X5_at xs ys pl v0 v5 p1 p2).1 (f_X5_at xs ys pl v0 v5 p1 p2).2) (xX (dC, dI) (wA (wC a cI cJ xs ys pl kp lp lq lr v0 v1 v2 v3 v4 v5 v6 v7 v8 v9 v10)) (wC a cI cJ xs ys pl kp lp lq lr v0 v1 v2 v3 v4 v5 v6 v7 v8 v9 v10) (f_X5_at xs ys pl v0 v5 p1 p2).1 eA1 eP1) 1 8 (wA (wC a cI cJ xs ys pl kp lp lq lr v0 v1 v2 v3 v4 v5 v6 v7 v8 v9 v10)) := by
  refine xm_of (by decide) (Nat.le_of_ble_eq_true rfl) ?_
  intro p e s m args below meth c Q ls hQ hx hb hr hlk hml hown htH htab hP hK hD hX hS hl
  have hown : s.vm.findClass RX5 = some m.cls := hown
  have hl : lv_has ls 4 [(0, .ref (a 0)), (1, .int p1), (2, .int p2)] := hl
  have hts : ∀ w ∈ lw_G, w.before args s = true := fun w h => htH w (List.mem_append_right _ h)
  generalize hAe : wA (wC a cI cJ xs ys pl kp lp lq lr v0 v1 v2 v3 v4 v5 v6 v7 v8 v9 v10) = A at hQ hD hX hS
  refine lv_aload_n hx hb dX5_at_0 rfl (lv_at hl 0 rfl) ?_
  refine va_get (D := (dC, dI)) (ci := 9) (v := .ref (a 6)) (C := RX5) (T := TX5) (N := 5) hx hb hts (fun _ h => gI_wsX50 h) hown hK.1 hP 0 rfl rfl 3 (by decide) (hts _ mG_2_5) (fun _ h9 => h9) rfl dX5_at_1 ?_
  refine lv_iload_n hx hb dX5_at_4 rfl (lv_at hl 1 rfl) ?_
  refine cp_i (va_runV (As := [.int p1]) (rest := []) ⟨hx, hb, hml, hown, hts⟩ (c_X4_hasPlace l dC dI a cI cJ xs ys pl kp lp lq lr v0 v1 v2 v3 v4 v5 v6 v7 v8 v9 v10 p1 ) (cwV 1 hts (gG_V mG_7_17 mG_7_18 mG_7_19 mG_2_4 (gG_c mG_7_20 gG_G)) rfl rfl rfl hd_X4_hasPlace ⟨Nat.le_of_ble_eq_true rfl, Nat.le_of_ble_eq_true rfl⟩) (pPcV (ci := 8) (q0 := 6) hK hP rfl rfl) rfl rfl hl.1 rfl (lv_room (Nat.le_of_ble_eq_true rfl)) dX5_at_5 ⟨Nat.le_of_ble_eq_true rfl, Nat.le_of_ble_eq_true rfl⟩) hP hS (fun H hP hS => ?_)
  refine lv_if_ne (tgt := 21) hx hb dX5_at_8 (by decide) (fun c1 => ?_) (fun c1 => ?_)
  · skip
    have hI : vp_in p1 24 := in_hasPlace hh c1
    refine lv_aload_n hx hb dX5_at_21 rfl (lv_at hl 0 rfl) ?_
    refine va_get (D := (dC, dI)) (ci := 9) (v := .ref (a 6)) (C := RX5) (T := TX5) (N := 5) hx hb hts (fun _ h => gI_wsX50 h) hown hK.1 hP 0 rfl rfl 3 (by decide) (hts _ mG_2_5) (fun _ h9 => h9) rfl dX5_at_22 ?_
    refine va_get (D := (dC, dI)) (ci := 8) (v := .ref (a 7)) (C := RX4) (T := TX4) (N := 3) hx hb hts (fun _ h => gI_wsX40 h) hown hK.1 hP 6 rfl rfl 1 (by decide) (hts _ mG_8_21) (fun _ h9 => h9) rfl dX5_at_25 ?_
    refine lv_iload_n hx hb dX5_at_28 rfl (lv_at hl 1 rfl) ?_
    refine va_iald hx hb hK.1 hP 7 0 rfl rfl (by first | with_reducible assumption | exact in0_24 | exact in0_60 | decide) dX5_at_29 ?_
    refine lv_topi (fun y2 ey2 => ?_)
    refine lv_istore_n (lv' := [(3, .int y2), (0, .ref (a 0)), (1, .int p1), (2, .int p2)]) hx hb dX5_at_30 rfl hl (by decide) rfl (fun ls hl => ?_)
    refine lv_aload_n hx hb dX5_at_31 rfl (lv_at hl 1 rfl) ?_
    refine va_get (D := (dC, dI)) (ci := 9) (v := .ref (a 1)) (C := RX5) (T := TX5) (N := 5) hx hb hts (fun _ h => gI_wsX50 h) hown hK.1 hP 0 rfl rfl 0 (by decide) (hts _ mG_1_17) (fun _ h9 => h9) rfl dX5_at_32 ?_
    refine lv_iload_n hx hb dX5_at_35 rfl (lv_at hl 0 rfl) ?_
    refine cp_i (va_runV (As := [.int y2]) (rest := []) ⟨hx, hb, hml, hown, hts⟩ (c_X2_has l dC dI a cI cJ xs ys pl kp lp lq lr v0 v1 v2 v3 v4 v5 v6 v7 v8 v9 v10 y2 ) (cwV 1 hts (gG_V mG_7_13 mG_7_14 mG_7_15 mG_1_16 (gG_c mG_7_16 gG_G)) rfl rfl rfl hd_X2_has ⟨Nat.le_of_ble_eq_true rfl, Nat.le_of_ble_eq_true rfl⟩) (pPcV (ci := 6) (q0 := 1) hK hP rfl rfl) rfl rfl hl.1 rfl (lv_room (Nat.le_of_ble_eq_true rfl)) dX5_at_36 ⟨Nat.le_of_ble_eq_true rfl, Nat.le_of_ble_eq_true rfl⟩) hP hS (fun H hP hS => ?_)
    refine lv_if_ne (tgt := 52) hx hb dX5_at_39 (by decide) (fun c3 => ?_) (fun c3 => ?_)
    · skip
      have hi3 : vp_in y2 60 := in_has hv0 c3
      refine lv_iload_n hx hb dX5_at_52 rfl (lv_at hl 3 rfl) ?_
      refine lv_if_ne (tgt := 66) hx hb dX5_at_53 (by decide) (fun c4 => ?_) (fun c4 => ?_)
      · skip
        refine lv_iload_n hx hb dX5_at_66 rfl (lv_at hl 3 rfl) ?_
        refine lv_iconst (v := (1 : Int32)) hx hb dX5_at_67 (by decide) ?_
        refine lv_icmp_ne (tgt := 83) hx hb dX5_at_68 (by decide) (fun c5 => ?_) (fun c5 => ?_)
        · skip
          refine lv_iload_n hx hb dX5_at_83 rfl (lv_at hl 0 rfl) ?_
          have hE : (f_X5_at xs ys pl v0 v5 p1 p2) = ((0 : Int32), y2) := (by subst ey2; simp only [f_X5_at, if_neg c1, if_neg c3, if_neg c4, if_neg c5])
          exact rx_i hQ hx hb hr hlk (by exact hP) hS (by rw [hE]) (by rw [hE]) dX5_at_84
        · skip
          refine lv_aload_n hx hb dX5_at_71 rfl (lv_at hl 1 rfl) ?_
          refine va_get (D := (dC, dI)) (ci := 9) (v := .ref (a 1)) (C := RX5) (T := TX5) (N := 5) hx hb hts (fun _ h => gI_wsX50 h) hown hK.1 hP 0 rfl rfl 0 (by decide) (hts _ mG_1_17) (fun _ h9 => h9) rfl dX5_at_72 ?_
          refine va_get (D := (dC, dI)) (ci := 6) (v := .ref (a 3)) (C := RX2) (T := TX2) (N := 3) hx hb hts (fun _ h => gI_wsX20 h) hown hK.1 hP 1 rfl rfl 1 (by decide) (hts _ mG_9_2) (fun _ h9 => h9) rfl dX5_at_75 ?_
          refine lv_iload_n hx hb dX5_at_78 rfl (lv_at hl 0 rfl) ?_
          refine va_iald hx hb hK.1 hP 3 0 rfl rfl (by first | with_reducible assumption | exact in0_24 | exact in0_60 | decide) dX5_at_79 ?_
          refine lv_goto (tgt := 84) hx hb dX5_at_80 (by decide) ?_
          have hE : (f_X5_at xs ys pl v0 v5 p1 p2) = ((0 : Int32), (ys (Int32.toNatClampNeg y2))) := (by subst ey2; simp only [f_X5_at, if_neg c1, if_neg c3, if_neg c4, if_pos c5])
          exact rx_i hQ hx hb hr hlk (by exact hP) hS (by rw [hE]) (by rw [hE]) dX5_at_84
      · skip
        refine lv_aload_n hx hb dX5_at_56 rfl (lv_at hl 1 rfl) ?_
        refine va_get (D := (dC, dI)) (ci := 9) (v := .ref (a 1)) (C := RX5) (T := TX5) (N := 5) hx hb hts (fun _ h => gI_wsX50 h) hown hK.1 hP 0 rfl rfl 0 (by decide) (hts _ mG_1_17) (fun _ h9 => h9) rfl dX5_at_57 ?_
        refine va_get (D := (dC, dI)) (ci := 6) (v := .ref (a 2)) (C := RX2) (T := TX2) (N := 3) hx hb hts (fun _ h => gI_wsX20 h) hown hK.1 hP 1 rfl rfl 0 (by decide) (hts _ mG_9_1) (fun _ h9 => h9) rfl dX5_at_60 ?_
        refine lv_iload_n hx hb dX5_at_63 rfl (lv_at hl 0 rfl) ?_
        refine va_iald hx hb hK.1 hP 2 0 rfl rfl (by first | with_reducible assumption | exact in0_24 | exact in0_60 | decide) dX5_at_64 ?_
        have hE : (f_X5_at xs ys pl v0 v5 p1 p2) = ((0 : Int32), (xs (Int32.toNatClampNeg y2))) := (by subst ey2; simp only [f_X5_at, if_neg c1, if_neg c3, if_pos c4])
        exact rx_i hQ hx hb hr hlk (by exact hP) hS (by rw [hE]) (by rw [hE]) dX5_at_65
    · skip
      have hE : (f_X5_at xs ys pl v0 v5 p1 p2) = ((2 : Int32), (0 : Int32)) := (by subst ey2; simp only [f_X5_at, if_neg c1, if_pos c3])
      exact tx_P hQ (by rw [hE]) hx hb hlt hown htH hX hS (by rw [hml]; exact hl.1) hlk hP htab (hts _ mG_8_22) (hts _ mG_9_0) (Nat.le_of_ble_eq_true rfl) (Nat.le_of_ble_eq_true rfl) (Nat.le_of_ble_eq_true rfl) (Nat.le_of_ble_eq_true rfl) dX5_at_42 dX5_at_45 dX5_at_46 dX5_at_48 dX5_at_51
  · skip
    have hE : (f_X5_at xs ys pl v0 v5 p1 p2) = ((1 : Int32), (0 : Int32)) := (by simp only [f_X5_at, if_pos c1])
    exact tx hQ (by rw [hE]; exact Or.inl ⟨rfl, rfl⟩) hx hb hlt hown (by decide) (by decide) (hts _ mG_7_10) (hts _ mG_7_12) hX.2.2.2.1 (hat_A htH hX.2.2.2.2.2.2) x_ot_A hX.1 hX.2.1 hS (by rw [hml]; exact hl.1) hlk hP htab (Nat.le_of_ble_eq_true rfl) (Nat.le_of_ble_eq_true rfl) (Nat.le_of_ble_eq_true rfl) (Nat.le_of_ble_eq_true rfl) dX5_at_11 dX5_at_14 dX5_at_15 dX5_at_17 dX5_at_20
/-! X5_area -/
theorem hs_X5_area : yX5_area.cls ≠ "java/lang/invoke/MethodHandle" ∧ yX5_area.cls ≠ "java/lang/invoke/VarHandle" ∧ (parseMethodDescriptor yX5_area.desc).map (fun d => d.parameters.length) = some 2 := by decide +kernel
theorem hd_X5_area : yX5_area.cls = RX5 ∧ yX5_area.cls ≠ "java/lang/invoke/MethodHandle" ∧ yX5_area.cls ≠ "java/lang/invoke/VarHandle" ∧ (parseMethodDescriptor yX5_area.desc).map (fun d => d.parameters.length) = some 2 := ⟨rfl, hs_X5_area⟩
def f_X5_area (xs : Nat → Int32) (ys : Nat → Int32) (pl : Nat → Int32) (v5 : Int32) (p1 : Int32) (p2 : Int64) : Int32 × Int64 := (if (f_X4_fault pl v5 p1 (1 : Int32)) = 0 then (if (lg_cmp p2 (0 : Int64)) = 0 then ((1 : Int32), (0 : Int64)) else ((0 : Int32), ((f_X4_crossSum xs ys pl p1) / p2))) else ((0 : Int32), (0 : Int64)))
abbrev rm_X5_area : Room := { frames := 6, cells := 1, slots := 8, locals := 82 }
set_option maxHeartbeats 8000000 in
set_option maxRecDepth 100000 in
theorem c_X5_area (l : Launch) (dC : Nat → ClassId) (dI : Nat → Nat → Nat) (a : Nat → Nat) (cI cJ : ClassId) (xs : Nat → Int32) (ys : Nat → Int32) (pl : Nat → Int32) (kp : Nat → Int32) (lp : Nat → Int64) (lq : Nat → Int64) (lr : Nat → Int64) (v0 : Int32) (v1 : Int32) (v2 : Int32) (v3 : Int32) (v4 : Int32) (v5 : Int32) (v6 : Int32) (v7 : Int32) (v8 : Int32) (v9 : Int32) (v10 : Int32) (sa : Nat → Nat) (hlt : l.stackTraces = false) (p1 : Int32) (p2 : Int64) (hh : v5 ≤ 24) (hpl : ∀ j : Nat, pl j = -1 ∨ vp_in (pl j) 60) : vx_Met l yX5_area (Cond.code yX5_area cX5_area 4 (some .long) :: lw_H) rm_X5_area (xPc (dC, dI) (tIJ cI cJ) sa (wC a cI cJ xs ys pl kp lp lq lr v0 v1 v2 v3 v4 v5 v6 v7 v8 v9 v10) [.ref (a 0), .int p1, .long p2]) (xQl (dC, dI) (wA (wC a cI cJ xs ys pl kp lp lq lr v0 v1 v2 v3 v4 v5 v6 v7 v8 v9 v10)) (wC a cI cJ xs ys pl kp lp lq lr v0 v1 v2 v3 v4 v5 v6 v7 v8 v9 v10) (f_X5_area xs ys pl v5 p1 p2).1 (f_X5_area xs ys pl v5 p1 p2).2) (xX (dC, dI) (wA (wC a cI cJ xs ys pl kp lp lq lr v0 v1 v2 v3 v4 v5 v6 v7 v8 v9 v10)) (wC a cI cJ xs ys pl kp lp lq lr v0 v1 v2 v3 v4 v5 v6 v7 v8 v9 v10) (f_X5_area xs ys pl v5 p1 p2).1 eR1 eP1) 1 8 (wA (wC a cI cJ xs ys pl kp lp lq lr v0 v1 v2 v3 v4 v5 v6 v7 v8 v9 v10)) := by
  refine xm_of (by decide) (Nat.le_of_ble_eq_true rfl) ?_
  intro p e s m args below meth c Q ls hQ hx hb hr hlk hml hown htH htab hP hK hD hX hS hl
  have hown : s.vm.findClass RX5 = some m.cls := hown
  have hl : lv_has ls 4 [(0, .ref (a 0)), (1, .int p1), (2, .long p2)] := hl
  have hts : ∀ w ∈ lw_G, w.before args s = true := fun w h => htH w (List.mem_append_right _ h)
  generalize hAe : wA (wC a cI cJ xs ys pl kp lp lq lr v0 v1 v2 v3 v4 v5 v6 v7 v8 v9 v10) = A at hQ hD hX hS
  refine lv_aload_n hx hb dX5_area_0 rfl (lv_at hl 0 rfl) ?_
  refine va_get (D := (dC, dI)) (ci := 9) (v := .ref (a 6)) (C := RX5) (T := TX5) (N := 5) hx hb hts (fun _ h => gI_wsX50 h) hown hK.1 hP 0 rfl rfl 3 (by decide) (hts _ mG_2_5) (fun _ h9 => h9) rfl dX5_area_1 ?_
  refine lv_iload_n hx hb dX5_area_4 rfl (lv_at hl 1 rfl) ?_
  refine lv_iconst (v := (1 : Int32)) hx hb dX5_area_5 (by decide) ?_
  refine cp_i (va_runV (As := [.int p1, .int (1 : Int32)]) (rest := []) ⟨hx, hb, hml, hown, hts⟩ (c_X4_fault l dC dI a cI cJ xs ys pl kp lp lq lr v0 v1 v2 v3 v4 v5 v6 v7 v8 v9 v10 p1 (1 : Int32) (by first | with_reducible assumption | exact in0_24 | exact in0_60 | decide)) (cwV 2 hts (gG_V mG_20_3 mG_20_4 mG_20_5 mG_2_4 (gG_c mG_20_6 gG_G)) rfl rfl rfl hd_X4_fault ⟨Nat.le_of_ble_eq_true rfl, Nat.le_of_ble_eq_true rfl⟩) (pPcV (ci := 8) (q0 := 6) hK hP rfl rfl) rfl rfl hl.1 rfl (lv_room (Nat.le_of_ble_eq_true rfl)) dX5_area_6 ⟨Nat.le_of_ble_eq_true rfl, Nat.le_of_ble_eq_true rfl⟩) hP hS (fun H hP hS => ?_)
  refine lv_if_eq (tgt := 14) hx hb dX5_area_9 (by decide) (fun c1 => ?_) (fun c1 => ?_)
  · skip
    obtain ⟨hf1, hn, hv⟩ := ff_spec hh hpl c1
    refine lv_lload_n hx hb dX5_area_14 rfl (lv_at hl 2 rfl) ?_
    refine lv_lconst (v := (0 : Int64)) hx hb dX5_area_15 (by decide) ?_
    refine W.lcmp hx hb dX5_area_16 ?_
    refine lv_if_ne (tgt := 30) hx hb dX5_area_17 (by decide) (fun c2 => ?_) (fun c2 => ?_)
    · skip
      have hz : ¬ p2 = 0 := fun h => c2 (by rw [h]; decide)
      refine lv_aload_n hx hb dX5_area_30 rfl (lv_at hl 0 rfl) ?_
      refine va_get (D := (dC, dI)) (ci := 9) (v := .ref (a 6)) (C := RX5) (T := TX5) (N := 5) hx hb hts (fun _ h => gI_wsX50 h) hown hK.1 hP 0 rfl rfl 3 (by decide) (hts _ mG_2_5) (fun _ h9 => h9) rfl dX5_area_31 ?_
      refine lv_iload_n hx hb dX5_area_34 rfl (lv_at hl 1 rfl) ?_
      refine cp_l (va_runV (As := [.int p1]) (rest := []) ⟨hx, hb, hml, hown, hts⟩ (c_X4_crossSum l dC dI a cI cJ xs ys pl kp lp lq lr v0 v1 v2 v3 v4 v5 v6 v7 v8 v9 v10 p1 (by first | with_reducible assumption | exact in0_24 | exact in0_60 | decide) (by first | with_reducible assumption | exact in0_24 | exact in0_60 | decide)) (cwV 1 hts (gG_V mG_27_0 mG_27_1 mG_27_2 mG_2_4 (gG_c mG_27_3 gG_G)) rfl rfl rfl hd_X4_crossSum ⟨Nat.le_of_ble_eq_true rfl, Nat.le_of_ble_eq_true rfl⟩) (pPcV (ci := 8) (q0 := 6) hK hP rfl rfl) rfl rfl hl.1 rfl (lv_room (Nat.le_of_ble_eq_true rfl)) dX5_area_35 ⟨Nat.le_of_ble_eq_true rfl, Nat.le_of_ble_eq_true rfl⟩) hP hS (fun H hP hS => ?_)
      refine lv_lload_n hx hb dX5_area_38 rfl (lv_at hl 2 rfl) ?_
      refine lv_ldiv hx hb dX5_area_39 (by first | with_reducible assumption | exact in0_24 | exact in0_60 | decide) ?_
      have hE : (f_X5_area xs ys pl v5 p1 p2) = ((0 : Int32), ((f_X4_crossSum xs ys pl p1) / p2)) := (by simp only [f_X5_area, if_pos c1, if_neg c2])
      exact rx_l hQ hx hb hr hlk (by exact hP) hS (by rw [hE]) (by rw [hE]) dX5_area_40
    · skip
      have hE : (f_X5_area xs ys pl v5 p1 p2) = ((1 : Int32), (0 : Int64)) := (by simp only [f_X5_area, if_pos c1, if_pos c2])
      exact tx hQ (by rw [hE]; exact Or.inl ⟨rfl, rfl⟩) hx hb hlt hown (by decide) (by decide) (hts _ mG_26_22) (hts _ mG_26_23) hX.2.2.2.2.1 (hat_R htH hX.2.2.2.2.2.2) x_ot_R hX.1 hX.2.1 hS (by rw [hml]; exact hl.1) hlk hP htab (Nat.le_of_ble_eq_true rfl) (Nat.le_of_ble_eq_true rfl) (Nat.le_of_ble_eq_true rfl) (Nat.le_of_ble_eq_true rfl) dX5_area_20 dX5_area_23 dX5_area_24 dX5_area_26 dX5_area_29
  · skip
    refine lv_lconst (v := (0 : Int64)) hx hb dX5_area_12 (by decide) ?_
    have hE : (f_X5_area xs ys pl v5 p1 p2) = ((0 : Int32), (0 : Int64)) := (by simp only [f_X5_area, if_neg c1])
    exact rx_l hQ hx hb hr hlk (by exact hP) hS (by rw [hE]) (by rw [hE]) dX5_area_13
