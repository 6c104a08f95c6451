/-! X6_size -/
theorem hs_X6_size : yX6_size.cls ≠ "java/lang/invoke/MethodHandle" ∧ yX6_size.cls ≠ "java/lang/invoke/VarHandle" ∧ (parseMethodDescriptor yX6_size.desc).map (fun d => d.parameters.length) = some 1 := by decide +kernel
theorem hd_X6_size : yX6_size.cls = RX6 ∧ yX6_size.cls ≠ "java/lang/invoke/MethodHandle" ∧ yX6_size.cls ≠ "java/lang/invoke/VarHandle" ∧ (parseMethodDescriptor yX6_size.desc).map (fun d => d.parameters.length) = some 1 := ⟨rfl, hs_X6_size⟩
def f_X6_size_L36 (pl : Nat → Int32) (v0 : Int32) (v2 : Int32) (p1 : Int32) (v2 : Int32) : Nat → Int32 → (Nat → Int32) → (Int32 × Int32 × Int32 × (Nat → Int32))
  | 0, _, _ => (0, 0, 0, fun _ => 0)
  | n + 1, x3_36, pl_36 => (if (24 : Int32) ≤ x3_36 then (v2, (0 : Int32), p1, pl_36) else (f_X6_size_L36 pl v0 v2 p1 v2 n (x3_36 + 1) (upd pl_36 (Int32.toNatClampNeg x3_36) (-1 : Int32))))
def f_X6_size (pl : Nat → Int32) (v0 : Int32) (v2 : Int32) (p1 : Int32) : Int32 × Int32 × Int32 × (Nat → Int32) := (if p1 ≤ (24 : Int32) then (if 0 ≤ p1 then (f_X6_size_L36 pl v0 v2 p1 v2 25 (0 : Int32) pl) else (((f_X6_fail (0 : Int32) (1 : Int32)).1), ((f_X6_fail (0 : Int32) (1 : Int32)).2), v2, pl)) else ((-2 : Int32), (0 : Int32), v2, pl))
abbrev rm_X6_size : Room := { frames := 1, cells := 0, slots := 0, locals := 21 }
set_option maxHeartbeats 8000000 in
set_option maxRecDepth 100000 in
theorem c_X6_size (l : Launch) (dC : Nat → ClassId) (dI : Nat → Nat → Nat) (a : Nat → Nat) (cI cJ : ClassId) (xs : Nat → Int32) (ys : Nat → Int32) (pl : Nat → Int32) (lp : Nat → Int64) (lq : Nat → Int64) (lr : Nat → Int64) (v0 : Int32) (v1 : Int32) (v2 : Int32) (v3 : Int32) (v4 : Int32) (v5 : Int32) (v6 : Int32) (v7 : Int32) (p1 : Int32) : Met l yX6_size (Cond.code yX6_size cX6_size 4 (some .int) :: lw_G) rm_X6_size (wPc (dC, dI) (tIJ cI cJ) (wM a cI cJ xs ys pl lp lq lr v0 v1 v2 v3 v4 v5 v6 v7) [.ref (a 0), .int p1]) (wQi (dC, dI) (wA (wM a cI cJ xs ys pl lp lq lr v0 v1 v2 v3 v4 v5 v6 v7)) (wM a cI cJ xs ys ((f_X6_size pl v0 v2 p1).2.2.2) lp lq lr ((f_X6_size pl v0 v2 p1).2.1) v1 ((f_X6_size pl v0 v2 p1).2.2.1) v3 v4 v5 v6 v7) (f_X6_size pl v0 v2 p1).1) 0 0 (wA (wM a cI cJ xs ys pl lp lq lr v0 v1 v2 v3 v4 v5 v6 v7)) := by
  refine wm_of (by decide) (Nat.le_of_ble_eq_true rfl) ?_
  intro p e s m args below meth c Q ls hQ hx hb hr hlk hml hown hts hP hK hD hS hl
  have hown : s.vm.findClass RX6 = some m.cls := hown
  have hl : lv_has ls 4 [(0, .ref (a 0)), (1, .int p1)] := hl
  generalize hAe : wA (wM a cI cJ xs ys pl lp lq lr v0 v1 v2 v3 v4 v5 v6 v7) = A at hQ hD hS
  obtain ⟨F, eF⟩ : ∃ F, F = (f_X6_size pl v0 v2 p1) := ⟨_, rfl⟩
  have hn : (24 : Int32) ≤ 24 := by decide
  refine lv_aload_n hx hb dX6_size_0 rfl (lv_at hl 0 rfl) ?_
  refine lv_iconst (v := (0 : Int32)) hx hb dX6_size_1 (by decide) ?_
  refine va_put (D := (dC, dI)) (ci := 10) (v := .int (0 : Int32)) (ty := .int) (C := RX6) (T := TX6) (N := 14) hx hb hts (fun _ h => gI_wsX60 h) tyX6 tyX6_ok nmX6 hown hK.1 hP hD hS 0 rfl rfl 0 (by decide) (hts _ mG_5_12) (fun _ h9 => h9) rfl (by decide +kernel) rfl rfl (Nat.le_of_ble_eq_true rfl) dX6_size_2 (fun H locs hP hD hS => ?_)
  have hP : va_P (dC, dI) vwCl (wM a cI cJ xs ys pl lp lq lr (0 : Int32) v1 v2 v3 v4 v5 v6 v7) H := hP
  have hD : va_D A (wM a cI cJ xs ys pl lp lq lr (0 : Int32) v1 v2 v3 v4 v5 v6 v7) := hD
  refine lv_iload_n hx hb dX6_size_5 rfl (lv_at hl 1 rfl) ?_
  refine lv_bipush (v := (24 : Int32)) hx hb dX6_size_6 (by decide) ?_
  refine lv_icmp_le (tgt := 14) hx hb dX6_size_8 (by decide) (fun c1 => ?_) (fun c1 => ?_)
  · skip
    refine lv_iload_n hx hb dX6_size_14 rfl (lv_at hl 1 rfl) ?_
    refine lv_if_ge (tgt := 24) hx hb dX6_size_15 (by decide) (fun c2 => ?_) (fun c2 => ?_)
    · skip
      refine lv_aload_n hx hb dX6_size_24 rfl (lv_at hl 0 rfl) ?_
      refine va_get (D := (dC, dI)) (ci := 10) (v := .int v2) (C := RX6) (T := TX6) (N := 14) hx hb hts (fun _ h => gI_wsX60 h) hown hK.1 hP 0 rfl rfl 4 (by decide) (hts _ mG_6_17) (fun _ h9 => h9) rfl dX6_size_25 ?_
      refine lv_istore_n (lv' := [(2, .int v2), (0, .ref (a 0)), (1, .int p1)]) hx hb dX6_size_28 rfl hl (by decide) rfl (fun ls hl => ?_)
      refine lv_aload_n hx hb dX6_size_29 rfl (lv_at hl 1 rfl) ?_
      refine lv_iload_n hx hb dX6_size_30 rfl (lv_at hl 2 rfl) ?_
      refine va_put (D := (dC, dI)) (ci := 10) (v := .int p1) (ty := .int) (C := RX6) (T := TX6) (N := 14) hx hb hts (fun _ h => gI_wsX60 h) tyX6 tyX6_ok nmX6 hown hK.1 hP hD hS 0 rfl rfl 4 (by decide) (hts _ mG_6_17) (fun _ h9 => h9) rfl (by decide +kernel) rfl rfl (Nat.le_of_ble_eq_true rfl) dX6_size_31 (fun H locs hP hD hS => ?_)
      have hP : va_P (dC, dI) vwCl (wM a cI cJ xs ys pl lp lq lr (0 : Int32) v1 p1 v3 v4 v5 v6 v7) H := hP
      have hD : va_D A (wM a cI cJ xs ys pl lp lq lr (0 : Int32) v1 p1 v3 v4 v5 v6 v7) := hD
      refine lv_iconst (v := (0 : Int32)) hx hb dX6_size_34 (by decide) ?_
      refine lv_istore_n (lv' := [(3, .int (0 : Int32)), (2, .int v2), (0, .ref (a 0)), (1, .int p1)]) hx hb dX6_size_35 rfl hl (by decide) rfl (fun ls hl => ?_)
      have K36 : ∀ (n36 : Nat) (x3_36 : Int32) (pl_36 : Nat → Int32), 0 ≤ x3_36 → (((24 : Int32)).toInt - x3_36.toInt).toNat < n36 → F = f_X6_size_L36 pl v0 v2 p1 v2 n36 x3_36 pl_36 → ∀ (H : Heap) (locs : List Loc), va_P (dC, dI) vwCl (wM a cI cJ xs ys pl_36 lp lq lr (0 : Int32) v1 p1 v3 v4 v5 v6 v7) H → va_D A (wM a cI cJ xs ys pl_36 lp lq lr (0 : Int32) v1 p1 v3 v4 v5 v6 v7) → va_S A s.heap H locs → ∀ (ls : Array Slot), lv_has ls 4 [(0, .ref (a 0)), (2, .int v2), (3, .int x3_36)] → W p l e rm_X6_size s m args below meth c H locs 0 0 Q (F0 m 36 ls []) := by
        intro n36
        induction n36 with
        | zero => intro x3_36 pl_36 h0_36 hf_36 hF H locs hP hD hS ls hl; exact absurd hf_36 (Nat.not_lt_zero _)
        | succ n36 ih36 =>
          intro x3_36 pl_36 h0_36 hf_36 hF H locs hP hD hS ls hl
          refine lv_iload_n hx hb dX6_size_36 rfl (lv_at hl 2 rfl) ?_
          refine lv_bipush (v := (24 : Int32)) hx hb dX6_size_37 (by decide) ?_
          refine lv_icmp_ge (tgt := 55) hx hb dX6_size_39 (by decide) (fun c3 => ?_) (fun c3 => ?_)
          · skip
            refine lv_iload_n hx hb dX6_size_55 rfl (lv_at hl 1 rfl) ?_
            have hE : F = (v2, (0 : Int32), p1, pl_36) := (by rw [hF]; simp only [f_X6_size_L36, if_pos c3])
            rw [eF] at hE
            exact rw_i hQ hx hb hr hlk (by rw [hE]; exact hP) hS (by rw [hE]) dX6_size_56
          · skip
            have hI : vp_in x3_36 24 := ix_lt h0_36 c3 hn
            refine lv_aload_n hx hb dX6_size_42 rfl (lv_at hl 0 rfl) ?_
            refine va_get (D := (dC, dI)) (ci := 10) (v := .ref (a 3)) (C := RX6) (T := TX6) (N := 14) hx hb hts (fun _ h => gI_wsX60 h) hown hK.1 hP 0 rfl rfl 5 (by decide) (hts _ mG_4_10) (fun _ h9 => h9) rfl dX6_size_43 ?_
            refine lv_iload_n hx hb dX6_size_46 rfl (lv_at hl 2 rfl) ?_
            refine lv_iconst (v := (-1 : Int32)) hx hb dX6_size_47 (by decide) ?_
            refine va_iast hx hb hK.1 hP hD hS 3 0 rfl rfl (by first | with_reducible assumption | exact in0_24 | exact in0_60 | decide) dX6_size_48 (fun H locs hP hD hS => ?_)
            have hP : va_P (dC, dI) vwCl (wM a cI cJ xs ys (upd pl_36 (Int32.toNatClampNeg x3_36) (-1 : Int32)) lp lq lr (0 : Int32) v1 p1 v3 v4 v5 v6 v7) H := hP
            have hD : va_D A (wM a cI cJ xs ys (upd pl_36 (Int32.toNatClampNeg x3_36) (-1 : Int32)) lp lq lr (0 : Int32) v1 p1 v3 v4 v5 v6 v7) := hD
            refine lv_iinc (v := (x3_36 + 1)) (lv' := [(3, .int (x3_36 + 1)), (0, .ref (a 0)), (2, .int v2)]) hx hb dX6_size_49 hl (k := 2) rfl rfl (by decide) rfl (fun ls hl => ?_)
            refine lv_goto (tgt := 36) hx hb dX6_size_52 (by decide) ?_
            exact ih36 (x3_36 + 1) (upd pl_36 (Int32.toNatClampNeg x3_36) (-1 : Int32)) (lp_pos h0_36 c3) (lp_dec c3 hf_36) (by rw [hF]; simp only [f_X6_size_L36, if_neg c3]) _ _ hP hD hS ls (lv_sub hl [1, 2, 0] rfl)
      exact K36 25 (0 : Int32) pl (by decide) (lp_fuel (by decide) hn) (by rw [eF]; simp only [f_X6_size, if_pos c1, if_pos c2]) _ _ hP hD hS ls (lv_sub hl [2, 1, 0] rfl)
    · skip
      refine lv_aload_n hx hb dX6_size_18 rfl (lv_at hl 0 rfl) ?_
      refine lv_iconst (v := (1 : Int32)) hx hb dX6_size_19 (by decide) ?_
      refine cw_i (va_runV (As := [.int (1 : Int32)]) (rest := []) ⟨hx, hb, hml, hown, hts⟩ (c_X6_fail l dC dI a cI cJ xs ys pl lp lq lr (0 : Int32) v1 v2 v3 v4 v5 v6 v7 (1 : Int32) ) (cwV 1 hts (gG_V mG_6_18 mG_6_19 mG_6_20 mG_1_5 (gG_c mG_6_21 gG_G)) rfl rfl rfl hd_X6_fail ⟨Nat.le_of_ble_eq_true rfl, Nat.le_of_ble_eq_true rfl⟩) (wPcV (ci := 10) (q0 := 0) hK hP hD rfl rfl) rfl rfl hl.1 rfl (lv_room (Nat.le_of_ble_eq_true rfl)) dX6_size_20 ⟨Nat.le_of_ble_eq_true rfl, Nat.le_of_ble_eq_true rfl⟩) (wA.sub hD) hS (fun H locs hP hk1 hS => ?_)
      have hD := hD.addr (w1 := (wM a cI cJ xs ys pl lp lq lr ((f_X6_fail (0 : Int32) (1 : Int32)).2) v1 v2 v3 v4 v5 v6 v7)) rfl
      have hE : (f_X6_size pl v0 v2 p1) = (((f_X6_fail (0 : Int32) (1 : Int32)).1), ((f_X6_fail (0 : Int32) (1 : Int32)).2), v2, pl) := (by simp only [f_X6_size, if_pos c1, if_neg c2])
      exact rw_i hQ hx hb hr hlk (by rw [hE]; exact hP) hS (by rw [hE]) dX6_size_23
  · skip
    refine lv_bipush (v := (-2 : Int32)) hx hb dX6_size_11 (by decide) ?_
    have hE : (f_X6_size pl v0 v2 p1) = ((-2 : Int32), (0 : Int32), v2, pl) := (by simp only [f_X6_size, if_neg c1])
    exact rw_i hQ hx hb hr hlk (by rw [hE]; exact hP) hS (by rw [hE]) dX6_size_13
/-! X6_of -/
theorem hs_X6_of : yX6_of.cls ≠ "java/lang/invoke/MethodHandle" ∧ yX6_of.cls ≠ "java/lang/invoke/VarHandle" ∧ (parseMethodDescriptor yX6_of.desc).map (fun d => d.parameters.length) = some 2 := by decide +kernel
theorem hd_X6_of : yX6_of.cls = RX6 ∧ yX6_of.cls ≠ "java/lang/invoke/MethodHandle" ∧ yX6_of.cls ≠ "java/lang/invoke/VarHandle" ∧ (parseMethodDescriptor yX6_of.desc).map (fun d => d.parameters.length) = some 2 := ⟨rfl, hs_X6_of⟩
def f_X6_of (pl : Nat → Int32) (v0 : Int32) (v1 : Int32) (v2 : Int32) (p1 : Int32) (p2 : Int32) : Int32 × Int32 × (Nat → Int32) := (if p2 = (-1 : Int32) then (if (f_X6_isPlace v2 p1) = 0 then (((f_X6_fail (0 : Int32) (1 : Int32)).1), ((f_X6_fail (0 : Int32) (1 : Int32)).2), pl) else ((pl (Int32.toNatClampNeg p1)), (0 : Int32), (upd pl (Int32.toNatClampNeg p1) p2))) else (if (f_X6_isPoint v1 p2) = 0 then ((-2 : Int32), (0 : Int32), pl) else (if (f_X6_isPlace v2 p1) = 0 then (((f_X6_fail (0 : Int32) (1 : Int32)).1), ((f_X6_fail (0 : Int32) (1 : Int32)).2), pl) else ((pl (Int32.toNatClampNeg p1)), (0 : Int32), (upd pl (Int32.toNatClampNeg p1) p2)))))
abbrev rm_X6_of : Room := { frames := 1, cells := 0, slots := 0, locals := 21 }
set_option maxHeartbeats 8000000 in
set_option maxRecDepth 100000 in
theorem c_X6_of (l : Launch) (dC : Nat → ClassId) (dI : Nat → Nat → Nat) (a : Nat → Nat) (cI cJ : ClassId) (xs : Nat → Int32) (ys : Nat → Int32) (pl : Nat → Int32) (lp : Nat → Int64) (lq : Nat → Int64) (lr : Nat → Int64) (v0 : Int32) (v1 : Int32) (v2 : Int32) (v3 : Int32) (v4 : Int32) (v5 : Int32) (v6 : Int32) (v7 : Int32) (p1 : Int32) (p2 : Int32) (hh : v2 ≤ 24) : Met l yX6_of (Cond.code yX6_of cX6_of 4 (some .int) :: lw_G) rm_X6_of (wPc (dC, dI) (tIJ cI cJ) (wM a cI cJ xs ys pl lp lq lr v0 v1 v2 v3 v4 v5 v6 v7) [.ref (a 0), .int p1, .int p2]) (wQi (dC, dI) (wA (wM a cI cJ xs ys pl lp lq lr v0 v1 v2 v3 v4 v5 v6 v7)) (wM a cI cJ xs ys ((f_X6_of pl v0 v1 v2 p1 p2).2.2) lp lq lr ((f_X6_of pl v0 v1 v2 p1 p2).2.1) v1 v2 v3 v4 v5 v6 v7) (f_X6_of pl v0 v1 v2 p1 p2).1) 0 0 (wA (wM a cI cJ xs ys pl lp lq lr v0 v1 v2 v3 v4 v5 v6 v7)) := by
  refine wm_of (by decide) (Nat.le_of_ble_eq_true rfl) ?_
  intro p e s m args below meth c Q ls hQ hx hb hr hlk hml hown hts hP hK hD hS hl
  have hown : s.vm.findClass RX6 = some m.cls := hown
  have hl : lv_has ls 4 [(0, .ref (a 0)), (1, .int p1), (2, .int p2)] := hl
  generalize hAe : wA (wM a cI cJ xs ys pl lp lq lr v0 v1 v2 v3 v4 v5 v6 v7) = A at hQ hD hS
  refine lv_aload_n hx hb dX6_of_0 rfl (lv_at hl 0 rfl) ?_
  refine lv_iconst (v := (0 : Int32)) hx hb dX6_of_1 (by decide) ?_
  refine va_put (D := (dC, dI)) (ci := 10) (v := .int (0 : Int32)) (ty := .int) (C := RX6) (T := TX6) (N := 14) hx hb hts (fun _ h => gI_wsX60 h) tyX6 tyX6_ok nmX6 hown hK.1 hP hD hS 0 rfl rfl 0 (by decide) (hts _ mG_5_12) (fun _ h9 => h9) rfl (by decide +kernel) rfl rfl (Nat.le_of_ble_eq_true rfl) dX6_of_2 (fun H locs hP hD hS => ?_)
  have hP : va_P (dC, dI) vwCl (wM a cI cJ xs ys pl lp lq lr (0 : Int32) v1 v2 v3 v4 v5 v6 v7) H := hP
  have hD : va_D A (wM a cI cJ xs ys pl lp lq lr (0 : Int32) v1 v2 v3 v4 v5 v6 v7) := hD
  refine lv_iload_n hx hb dX6_of_5 rfl (lv_at hl 2 rfl) ?_
  refine lv_iconst (v := (-1 : Int32)) hx hb dX6_of_6 (by decide) ?_
  refine lv_icmp_eq (tgt := 21) hx hb dX6_of_7 (by decide) (fun c1 => ?_) (fun c1 => ?_)
  · skip
    refine lv_aload_n hx hb dX6_of_21 rfl (lv_at hl 0 rfl) ?_
    refine lv_iload_n hx hb dX6_of_22 rfl (lv_at hl 1 rfl) ?_
    refine cp_i (va_runV (As := [.int p1]) (rest := []) ⟨hx, hb, hml, hown, hts⟩ (c_X6_isPlace l dC dI a cI cJ xs ys pl lp lq lr (0 : Int32) v1 v2 v3 v4 v5 v6 v7 p1 ) (cwV 1 hts (gG_V mG_8_9 mG_8_10 mG_8_11 mG_1_5 (gG_c mG_8_12 gG_G)) rfl rfl rfl hd_X6_isPlace ⟨Nat.le_of_ble_eq_true rfl, Nat.le_of_ble_eq_true rfl⟩) (pPcV (ci := 10) (q0 := 0) hK hP rfl rfl) rfl rfl hl.1 rfl (lv_room (Nat.le_of_ble_eq_true rfl)) dX6_of_23 ⟨Nat.le_of_ble_eq_true rfl, Nat.le_of_ble_eq_true rfl⟩) hP hS (fun H hP hS => ?_)
    refine lv_if_ne (tgt := 35) hx hb dX6_of_26 (by decide) (fun c2 => ?_) (fun c2 => ?_)
    · skip
      have hI : vp_in p1 24 := in_place hh c2
      refine lv_aload_n hx hb dX6_of_35 rfl (lv_at hl 0 rfl) ?_
      refine va_get (D := (dC, dI)) (ci := 10) (v := .ref (a 3)) (C := RX6) (T := TX6) (N := 14) hx hb hts (fun _ h => gI_wsX60 h) hown hK.1 hP 0 rfl rfl 5 (by decide) (hts _ mG_4_10) (fun _ h9 => h9) rfl dX6_of_36 ?_
      refine lv_iload_n hx hb dX6_of_39 rfl (lv_at hl 1 rfl) ?_
      refine va_iald hx hb hK.1 hP 3 0 rfl rfl (by first | with_reducible assumption | exact in0_24 | exact in0_60 | decide) dX6_of_40 ?_
      refine lv_topi (fun y3 ey3 => ?_)
      refine lv_istore_n (lv' := [(3, .int y3), (0, .ref (a 0)), (1, .int p1), (2, .int p2)]) hx hb dX6_of_41 rfl hl (by decide) rfl (fun ls hl => ?_)
      refine lv_aload_n hx hb dX6_of_42 rfl (lv_at hl 1 rfl) ?_
      refine va_get (D := (dC, dI)) (ci := 10) (v := .ref (a 3)) (C := RX6) (T := TX6) (N := 14) hx hb hts (fun _ h => gI_wsX60 h) hown hK.1 hP 0 rfl rfl 5 (by decide) (hts _ mG_4_10) (fun _ h9 => h9) rfl dX6_of_43 ?_
      refine lv_iload_n hx hb dX6_of_46 rfl (lv_at hl 2 rfl) ?_
      refine lv_iload_n hx hb dX6_of_47 rfl (lv_at hl 3 rfl) ?_
      refine va_iast hx hb hK.1 hP hD hS 3 0 rfl rfl (by first | with_reducible assumption | exact in0_24 | exact in0_60 | decide) dX6_of_48 (fun H locs hP hD hS => ?_)
      have hP : va_P (dC, dI) vwCl (wM a cI cJ xs ys (upd pl (Int32.toNatClampNeg p1) p2) lp lq lr (0 : Int32) v1 v2 v3 v4 v5 v6 v7) H := hP
      have hD : va_D A (wM a cI cJ xs ys (upd pl (Int32.toNatClampNeg p1) p2) lp lq lr (0 : Int32) v1 v2 v3 v4 v5 v6 v7) := hD
      refine lv_iload_n hx hb dX6_of_49 rfl (lv_at hl 0 rfl) ?_
      have hE : (f_X6_of pl v0 v1 v2 p1 p2) = (y3, (0 : Int32), (upd pl (Int32.toNatClampNeg p1) p2)) := (by subst ey3; simp only [f_X6_of, if_pos c1, if_neg c2])
      exact rw_i hQ hx hb hr hlk (by rw [hE]; exact hP) hS (by rw [hE]) dX6_of_50
    · skip
      refine lv_aload_n hx hb dX6_of_29 rfl (lv_at hl 0 rfl) ?_
      refine lv_iconst (v := (1 : Int32)) hx hb dX6_of_30 (by decide) ?_
      refine cw_i (va_runV (As := [.int (1 : Int32)]) (rest := []) ⟨hx, hb, hml, hown, hts⟩ (c_X6_fail l dC dI a cI cJ xs ys pl lp lq lr (0 : Int32) v1 v2 v3 v4 v5 v6 v7 (1 : Int32) ) (cwV 1 hts (gG_V mG_6_18 mG_6_19 mG_6_20 mG_1_5 (gG_c mG_6_21 gG_G)) rfl rfl rfl hd_X6_fail ⟨Nat.le_of_ble_eq_true rfl, Nat.le_of_ble_eq_true rfl⟩) (wPcV (ci := 10) (q0 := 0) hK hP hD rfl rfl) rfl rfl hl.1 rfl (lv_room (Nat.le_of_ble_eq_true rfl)) dX6_of_31 ⟨Nat.le_of_ble_eq_true rfl, Nat.le_of_ble_eq_true rfl⟩) (wA.sub hD) hS (fun H locs hP hk1 hS => ?_)
      have hD := hD.addr (w1 := (wM a cI cJ xs ys pl lp lq lr ((f_X6_fail (0 : Int32) (1 : Int32)).2) v1 v2 v3 v4 v5 v6 v7)) rfl
      have hE : (f_X6_of pl v0 v1 v2 p1 p2) = (((f_X6_fail (0 : Int32) (1 : Int32)).1), ((f_X6_fail (0 : Int32) (1 : Int32)).2), pl) := (by simp only [f_X6_of, if_pos c1, if_pos c2])
      exact rw_i hQ hx hb hr hlk (by rw [hE]; exact hP) hS (by rw [hE]) dX6_of_34
  · skip
    refine lv_aload_n hx hb dX6_of_10 rfl (lv_at hl 0 rfl) ?_
    refine lv_iload_n hx hb dX6_of_11 rfl (lv_at hl 2 rfl) ?_
    refine cp_i (va_runV (As := [.int p2]) (rest := []) ⟨hx, hb, hml, hown, hts⟩ (c_X6_isPoint l dC dI a cI cJ xs ys pl lp lq lr (0 : Int32) v1 v2 v3 v4 v5 v6 v7 p2 ) (cwV 1 hts (gG_V mG_8_5 mG_8_6 mG_8_7 mG_1_5 (gG_c mG_8_8 gG_G)) rfl rfl rfl hd_X6_isPoint ⟨Nat.le_of_ble_eq_true rfl, Nat.le_of_ble_eq_true rfl⟩) (pPcV (ci := 10) (q0 := 0) hK hP rfl rfl) rfl rfl hl.1 rfl (lv_room (Nat.le_of_ble_eq_true rfl)) dX6_of_12 ⟨Nat.le_of_ble_eq_true rfl, Nat.le_of_ble_eq_true rfl⟩) hP hS (fun H hP hS => ?_)
    refine lv_if_ne (tgt := 21) hx hb dX6_of_15 (by decide) (fun c4 => ?_) (fun c4 => ?_)
    · skip
      refine lv_aload_n hx hb dX6_of_21 rfl (lv_at hl 0 rfl) ?_
      refine lv_iload_n hx hb dX6_of_22 rfl (lv_at hl 1 rfl) ?_
      refine cp_i (va_runV (As := [.int p1]) (rest := []) ⟨hx, hb, hml, hown, hts⟩ (c_X6_isPlace l dC dI a cI cJ xs ys pl lp lq lr (0 : Int32) v1 v2 v3 v4 v5 v6 v7 p1 ) (cwV 1 hts (gG_V mG_8_9 mG_8_10 mG_8_11 mG_1_5 (gG_c mG_8_12 gG_G)) rfl rfl rfl hd_X6_isPlace ⟨Nat.le_of_ble_eq_true rfl, Nat.le_of_ble_eq_true rfl⟩) (pPcV (ci := 10) (q0 := 0) hK hP rfl rfl) rfl rfl hl.1 rfl (lv_room (Nat.le_of_ble_eq_true rfl)) dX6_of_23 ⟨Nat.le_of_ble_eq_true rfl, Nat.le_of_ble_eq_true rfl⟩) hP hS (fun H hP hS => ?_)
      refine lv_if_ne (tgt := 35) hx hb dX6_of_26 (by decide) (fun c5 => ?_) (fun c5 => ?_)
      · skip
        have hI : vp_in p1 24 := in_place hh c5
        refine lv_aload_n hx hb dX6_of_35 rfl (lv_at hl 0 rfl) ?_
        refine va_get (D := (dC, dI)) (ci := 10) (v := .ref (a 3)) (C := RX6) (T := TX6) (N := 14) hx hb hts (fun _ h => gI_wsX60 h) hown hK.1 hP 0 rfl rfl 5 (by decide) (hts _ mG_4_10) (fun _ h9 => h9) rfl dX6_of_36 ?_
        refine lv_iload_n hx hb dX6_of_39 rfl (lv_at hl 1 rfl) ?_
        refine va_iald hx hb hK.1 hP 3 0 rfl rfl (by first | with_reducible assumption | exact in0_24 | exact in0_60 | decide) dX6_of_40 ?_
        refine lv_topi (fun y6 ey6 => ?_)
        refine lv_istore_n (lv' := [(3, .int y6), (0, .ref (a 0)), (1, .int p1), (2, .int p2)]) hx hb dX6_of_41 rfl hl (by decide) rfl (fun ls hl => ?_)
        refine lv_aload_n hx hb dX6_of_42 rfl (lv_at hl 1 rfl) ?_
        refine va_get (D := (dC, dI)) (ci := 10) (v := .ref (a 3)) (C := RX6) (T := TX6) (N := 14) hx hb hts (fun _ h => gI_wsX60 h) hown hK.1 hP 0 rfl rfl 5 (by decide) (hts _ mG_4_10) (fun _ h9 => h9) rfl dX6_of_43 ?_
        refine lv_iload_n hx hb dX6_of_46 rfl (lv_at hl 2 rfl) ?_
        refine lv_iload_n hx hb dX6_of_47 rfl (lv_at hl 3 rfl) ?_
        refine va_iast hx hb hK.1 hP hD hS 3 0 rfl rfl (by first | with_reducible assumption | exact in0_24 | exact in0_60 | decide) dX6_of_48 (fun H locs hP hD hS => ?_)
        have hP : va_P (dC, dI) vwCl (wM a cI cJ xs ys (upd pl (Int32.toNatClampNeg p1) p2) lp lq lr (0 : Int32) v1 v2 v3 v4 v5 v6 v7) H := hP
        have hD : va_D A (wM a cI cJ xs ys (upd pl (Int32.toNatClampNeg p1) p2) lp lq lr (0 : Int32) v1 v2 v3 v4 v5 v6 v7) := hD
        refine lv_iload_n hx hb dX6_of_49 rfl (lv_at hl 0 rfl) ?_
        have hE : (f_X6_of pl v0 v1 v2 p1 p2) = (y6, (0 : Int32), (upd pl (Int32.toNatClampNeg p1) p2)) := (by subst ey6; simp only [f_X6_of, if_neg c1, if_neg c4, if_neg c5])
        exact rw_i hQ hx hb hr hlk (by rw [hE]; exact hP) hS (by rw [hE]) dX6_of_50
      · skip
        refine lv_aload_n hx hb dX6_of_29 rfl (lv_at hl 0 rfl) ?_
        refine lv_iconst (v := (1 : Int32)) hx hb dX6_of_30 (by decide) ?_
        refine cw_i (va_runV (As := [.int (1 : Int32)]) (rest := []) ⟨hx, hb, hml, hown, hts⟩ (c_X6_fail l dC dI a cI cJ xs ys pl lp lq lr (0 : Int32) v1 v2 v3 v4 v5 v6 v7 (1 : Int32) ) (cwV 1 hts (gG_V mG_6_18 mG_6_19 mG_6_20 mG_1_5 (gG_c mG_6_21 gG_G)) rfl rfl rfl hd_X6_fail ⟨Nat.le_of_ble_eq_true rfl, Nat.le_of_ble_eq_true rfl⟩) (wPcV (ci := 10) (q0 := 0) hK hP hD rfl rfl) rfl rfl hl.1 rfl (lv_room (Nat.le_of_ble_eq_true rfl)) dX6_of_31 ⟨Nat.le_of_ble_eq_true rfl, Nat.le_of_ble_eq_true rfl⟩) (wA.sub hD) hS (fun H locs hP hk1 hS => ?_)
        have hD := hD.addr (w1 := (wM a cI cJ xs ys pl lp lq lr ((f_X6_fail (0 : Int32) (1 : Int32)).2) v1 v2 v3 v4 v5 v6 v7)) rfl
        have hE : (f_X6_of pl v0 v1 v2 p1 p2) = (((f_X6_fail (0 : Int32) (1 : Int32)).1), ((f_X6_fail (0 : Int32) (1 : Int32)).2), pl) := (by simp only [f_X6_of, if_neg c1, if_neg c4, if_pos c5])
        exact rw_i hQ hx hb hr hlk (by rw [hE]; exact hP) hS (by rw [hE]) dX6_of_34
    · skip
      refine lv_bipush (v := (-2 : Int32)) hx hb dX6_of_18 (by decide) ?_
      have hE : (f_X6_of pl v0 v1 v2 p1 p2) = ((-2 : Int32), (0 : Int32), pl) := (by simp only [f_X6_of, if_neg c1, if_pos c4])
      exact rw_i hQ hx hb hr hlk (by rw [hE]; exact hP) hS (by rw [hE]) dX6_of_20
/-! X6_at -/
theorem hs_X6_at : yX6_at.cls ≠ "java/lang/invoke/MethodHandle" ∧ yX6_at.cls ≠ "java/lang/invoke/VarHandle" ∧ (parseMethodDescriptor yX6_at.desc).map (fun d => d.parameters.length) = some 2 := by decide +kernel
theorem hd_X6_at : yX6_at.cls = RX6 ∧ yX6_at.cls ≠ "java/lang/invoke/MethodHandle" ∧ yX6_at.cls ≠ "java/lang/invoke/VarHandle" ∧ (parseMethodDescriptor yX6_at.desc).map (fun d => d.parameters.length) = some 2 := ⟨rfl, hs_X6_at⟩
def f_X6_at (xs : Nat → Int32) (ys : Nat → Int32) (pl : Nat → Int32) (v0 : Int32) (v2 : Int32) (p1 : Int32) (p2 : Int32) : Int32 × Int32 := (if (f_X6_isPlace v2 p1) = 0 then (((f_X6_fail (0 : Int32) (1 : Int32)).1), ((f_X6_fail (0 : Int32) (1 : Int32)).2)) else (if (pl (Int32.toNatClampNeg p1)) = (-1 : Int32) then (((f_X6_fail (0 : Int32) (2 : Int32)).1), ((f_X6_fail (0 : Int32) (2 : Int32)).2)) else (if p2 = 0 then ((xs (Int32.toNatClampNeg (pl (Int32.toNatClampNeg p1)))), (0 : Int32)) else (if p2 = (1 : Int32) then ((ys (Int32.toNatClampNeg (pl (Int32.toNatClampNeg p1)))), (0 : Int32)) else ((pl (Int32.toNatClampNeg p1)), (0 : Int32))))))
abbrev rm_X6_at : Room := { frames := 1, cells := 0, slots := 0, locals := 21 }
set_option maxHeartbeats 8000000 in
set_option maxRecDepth 100000 in
theorem c_X6_at (l : Launch) (dC : Nat → ClassId) (dI : Nat → Nat → Nat) (a : Nat → Nat) (cI cJ : ClassId) (xs : Nat → Int32) (ys : Nat → Int32) (pl : Nat → Int32) (lp : Nat → Int64) (lq : Nat → Int64) (lr : Nat → Int64) (v0 : Int32) (v1 : Int32) (v2 : Int32) (v3 : Int32) (v4 : Int32) (v5 : Int32) (v6 : Int32) (v7 : Int32) (p1 : Int32) (p2 : Int32) (hh : v2 ≤ 24) (hpl : ∀ j : Nat, pl j = -1 ∨ vp_in (pl j) 60) : Met l yX6_at (Cond.code yX6_at cX6_at 3 (some .int) :: lw_G) rm_X6_at (wPc (dC, dI) (tIJ cI cJ) (wM a cI cJ xs ys pl lp lq lr v0 v1 v2 v3 v4 v5 v6 v7) [.ref (a 0), .int p1, .int p2]) (wQi (dC, dI) (wA (wM a cI cJ xs ys pl lp lq lr v0 v1 v2 v3 v4 v5 v6 v7)) (wM a cI cJ xs ys pl lp lq lr ((f_X6_at xs ys pl v0 v2 p1 p2).2) v1 v2 v3 v4 v5 v6 v7) (f_X6_at xs ys pl v0 v2 p1 p2).1) 0 0 (wA (wM a cI cJ xs ys pl lp lq lr v0 v1 v2 v3 v4 v5 v6 v7)) := by
  refine wm_of (by decide) (Nat.le_of_ble_eq_true rfl) ?_
  intro p e s m args below meth c Q ls hQ hx hb hr hlk hml hown hts hP hK hD hS hl
  have hown : s.vm.findClass RX6 = some m.cls := hown
  have hl : lv_has ls 3 [(0, .ref (a 0)), (1, .int p1), (2, .int p2)] := hl
  generalize hAe : wA (wM a cI cJ xs ys pl lp lq lr v0 v1 v2 v3 v4 v5 v6 v7) = A at hQ hD hS
  refine lv_aload_n hx hb dX6_at_0 rfl (lv_at hl 0 rfl) ?_
  refine lv_iconst (v := (0 : Int32)) hx hb dX6_at_1 (by decide) ?_
  refine va_put (D := (dC, dI)) (ci := 10) (v := .int (0 : Int32)) (ty := .int) (C := RX6) (T := TX6) (N := 14) hx hb hts (fun _ h => gI_wsX60 h) tyX6 tyX6_ok nmX6 hown hK.1 hP hD hS 0 rfl rfl 0 (by decide) (hts _ mG_5_12) (fun _ h9 => h9) rfl (by decide +kernel) rfl rfl (Nat.le_of_ble_eq_true rfl) dX6_at_2 (fun H locs hP hD hS => ?_)
  have hP : va_P (dC, dI) vwCl (wM a cI cJ xs ys pl lp lq lr (0 : Int32) v1 v2 v3 v4 v5 v6 v7) H := hP
  have hD : va_D A (wM a cI cJ xs ys pl lp lq lr (0 : Int32) v1 v2 v3 v4 v5 v6 v7) := hD
  refine lv_aload_n hx hb dX6_at_5 rfl (lv_at hl 0 rfl) ?_
  refine lv_iload_n hx hb dX6_at_6 rfl (lv_at hl 1 rfl) ?_
  refine cp_i (va_runV (As := [.int p1]) (rest := []) ⟨hx, hb, hml, hown, hts⟩ (c_X6_isPlace l dC dI a cI cJ xs ys pl lp lq lr (0 : Int32) v1 v2 v3 v4 v5 v6 v7 p1 ) (cwV 1 hts (gG_V mG_8_9 mG_8_10 mG_8_11 mG_1_5 (gG_c mG_8_12 gG_G)) rfl rfl rfl hd_X6_isPlace ⟨Nat.le_of_ble_eq_true rfl, Nat.le_of_ble_eq_true rfl⟩) (pPcV (ci := 10) (q0 := 0) hK hP rfl rfl) rfl rfl hl.1 rfl (lv_room (Nat.le_of_ble_eq_true rfl)) dX6_at_7 ⟨Nat.le_of_ble_eq_true rfl, Nat.le_of_ble_eq_true rfl⟩) hP hS (fun H hP hS => ?_)
  refine lv_if_ne (tgt := 19) hx hb dX6_at_10 (by decide) (fun c1 => ?_) (fun c1 => ?_)
  · skip
    have hI : vp_in p1 24 := in_place hh c1
    refine lv_aload_n hx hb dX6_at_19 rfl (lv_at hl 0 rfl) ?_
    refine va_get (D := (dC, dI)) (ci := 10) (v := .ref (a 3)) (C := RX6) (T := TX6) (N := 14) hx hb hts (fun _ h => gI_wsX60 h) hown hK.1 hP 0 rfl rfl 5 (by decide) (hts _ mG_4_10) (fun _ h9 => h9) rfl dX6_at_20 ?_
    refine lv_iload_n hx hb dX6_at_23 rfl (lv_at hl 1 rfl) ?_
    refine va_iald hx hb hK.1 hP 3 0 rfl rfl (by first | with_reducible assumption | exact in0_24 | exact in0_60 | decide) dX6_at_24 ?_
    refine lv_iconst (v := (-1 : Int32)) hx hb dX6_at_25 (by decide) ?_
    refine lv_icmp_ne (tgt := 35) hx hb dX6_at_26 (by decide) (fun c2 => ?_) (fun c2 => ?_)
    · skip
      have hr1 := (hpl _).resolve_left c2
      refine lv_iload_n hx hb dX6_at_35 rfl (lv_at hl 2 rfl) ?_
      refine lv_if_ne (tgt := 53) hx hb dX6_at_36 (by decide) (fun c3 => ?_) (fun c3 => ?_)
      · skip
        refine lv_iload_n hx hb dX6_at_53 rfl (lv_at hl 2 rfl) ?_
        refine lv_iconst (v := (1 : Int32)) hx hb dX6_at_54 (by decide) ?_
        refine lv_icmp_ne (tgt := 72) hx hb dX6_at_55 (by decide) (fun c4 => ?_) (fun c4 => ?_)
        · skip
          refine lv_aload_n hx hb dX6_at_72 rfl (lv_at hl 0 rfl) ?_
          refine va_get (D := (dC, dI)) (ci := 10) (v := .ref (a 3)) (C := RX6) (T := TX6) (N := 14) hx hb hts (fun _ h => gI_wsX60 h) hown hK.1 hP 0 rfl rfl 5 (by decide) (hts _ mG_4_10) (fun _ h9 => h9) rfl dX6_at_73 ?_
          refine lv_iload_n hx hb dX6_at_76 rfl (lv_at hl 1 rfl) ?_
          refine va_iald hx hb hK.1 hP 3 0 rfl rfl (by first | with_reducible assumption | exact in0_24 | exact in0_60 | decide) dX6_at_77 ?_
          have hE : (f_X6_at xs ys pl v0 v2 p1 p2) = ((pl (Int32.toNatClampNeg p1)), (0 : Int32)) := (by simp only [f_X6_at, if_neg c1, if_neg c2, if_neg c3, if_neg c4])
          exact rw_i hQ hx hb hr hlk (by rw [hE]; exact hP) hS (by rw [hE]) dX6_at_78
        · skip
          refine lv_aload_n hx hb dX6_at_58 rfl (lv_at hl 0 rfl) ?_
          refine va_get (D := (dC, dI)) (ci := 10) (v := .ref (a 2)) (C := RX6) (T := TX6) (N := 14) hx hb hts (fun _ h => gI_wsX60 h) hown hK.1 hP 0 rfl rfl 3 (by decide) (hts _ mG_4_9) (fun _ h9 => h9) rfl dX6_at_59 ?_
          refine lv_aload_n hx hb dX6_at_62 rfl (lv_at hl 0 rfl) ?_
          refine va_get (D := (dC, dI)) (ci := 10) (v := .ref (a 3)) (C := RX6) (T := TX6) (N := 14) hx hb hts (fun _ h => gI_wsX60 h) hown hK.1 hP 0 rfl rfl 5 (by decide) (hts _ mG_4_10) (fun _ h9 => h9) rfl dX6_at_63 ?_
          refine lv_iload_n hx hb dX6_at_66 rfl (lv_at hl 1 rfl) ?_
          refine va_iald hx hb hK.1 hP 3 0 rfl rfl (by first | with_reducible assumption | exact in0_24 | exact in0_60 | decide) dX6_at_67 ?_
          refine va_iald hx hb hK.1 hP 2 0 rfl rfl (by first | with_reducible assumption | exact in0_24 | exact in0_60 | decide) dX6_at_68 ?_
          refine lv_goto (tgt := 78) hx hb dX6_at_69 (by decide) ?_
          have hE : (f_X6_at xs ys pl v0 v2 p1 p2) = ((ys (Int32.toNatClampNeg (pl (Int32.toNatClampNeg p1)))), (0 : Int32)) := (by simp only [f_X6_at, if_neg c1, if_neg c2, if_neg c3, if_pos c4])
          exact rw_i hQ hx hb hr hlk (by rw [hE]; exact hP) hS (by rw [hE]) dX6_at_78
      · skip
        refine lv_aload_n hx hb dX6_at_39 rfl (lv_at hl 0 rfl) ?_
        refine va_get (D := (dC, dI)) (ci := 10) (v := .ref (a 1)) (C := RX6) (T := TX6) (N := 14) hx hb hts (fun _ h => gI_wsX60 h) hown hK.1 hP 0 rfl rfl 2 (by decide) (hts _ mG_4_8) (fun _ h9 => h9) rfl dX6_at_40 ?_
        refine lv_aload_n hx hb dX6_at_43 rfl (lv_at hl 0 rfl) ?_
        refine va_get (D := (dC, dI)) (ci := 10) (v := .ref (a 3)) (C := RX6) (T := TX6) (N := 14) hx hb hts (fun _ h => gI_wsX60 h) hown hK.1 hP 0 rfl rfl 5 (by decide) (hts _ mG_4_10) (fun _ h9 => h9) rfl dX6_at_44 ?_
        refine lv_iload_n hx hb dX6_at_47 rfl (lv_at hl 1 rfl) ?_
        refine va_iald hx hb hK.1 hP 3 0 rfl rfl (by first | with_reducible assumption | exact in0_24 | exact in0_60 | decide) dX6_at_48 ?_
        refine va_iald hx hb hK.1 hP 1 0 rfl rfl (by first | with_reducible assumption | exact in0_24 | exact in0_60 | decide) dX6_at_49 ?_
        refine lv_goto (tgt := 78) hx hb dX6_at_50 (by decide) ?_
        have hE : (f_X6_at xs ys pl v0 v2 p1 p2) = ((xs (Int32.toNatClampNeg (pl (Int32.toNatClampNeg p1)))), (0 : Int32)) := (by simp only [f_X6_at, if_neg c1, if_neg c2, if_pos c3])
        exact rw_i hQ hx hb hr hlk (by rw [hE]; exact hP) hS (by rw [hE]) dX6_at_78
    · skip
      refine lv_aload_n hx hb dX6_at_29 rfl (lv_at hl 0 rfl) ?_
      refine lv_iconst (v := (2 : Int32)) hx hb dX6_at_30 (by decide) ?_
      refine cw_i (va_runV (As := [.int (2 : Int32)]) (rest := []) ⟨hx, hb, hml, hown, hts⟩ (c_X6_fail l dC dI a cI cJ xs ys pl lp lq lr (0 : Int32) v1 v2 v3 v4 v5 v6 v7 (2 : Int32) ) (cwV 1 hts (gG_V mG_6_18 mG_6_19 mG_6_20 mG_1_5 (gG_c mG_6_21 gG_G)) rfl rfl rfl hd_X6_fail ⟨Nat.le_of_ble_eq_true rfl, Nat.le_of_ble_eq_true rfl⟩) (wPcV (ci := 10) (q0 := 0) hK hP hD rfl rfl) rfl rfl hl.1 rfl (lv_room (Nat.le_of_ble_eq_true rfl)) dX6_at_31 ⟨Nat.le_of_ble_eq_true rfl, Nat.le_of_ble_eq_true rfl⟩) (wA.sub hD) hS (fun H locs hP hk1 hS => ?_)
      have hD := hD.addr (w1 := (wM a cI cJ xs ys pl lp lq lr ((f_X6_fail (0 : Int32) (2 : Int32)).2) v1 v2 v3 v4 v5 v6 v7)) rfl
      have hE : (f_X6_at xs ys pl v0 v2 p1 p2) = (((f_X6_fail (0 : Int32) (2 : Int32)).1), ((f_X6_fail (0 : Int32) (2 : Int32)).2)) := (by simp only [f_X6_at, if_neg c1, if_pos c2])
      exact rw_i hQ hx hb hr hlk (by rw [hE]; exact hP) hS (by rw [hE]) dX6_at_34
  · skip
    refine lv_aload_n hx hb dX6_at_13 rfl (lv_at hl 0 rfl) ?_
    refine lv_iconst (v := (1 : Int32)) hx hb dX6_at_14 (by decide) ?_
    refine cw_i (va_runV (As := [.int (1 : Int32)]) (rest := []) ⟨hx, hb, hml, hown, hts⟩ (c_X6_fail l dC dI a cI cJ xs ys pl lp lq lr (0 : Int32) v1 v2 v3 v4 v5 v6 v7 (1 : Int32) ) (cwV 1 hts (gG_V mG_6_18 mG_6_19 mG_6_20 mG_1_5 (gG_c mG_6_21 gG_G)) rfl rfl rfl hd_X6_fail ⟨Nat.le_of_ble_eq_true rfl, Nat.le_of_ble_eq_true rfl⟩) (wPcV (ci := 10) (q0 := 0) hK hP hD rfl rfl) rfl rfl hl.1 rfl (lv_room (Nat.le_of_ble_eq_true rfl)) dX6_at_15 ⟨Nat.le_of_ble_eq_true rfl, Nat.le_of_ble_eq_true rfl⟩) (wA.sub hD) hS (fun H locs hP hk1 hS => ?_)
    have hD := hD.addr (w1 := (wM a cI cJ xs ys pl lp lq lr ((f_X6_fail (0 : Int32) (1 : Int32)).2) v1 v2 v3 v4 v5 v6 v7)) rfl
    have hE : (f_X6_at xs ys pl v0 v2 p1 p2) = (((f_X6_fail (0 : Int32) (1 : Int32)).1), ((f_X6_fail (0 : Int32) (1 : Int32)).2)) := (by simp only [f_X6_at, if_pos c1])
    exact rw_i hQ hx hb hr hlk (by rw [hE]; exact hP) hS (by rw [hE]) dX6_at_18
/-! X6_filter -/
theorem hs_X6_filter : yX6_filter.cls ≠ "java/lang/invoke/MethodHandle" ∧ yX6_filter.cls ≠ "java/lang/invoke/VarHandle" ∧ (parseMethodDescriptor yX6_filter.desc).map (fun d => d.parameters.length) = some 1 := by decide +kernel
theorem hd_X6_filter : yX6_filter.cls = RX6 ∧ yX6_filter.cls ≠ "java/lang/invoke/MethodHandle" ∧ yX6_filter.cls ≠ "java/lang/invoke/VarHandle" ∧ (parseMethodDescriptor yX6_filter.desc).map (fun d => d.parameters.length) = some 1 := ⟨rfl, hs_X6_filter⟩
def f_X6_filter (v0 : Int32) (v3 : Int32) (p1 : Int32) : Int32 × Int32 × Int32 := (if v3 = 0 then ((0 : Int32), (0 : Int32), p1) else ((1 : Int32), (0 : Int32), p1))
abbrev rm_X6_filter : Room := { frames := 0, cells := 0, slots := 0, locals := 0 }
set_option maxHeartbeats 8000000 in
set_option maxRecDepth 100000 in
theorem c_X6_filter (l : Launch) (dC : Nat → ClassId) (dI : Nat → Nat → Nat) (a : Nat → Nat) (cI cJ : ClassId) (xs : Nat → Int32) (ys : Nat → Int32) (pl : Nat → Int32) (lp : Nat → Int64) (lq : Nat → Int64) (lr : Nat → Int64) (v0 : Int32) (v1 : Int32) (v2 : Int32) (v3 : Int32) (v4 : Int32) (v5 : Int32) (v6 : Int32) (v7 : Int32) (p1 : Int32) (hz : p1 = 0 ∨ p1 = 1) : Met l yX6_filter (Cond.code yX6_filter cX6_filter 3 (some .int) :: lw_G) rm_X6_filter (wPc (dC, dI) (tIJ cI cJ) (wM a cI cJ xs ys pl lp lq lr v0 v1 v2 v3 v4 v5 v6 v7) [.ref (a 0), .int p1]) (wQi (dC, dI) (wA (wM a cI cJ xs ys pl lp lq lr v0 v1 v2 v3 v4 v5 v6 v7)) (wM a cI cJ xs ys pl lp lq lr ((f_X6_filter v0 v3 p1).2.1) v1 v2 ((f_X6_filter v0 v3 p1).2.2) v4 v5 v6 v7) (f_X6_filter v0 v3 p1).1) 0 0 (wA (wM a cI cJ xs ys pl lp lq lr v0 v1 v2 v3 v4 v5 v6 v7)) := by
  refine wm_of (by decide) (Nat.le_of_ble_eq_true rfl) ?_
  intro p e s m args below meth c Q ls hQ hx hb hr hlk hml hown hts hP hK hD hS hl
  have hown : s.vm.findClass RX6 = some m.cls := hown
  have hl : lv_has ls 3 [(0, .ref (a 0)), (1, .int p1)] := hl
  generalize hAe : wA (wM a cI cJ xs ys pl lp lq lr v0 v1 v2 v3 v4 v5 v6 v7) = A at hQ hD hS
  refine lv_aload_n hx hb dX6_filter_0 rfl (lv_at hl 0 rfl) ?_
  refine lv_iconst (v := (0 : Int32)) hx hb dX6_filter_1 (by decide) ?_
  refine va_put (D := (dC, dI)) (ci := 10) (v := .int (0 : Int32)) (ty := .int) (C := RX6) (T := TX6) (N := 14) hx hb hts (fun _ h => gI_wsX60 h) tyX6 tyX6_ok nmX6 hown hK.1 hP hD hS 0 rfl rfl 0 (by decide) (hts _ mG_5_12) (fun _ h9 => h9) rfl (by decide +kernel) rfl rfl (Nat.le_of_ble_eq_true rfl) dX6_filter_2 (fun H locs hP hD hS => ?_)
  have hP : va_P (dC, dI) vwCl (wM a cI cJ xs ys pl lp lq lr (0 : Int32) v1 v2 v3 v4 v5 v6 v7) H := hP
  have hD : va_D A (wM a cI cJ xs ys pl lp lq lr (0 : Int32) v1 v2 v3 v4 v5 v6 v7) := hD
  refine lv_aload_n hx hb dX6_filter_5 rfl (lv_at hl 0 rfl) ?_
  refine va_get (D := (dC, dI)) (ci := 10) (v := .int v3) (C := RX6) (T := TX6) (N := 14) hx hb hts (fun _ h => gI_wsX60 h) hown hK.1 hP 0 rfl rfl 6 (by decide) (hts _ mG_4_11) (fun _ h9 => h9) rfl dX6_filter_6 ?_
  refine lv_if_eq (tgt := 16) hx hb dX6_filter_9 (by decide) (fun c1 => ?_) (fun c1 => ?_)
  · skip
    refine lv_iconst (v := (0 : Int32)) hx hb dX6_filter_16 (by decide) ?_
    refine lv_istore_n (lv' := [(2, .int (0 : Int32)), (0, .ref (a 0)), (1, .int p1)]) hx hb dX6_filter_17 rfl hl (by decide) rfl (fun ls hl => ?_)
    refine lv_aload_n hx hb dX6_filter_18 rfl (lv_at hl 1 rfl) ?_
    refine lv_iload_n hx hb dX6_filter_19 rfl (lv_at hl 2 rfl) ?_
    refine va_put (D := (dC, dI)) (ci := 10) (v := .int p1) (ty := .boolean) (C := RX6) (T := TX6) (N := 14) hx hb hts (fun _ h => gI_wsX60 h) tyX6 tyX6_ok nmX6 hown hK.1 hP hD hS 0 rfl rfl 6 (by decide) (hts _ mG_4_11) (fun _ h9 => h9) rfl (by decide +kernel) (nz hz) (fz hz) (Nat.le_of_ble_eq_true rfl) dX6_filter_20 (fun H locs hP hD hS => ?_)
    have hP : va_P (dC, dI) vwCl (wM a cI cJ xs ys pl lp lq lr (0 : Int32) v1 v2 p1 v4 v5 v6 v7) H := hP
    have hD : va_D A (wM a cI cJ xs ys pl lp lq lr (0 : Int32) v1 v2 p1 v4 v5 v6 v7) := hD
    refine lv_iload_n hx hb dX6_filter_23 rfl (lv_at hl 0 rfl) ?_
    have hE : (f_X6_filter v0 v3 p1) = ((0 : Int32), (0 : Int32), p1) := (by simp only [f_X6_filter, if_pos c1])
    exact rw_i hQ hx hb hr hlk (by rw [hE]; exact hP) hS (by rw [hE]) dX6_filter_24
  · skip
    refine lv_iconst (v := (1 : Int32)) hx hb dX6_filter_12 (by decide) ?_
    refine lv_goto (tgt := 17) hx hb dX6_filter_13 (by decide) ?_
    refine lv_istore_n (lv' := [(2, .int (1 : Int32)), (0, .ref (a 0)), (1, .int p1)]) hx hb dX6_filter_17 rfl hl (by decide) rfl (fun ls hl => ?_)
    refine lv_aload_n hx hb dX6_filter_18 rfl (lv_at hl 1 rfl) ?_
    refine lv_iload_n hx hb dX6_filter_19 rfl (lv_at hl 2 rfl) ?_
    refine va_put (D := (dC, dI)) (ci := 10) (v := .int p1) (ty := .boolean) (C := RX6) (T := TX6) (N := 14) hx hb hts (fun _ h => gI_wsX60 h) tyX6 tyX6_ok nmX6 hown hK.1 hP hD hS 0 rfl rfl 6 (by decide) (hts _ mG_4_11) (fun _ h9 => h9) rfl (by decide +kernel) (nz hz) (fz hz) (Nat.le_of_ble_eq_true rfl) dX6_filter_20 (fun H locs hP hD hS => ?_)
    have hP : va_P (dC, dI) vwCl (wM a cI cJ xs ys pl lp lq lr (0 : Int32) v1 v2 p1 v4 v5 v6 v7) H := hP
    have hD : va_D A (wM a cI cJ xs ys pl lp lq lr (0 : Int32) v1 v2 p1 v4 v5 v6 v7) := hD
    refine lv_iload_n hx hb dX6_filter_23 rfl (lv_at hl 0 rfl) ?_
    have hE : (f_X6_filter v0 v3 p1) = ((1 : Int32), (0 : Int32), p1) := (by simp only [f_X6_filter, if_neg c1])
    exact rw_i hQ hx hb hr hlk (by rw [hE]; exact hP) hS (by rw [hE]) dX6_filter_24
/-! X6_decided -/
theorem hs_X6_decided : yX6_decided.cls ≠ "java/lang/invoke/MethodHandle" ∧ yX6_decided.cls ≠ "java/lang/invoke/VarHandle" ∧ (parseMethodDescriptor yX6_decided.desc).map (fun d => d.parameters.length) = some 1 := by decide +kernel
theorem hd_X6_decided : yX6_decided.cls = RX6 ∧ yX6_decided.cls ≠ "java/lang/invoke/MethodHandle" ∧ yX6_decided.cls ≠ "java/lang/invoke/VarHandle" ∧ (parseMethodDescriptor yX6_decided.desc).map (fun d => d.parameters.length) = some 1 := ⟨rfl, hs_X6_decided⟩
def f_X6_decided (v0 : Int32) (v4 : Int32) (v5 : Int32) (v6 : Int32) (p1 : Int32) : Int32 × Int32 := (if p1 = 0 then (v4, (0 : Int32)) else (if p1 = (1 : Int32) then (v5, (0 : Int32)) else (if p1 = (2 : Int32) then (v6, (0 : Int32)) else ((-2 : Int32), (0 : Int32)))))
abbrev rm_X6_decided : Room := { frames := 0, cells := 0, slots := 0, locals := 0 }
set_option maxHeartbeats 8000000 in
set_option maxRecDepth 100000 in
theorem c_X6_decided (l : Launch) (dC : Nat → ClassId) (dI : Nat → Nat → Nat) (a : Nat → Nat) (cI cJ : ClassId) (xs : Nat → Int32) (ys : Nat → Int32) (pl : Nat → Int32) (lp : Nat → Int64) (lq : Nat → Int64) (lr : Nat → Int64) (v0 : Int32) (v1 : Int32) (v2 : Int32) (v3 : Int32) (v4 : Int32) (v5 : Int32) (v6 : Int32) (v7 : Int32) (p1 : Int32) : Met l yX6_decided (Cond.code yX6_decided cX6_decided 2 (some .int) :: lw_G) rm_X6_decided (wPc (dC, dI) (tIJ cI cJ) (wM a cI cJ xs ys pl lp lq lr v0 v1 v2 v3 v4 v5 v6 v7) [.ref (a 0), .int p1]) (wQi (dC, dI) (wA (wM a cI cJ xs ys pl lp lq lr v0 v1 v2 v3 v4 v5 v6 v7)) (wM a cI cJ xs ys pl lp lq lr ((f_X6_decided v0 v4 v5 v6 p1).2) v1 v2 v3 v4 v5 v6 v7) (f_X6_decided v0 v4 v5 v6 p1).1) 0 0 (wA (wM a cI cJ xs ys pl lp lq lr v0 v1 v2 v3 v4 v5 v6 v7)) := by
  refine wm_of (by decide) (Nat.le_of_ble_eq_true rfl) ?_
  intro p e s m args below meth c Q ls hQ hx hb hr hlk hml hown hts hP hK hD hS hl
  have hown : s.vm.findClass RX6 = some m.cls := hown
  have hl : lv_has ls 2 [(0, .ref (a 0)), (1, .int p1)] := hl
  generalize hAe : wA (wM a cI cJ xs ys pl lp lq lr v0 v1 v2 v3 v4 v5 v6 v7) = A at hQ hD hS
  refine lv_aload_n hx hb dX6_decided_0 rfl (lv_at hl 0 rfl) ?_
  refine lv_iconst (v := (0 : Int32)) hx hb dX6_decided_1 (by decide) ?_
  refine va_put (D := (dC, dI)) (ci := 10) (v := .int (0 : Int32)) (ty := .int) (C := RX6) (T := TX6) (N := 14) hx hb hts (fun _ h => gI_wsX60 h) tyX6 tyX6_ok nmX6 hown hK.1 hP hD hS 0 rfl rfl 0 (by decide) (hts _ mG_5_12) (fun _ h9 => h9) rfl (by decide +kernel) rfl rfl (Nat.le_of_ble_eq_true rfl) dX6_decided_2 (fun H locs hP hD hS => ?_)
  have hP : va_P (dC, dI) vwCl (wM a cI cJ xs ys pl lp lq lr (0 : Int32) v1 v2 v3 v4 v5 v6 v7) H := hP
  have hD : va_D A (wM a cI cJ xs ys pl lp lq lr (0 : Int32) v1 v2 v3 v4 v5 v6 v7) := hD
  refine lv_iload_n hx hb dX6_decided_5 rfl (lv_at hl 1 rfl) ?_
  refine lv_if_ne (tgt := 16) hx hb dX6_decided_6 (by decide) (fun c1 => ?_) (fun c1 => ?_)
  · skip
    refine lv_iload_n hx hb dX6_decided_16 rfl (lv_at hl 1 rfl) ?_
    refine lv_iconst (v := (1 : Int32)) hx hb dX6_decided_17 (by decide) ?_
    refine lv_icmp_ne (tgt := 28) hx hb dX6_decided_18 (by decide) (fun c2 => ?_) (fun c2 => ?_)
    · skip
      refine lv_iload_n hx hb dX6_decided_28 rfl (lv_at hl 1 rfl) ?_
      refine lv_iconst (v := (2 : Int32)) hx hb dX6_decided_29 (by decide) ?_
      refine lv_icmp_ne (tgt := 40) hx hb dX6_decided_30 (by decide) (fun c3 => ?_) (fun c3 => ?_)
      · skip
        refine lv_bipush (v := (-2 : Int32)) hx hb dX6_decided_40 (by decide) ?_
        have hE : (f_X6_decided v0 v4 v5 v6 p1) = ((-2 : Int32), (0 : Int32)) := (by simp only [f_X6_decided, if_neg c1, if_neg c2, if_neg c3])
        exact rw_i hQ hx hb hr hlk (by rw [hE]; exact hP) hS (by rw [hE]) dX6_decided_42
      · skip
        refine lv_aload_n hx hb dX6_decided_33 rfl (lv_at hl 0 rfl) ?_
        refine va_get (D := (dC, dI)) (ci := 10) (v := .int v6) (C := RX6) (T := TX6) (N := 14) hx hb hts (fun _ h => gI_wsX60 h) hown hK.1 hP 0 rfl rfl 9 (by decide) (hts _ mG_13_17) (fun _ h9 => h9) rfl dX6_decided_34 ?_
        refine lv_goto (tgt := 42) hx hb dX6_decided_37 (by decide) ?_
        have hE : (f_X6_decided v0 v4 v5 v6 p1) = (v6, (0 : Int32)) := (by simp only [f_X6_decided, if_neg c1, if_neg c2, if_pos c3])
        exact rw_i hQ hx hb hr hlk (by rw [hE]; exact hP) hS (by rw [hE]) dX6_decided_42
    · skip
      refine lv_aload_n hx hb dX6_decided_21 rfl (lv_at hl 0 rfl) ?_
      refine va_get (D := (dC, dI)) (ci := 10) (v := .int v5) (C := RX6) (T := TX6) (N := 14) hx hb hts (fun _ h => gI_wsX60 h) hown hK.1 hP 0 rfl rfl 8 (by decide) (hts _ mG_13_16) (fun _ h9 => h9) rfl dX6_decided_22 ?_
      refine lv_goto (tgt := 42) hx hb dX6_decided_25 (by decide) ?_
      have hE : (f_X6_decided v0 v4 v5 v6 p1) = (v5, (0 : Int32)) := (by simp only [f_X6_decided, if_neg c1, if_pos c2])
      exact rw_i hQ hx hb hr hlk (by rw [hE]; exact hP) hS (by rw [hE]) dX6_decided_42
  · skip
    refine lv_aload_n hx hb dX6_decided_9 rfl (lv_at hl 0 rfl) ?_
    refine va_get (D := (dC, dI)) (ci := 10) (v := .int v4) (C := RX6) (T := TX6) (N := 14) hx hb hts (fun _ h => gI_wsX60 h) hown hK.1 hP 0 rfl rfl 7 (by decide) (hts _ mG_13_15) (fun _ h9 => h9) rfl dX6_decided_10 ?_
    refine lv_goto (tgt := 42) hx hb dX6_decided_13 (by decide) ?_
    have hE : (f_X6_decided v0 v4 v5 v6 p1) = (v4, (0 : Int32)) := (by simp only [f_X6_decided, if_pos c1])
    exact rw_i hQ hx hb hr hlk (by rw [hE]; exact hP) hS (by rw [hE]) dX6_decided_42
/-! X6_count -/
theorem hs_X6_count : yX6_count.cls ≠ "java/lang/invoke/MethodHandle" ∧ yX6_count.cls ≠ "java/lang/invoke/VarHandle" ∧ (parseMethodDescriptor yX6_count.desc).map (fun d => d.parameters.length) = some 1 := by decide +kernel
theorem hd_X6_count : yX6_count.cls = RX6 ∧ yX6_count.cls ≠ "java/lang/invoke/MethodHandle" ∧ yX6_count.cls ≠ "java/lang/invoke/VarHandle" ∧ (parseMethodDescriptor yX6_count.desc).map (fun d => d.parameters.length) = some 1 := ⟨rfl, hs_X6_count⟩
def f_X6_count (v0 : Int32) (v1 : Int32) (v2 : Int32) (v3 : Int32) (v7 : Int32) (p1 : Int32) : Int32 × Int32 := (if p1 = 0 then (v1, (0 : Int32)) else (if p1 = (1 : Int32) then (v2, (0 : Int32)) else (if p1 = (2 : Int32) then (v7, (0 : Int32)) else (if p1 = (3 : Int32) then (if v3 = 0 then ((0 : Int32), (0 : Int32)) else ((1 : Int32), (0 : Int32))) else ((-2 : Int32), (0 : Int32))))))
abbrev rm_X6_count : Room := { frames := 0, cells := 0, slots := 0, locals := 0 }
set_option maxHeartbeats 8000000 in
set_option maxRecDepth 100000 in
theorem c_X6_count (l : Launch) (dC : Nat → ClassId) (dI : Nat → Nat → Nat) (a : Nat → Nat) (cI cJ : ClassId) (xs : Nat → Int32) (ys : Nat → Int32) (pl : Nat → Int32) (lp : Nat → Int64) (lq : Nat → Int64) (lr : Nat → Int64) (v0 : Int32) (v1 : Int32) (v2 : Int32) (v3 : Int32) (v4 : Int32) (v5 : Int32) (v6 : Int32) (v7 : Int32) (p1 : Int32) : Met l yX6_count (Cond.code yX6_count cX6_count 2 (some .int) :: lw_G) rm_X6_count (wPc (dC, dI) (tIJ cI cJ) (wM a cI cJ xs ys pl lp lq lr v0 v1 v2 v3 v4 v5 v6 v7) [.ref (a 0), .int p1]) (wQi (dC, dI) (wA (wM a cI cJ xs ys pl lp lq lr v0 v1 v2 v3 v4 v5 v6 v7)) (wM a cI cJ xs ys pl lp lq lr ((f_X6_count v0 v1 v2 v3 v7 p1).2) v1 v2 v3 v4 v5 v6 v7) (f_X6_count v0 v1 v2 v3 v7 p1).1) 0 0 (wA (wM a cI cJ xs ys pl lp lq lr v0 v1 v2 v3 v4 v5 v6 v7)) := by
  refine wm_of (by decide) (Nat.le_of_ble_eq_true rfl) ?_
  intro p e s m args below meth c Q ls hQ hx hb hr hlk hml hown hts hP hK hD hS hl
  have hown : s.vm.findClass RX6 = some m.cls := hown
  have hl : lv_has ls 2 [(0, .ref (a 0)), (1, .int p1)] := hl
  generalize hAe : wA (wM a cI cJ xs ys pl lp lq lr v0 v1 v2 v3 v4 v5 v6 v7) = A at hQ hD hS
  refine lv_aload_n hx hb dX6_count_0 rfl (lv_at hl 0 rfl) ?_
  refine lv_iconst (v := (0 : Int32)) hx hb dX6_count_1 (by decide) ?_
  refine va_put (D := (dC, dI)) (ci := 10) (v := .int (0 : Int32)) (ty := .int) (C := RX6) (T := TX6) (N := 14) hx hb hts (fun _ h => gI_wsX60 h) tyX6 tyX6_ok nmX6 hown hK.1 hP hD hS 0 rfl rfl 0 (by decide) (hts _ mG_5_12) (fun _ h9 => h9) rfl (by decide +kernel) rfl rfl (Nat.le_of_ble_eq_true rfl) dX6_count_2 (fun H locs hP hD hS => ?_)
  have hP : va_P (dC, dI) vwCl (wM a cI cJ xs ys pl lp lq lr (0 : Int32) v1 v2 v3 v4 v5 v6 v7) H := hP
  have hD : va_D A (wM a cI cJ xs ys pl lp lq lr (0 : Int32) v1 v2 v3 v4 v5 v6 v7) := hD
  refine lv_iload_n hx hb dX6_count_5 rfl (lv_at hl 1 rfl) ?_
  refine lv_if_ne (tgt := 16) hx hb dX6_count_6 (by decide) (fun c1 => ?_) (fun c1 => ?_)
  · skip
    refine lv_iload_n hx hb dX6_count_16 rfl (lv_at hl 1 rfl) ?_
    refine lv_iconst (v := (1 : Int32)) hx hb dX6_count_17 (by decide) ?_
    refine lv_icmp_ne (tgt := 28) hx hb dX6_count_18 (by decide) (fun c2 => ?_) (fun c2 => ?_)
    · skip
      refine lv_iload_n hx hb dX6_count_28 rfl (lv_at hl 1 rfl) ?_
      refine lv_iconst (v := (2 : Int32)) hx hb dX6_count_29 (by decide) ?_
      refine lv_icmp_ne (tgt := 40) hx hb dX6_count_30 (by decide) (fun c3 => ?_) (fun c3 => ?_)
      · skip
        refine lv_iload_n hx hb dX6_count_40 rfl (lv_at hl 1 rfl) ?_
        refine lv_iconst (v := (3 : Int32)) hx hb dX6_count_41 (by decide) ?_
        refine lv_icmp_ne (tgt := 60) hx hb dX6_count_42 (by decide) (fun c4 => ?_) (fun c4 => ?_)
        · skip
          refine lv_bipush (v := (-2 : Int32)) hx hb dX6_count_60 (by decide) ?_
          have hE : (f_X6_count v0 v1 v2 v3 v7 p1) = ((-2 : Int32), (0 : Int32)) := (by simp only [f_X6_count, if_neg c1, if_neg c2, if_neg c3, if_neg c4])
          exact rw_i hQ hx hb hr hlk (by rw [hE]; exact hP) hS (by rw [hE]) dX6_count_62
        · skip
          refine lv_aload_n hx hb dX6_count_45 rfl (lv_at hl 0 rfl) ?_
          refine va_get (D := (dC, dI)) (ci := 10) (v := .int v3) (C := RX6) (T := TX6) (N := 14) hx hb hts (fun _ h => gI_wsX60 h) hown hK.1 hP 0 rfl rfl 6 (by decide) (hts _ mG_4_11) (fun _ h9 => h9) rfl dX6_count_46 ?_
          refine lv_if_eq (tgt := 56) hx hb dX6_count_49 (by decide) (fun c5 => ?_) (fun c5 => ?_)
          · skip
            refine lv_iconst (v := (0 : Int32)) hx hb dX6_count_56 (by decide) ?_
            refine lv_goto (tgt := 62) hx hb dX6_count_57 (by decide) ?_
            have hE : (f_X6_count v0 v1 v2 v3 v7 p1) = ((0 : Int32), (0 : Int32)) := (by simp only [f_X6_count, if_neg c1, if_neg c2, if_neg c3, if_pos c4, if_pos c5])
            exact rw_i hQ hx hb hr hlk (by rw [hE]; exact hP) hS (by rw [hE]) dX6_count_62
          · skip
            refine lv_iconst (v := (1 : Int32)) hx hb dX6_count_52 (by decide) ?_
            refine lv_goto (tgt := 62) hx hb dX6_count_53 (by decide) ?_
            have hE : (f_X6_count v0 v1 v2 v3 v7 p1) = ((1 : Int32), (0 : Int32)) := (by simp only [f_X6_count, if_neg c1, if_neg c2, if_neg c3, if_pos c4, if_neg c5])
            exact rw_i hQ hx hb hr hlk (by rw [hE]; exact hP) hS (by rw [hE]) dX6_count_62
      · skip
        refine lv_aload_n hx hb dX6_count_33 rfl (lv_at hl 0 rfl) ?_
        refine va_get (D := (dC, dI)) (ci := 10) (v := .int v7) (C := RX6) (T := TX6) (N := 14) hx hb hts (fun _ h => gI_wsX60 h) hown hK.1 hP 0 rfl rfl 10 (by decide) (hts _ mG_27_22) (fun _ h9 => h9) rfl dX6_count_34 ?_
        refine lv_goto (tgt := 62) hx hb dX6_count_37 (by decide) ?_
        have hE : (f_X6_count v0 v1 v2 v3 v7 p1) = (v7, (0 : Int32)) := (by simp only [f_X6_count, if_neg c1, if_neg c2, if_pos c3])
        exact rw_i hQ hx hb hr hlk (by rw [hE]; exact hP) hS (by rw [hE]) dX6_count_62
    · skip
      refine lv_aload_n hx hb dX6_count_21 rfl (lv_at hl 0 rfl) ?_
      refine va_get (D := (dC, dI)) (ci := 10) (v := .int v2) (C := RX6) (T := TX6) (N := 14) hx hb hts (fun _ h => gI_wsX60 h) hown hK.1 hP 0 rfl rfl 4 (by decide) (hts _ mG_6_17) (fun _ h9 => h9) rfl dX6_count_22 ?_
      refine lv_goto (tgt := 62) hx hb dX6_count_25 (by decide) ?_
      have hE : (f_X6_count v0 v1 v2 v3 v7 p1) = (v2, (0 : Int32)) := (by simp only [f_X6_count, if_neg c1, if_pos c2])
      exact rw_i hQ hx hb hr hlk (by rw [hE]; exact hP) hS (by rw [hE]) dX6_count_62
  · skip
    refine lv_aload_n hx hb dX6_count_9 rfl (lv_at hl 0 rfl) ?_
    refine va_get (D := (dC, dI)) (ci := 10) (v := .int v1) (C := RX6) (T := TX6) (N := 14) hx hb hts (fun _ h => gI_wsX60 h) hown hK.1 hP 0 rfl rfl 1 (by decide) (hts _ mG_5_20) (fun _ h9 => h9) rfl dX6_count_10 ?_
    refine lv_goto (tgt := 62) hx hb dX6_count_13 (by decide) ?_
    have hE : (f_X6_count v0 v1 v2 v3 v7 p1) = (v1, (0 : Int32)) := (by simp only [f_X6_count, if_pos c1])
    exact rw_i hQ hx hb hr hlk (by rw [hE]; exact hP) hS (by rw [hE]) dX6_count_62
/-! X6_between -/
theorem hs_X6_between : yX6_between.cls ≠ "java/lang/invoke/MethodHandle" ∧ yX6_between.cls ≠ "java/lang/invoke/VarHandle" ∧ (parseMethodDescriptor yX6_between.desc).map (fun d => d.parameters.length) = some 3 := by decide +kernel
theorem hd_X6_between : yX6_between.cls = RX6 ∧ yX6_between.cls ≠ "java/lang/invoke/MethodHandle" ∧ yX6_between.cls ≠ "java/lang/invoke/VarHandle" ∧ (parseMethodDescriptor yX6_between.desc).map (fun d => d.parameters.length) = some 3 := ⟨rfl, hs_X6_between⟩
def f_X6_between (xs : Nat → Int32) (ys : Nat → Int32) (v0 : Int32) (v1 : Int32) (p1 : Int32) (p2 : Int32) (p3 : Int32) : Int32 × Int32 := (if (f_X6_isPoint v1 p1) = 0 then ((-2 : Int32), (0 : Int32)) else (if (f_X6_isPoint v1 p2) = 0 then ((-2 : Int32), (0 : Int32)) else (if (f_X6_isPoint v1 p3) = 0 then ((-2 : Int32), (0 : Int32)) else (if (f_X6_areEqual xs ys p1 p2) = 0 then (if (f_X6_areEqual xs ys p2 p3) = 0 then (if (f_X6_isOn xs ys p1 p3 p2) = 0 then ((0 : Int32), (0 : Int32)) else ((1 : Int32), (0 : Int32))) else ((2 : Int32), (0 : Int32))) else ((2 : Int32), (0 : Int32))))))
abbrev rm_X6_between : Room := { frames := 3, cells := 0, slots := 0, locals := 67 }
set_option maxHeartbeats 8000000 in
set_option maxRecDepth 100000 in
theorem c_X6_between (l : Launch) (dC : Nat → ClassId) (dI : Nat → Nat → Nat) (a : Nat → Nat) (cI cJ : ClassId) (xs : Nat → Int32) (ys : Nat → Int32) (pl : Nat → Int32) (lp : Nat → Int64) (lq : Nat → Int64) (lr : Nat → Int64) (v0 : Int32) (v1 : Int32) (v2 : Int32) (v3 : Int32) (v4 : Int32) (v5 : Int32) (v6 : Int32) (v7 : Int32) (p1 : Int32) (p2 : Int32) (p3 : Int32) (hv1 : v1 ≤ 60) : Met l yX6_between (Cond.code yX6_between cX6_between 4 (some .int) :: lw_G) rm_X6_between (wPc (dC, dI) (tIJ cI cJ) (wM a cI cJ xs ys pl lp lq lr v0 v1 v2 v3 v4 v5 v6 v7) [.ref (a 0), .int p1, .int p2, .int p3]) (wQi (dC, dI) (wA (wM a cI cJ xs ys pl lp lq lr v0 v1 v2 v3 v4 v5 v6 v7)) (wM a cI cJ xs ys pl lp lq lr ((f_X6_between xs ys v0 v1 p1 p2 p3).2) v1 v2 v3 v4 v5 v6 v7) (f_X6_between xs ys v0 v1 p1 p2 p3).1) 0 0 (wA (wM a cI cJ xs ys pl lp lq lr v0 v1 v2 v3 v4 v5 v6 v7)) := by
  refine wm_of (by decide) (Nat.le_of_ble_eq_true rfl) ?_
  intro p e s m args below meth c Q ls hQ hx hb hr hlk hml hown hts hP hK hD hS hl
  have hown : s.vm.findClass RX6 = some m.cls := hown
  have hl : lv_has ls 4 [(0, .ref (a 0)), (1, .int p1), (2, .int p2), (3, .int p3)] := hl
  generalize hAe : wA (wM a cI cJ xs ys pl lp lq lr v0 v1 v2 v3 v4 v5 v6 v7) = A at hQ hD hS
  refine lv_aload_n hx hb dX6_between_0 rfl (lv_at hl 0 rfl) ?_
  refine lv_iconst (v := (0 : Int32)) hx hb dX6_between_1 (by decide) ?_
  refine va_put (D := (dC, dI)) (ci := 10) (v := .int (0 : Int32)) (ty := .int) (C := RX6) (T := TX6) (N := 14) hx hb hts (fun _ h => gI_wsX60 h) tyX6 tyX6_ok nmX6 hown hK.1 hP hD hS 0 rfl rfl 0 (by decide) (hts _ mG_5_12) (fun _ h9 => h9) rfl (by decide +kernel) rfl rfl (Nat.le_of_ble_eq_true rfl) dX6_between_2 (fun H locs hP hD hS => ?_)
  have hP : va_P (dC, dI) vwCl (wM a cI cJ xs ys pl lp lq lr (0 : Int32) v1 v2 v3 v4 v5 v6 v7) H := hP
  have hD : va_D A (wM a cI cJ xs ys pl lp lq lr (0 : Int32) v1 v2 v3 v4 v5 v6 v7) := hD
  refine lv_aload_n hx hb dX6_between_5 rfl (lv_at hl 0 rfl) ?_
  refine lv_iload_n hx hb dX6_between_6 rfl (lv_at hl 1 rfl) ?_
  refine cp_i (va_runV (As := [.int p1]) (rest := []) ⟨hx, hb, hml, hown, hts⟩ (c_X6_isPoint l dC dI a cI cJ xs ys pl lp lq lr (0 : Int32) v1 v2 v3 v4 v5 v6 v7 p1 ) (cwV 1 hts (gG_V mG_8_5 mG_8_6 mG_8_7 mG_1_5 (gG_c mG_8_8 gG_G)) rfl rfl rfl hd_X6_isPoint ⟨Nat.le_of_ble_eq_true rfl, Nat.le_of_ble_eq_true rfl⟩) (pPcV (ci := 10) (q0 := 0) hK hP rfl rfl) rfl rfl hl.1 rfl (lv_room (Nat.le_of_ble_eq_true rfl)) dX6_between_7 ⟨Nat.le_of_ble_eq_true rfl, Nat.le_of_ble_eq_true rfl⟩) hP hS (fun H hP hS => ?_)
  refine lv_if_eq (tgt := 29) hx hb dX6_between_10 (by decide) (fun c1 => ?_) (fun c1 => ?_)
  · skip
    refine lv_bipush (v := (-2 : Int32)) hx hb dX6_between_29 (by decide) ?_
    have hE : (f_X6_between xs ys v0 v1 p1 p2 p3) = ((-2 : Int32), (0 : Int32)) := (by simp only [f_X6_between, if_pos c1])
    exact rw_i hQ hx hb hr hlk (by rw [hE]; exact hP) hS (by rw [hE]) dX6_between_31
  · skip
    have hi1 : vp_in p1 60 := in_isPoint hv1 c1
    refine lv_aload_n hx hb dX6_between_13 rfl (lv_at hl 0 rfl) ?_
    refine lv_iload_n hx hb dX6_between_14 rfl (lv_at hl 2 rfl) ?_
    refine cp_i (va_runV (As := [.int p2]) (rest := []) ⟨hx, hb, hml, hown, hts⟩ (c_X6_isPoint l dC dI a cI cJ xs ys pl lp lq lr (0 : Int32) v1 v2 v3 v4 v5 v6 v7 p2 ) (cwV 1 hts (gG_V mG_8_5 mG_8_6 mG_8_7 mG_1_5 (gG_c mG_8_8 gG_G)) rfl rfl rfl hd_X6_isPoint ⟨Nat.le_of_ble_eq_true rfl, Nat.le_of_ble_eq_true rfl⟩) (pPcV (ci := 10) (q0 := 0) hK hP rfl rfl) rfl rfl hl.1 rfl (lv_room (Nat.le_of_ble_eq_true rfl)) dX6_between_15 ⟨Nat.le_of_ble_eq_true rfl, Nat.le_of_ble_eq_true rfl⟩) hP hS (fun H hP hS => ?_)
    refine lv_if_eq (tgt := 29) hx hb dX6_between_18 (by decide) (fun c2 => ?_) (fun c2 => ?_)
    · skip
      refine lv_bipush (v := (-2 : Int32)) hx hb dX6_between_29 (by decide) ?_
      have hE : (f_X6_between xs ys v0 v1 p1 p2 p3) = ((-2 : Int32), (0 : Int32)) := (by simp only [f_X6_between, if_neg c1, if_pos c2])
      exact rw_i hQ hx hb hr hlk (by rw [hE]; exact hP) hS (by rw [hE]) dX6_between_31
    · skip
      have hi2 : vp_in p2 60 := in_isPoint hv1 c2
      refine lv_aload_n hx hb dX6_between_21 rfl (lv_at hl 0 rfl) ?_
      refine lv_iload_n hx hb dX6_between_22 rfl (lv_at hl 3 rfl) ?_
      refine cp_i (va_runV (As := [.int p3]) (rest := []) ⟨hx, hb, hml, hown, hts⟩ (c_X6_isPoint l dC dI a cI cJ xs ys pl lp lq lr (0 : Int32) v1 v2 v3 v4 v5 v6 v7 p3 ) (cwV 1 hts (gG_V mG_8_5 mG_8_6 mG_8_7 mG_1_5 (gG_c mG_8_8 gG_G)) rfl rfl rfl hd_X6_isPoint ⟨Nat.le_of_ble_eq_true rfl, Nat.le_of_ble_eq_true rfl⟩) (pPcV (ci := 10) (q0 := 0) hK hP rfl rfl) rfl rfl hl.1 rfl (lv_room (Nat.le_of_ble_eq_true rfl)) dX6_between_23 ⟨Nat.le_of_ble_eq_true rfl, Nat.le_of_ble_eq_true rfl⟩) hP hS (fun H hP hS => ?_)
      refine lv_if_ne (tgt := 32) hx hb dX6_between_26 (by decide) (fun c3 => ?_) (fun c3 => ?_)
      · skip
        have hi3 : vp_in p3 60 := in_isPoint hv1 c3
        refine lv_aload_n hx hb dX6_between_32 rfl (lv_at hl 0 rfl) ?_
        refine lv_iload_n hx hb dX6_between_33 rfl (lv_at hl 1 rfl) ?_
        refine lv_iload_n hx hb dX6_between_34 rfl (lv_at hl 2 rfl) ?_
        refine cp_i (va_runV (As := [.int p1, .int p2]) (rest := []) ⟨hx, hb, hml, hown, hts⟩ (c_X6_areEqual l dC dI a cI cJ xs ys pl lp lq lr (0 : Int32) v1 v2 v3 v4 v5 v6 v7 p1 p2 (by first | with_reducible assumption | exact in0_24 | exact in0_60 | decide) (by first | with_reducible assumption | exact in0_24 | exact in0_60 | decide)) (cwV 2 hts (gG_V mG_12_0 mG_12_1 mG_12_2 mG_1_5 (gG_c mG_12_3 gG_G)) rfl rfl rfl hd_X6_areEqual ⟨Nat.le_of_ble_eq_true rfl, Nat.le_of_ble_eq_true rfl⟩) (pPcV (ci := 10) (q0 := 0) hK hP rfl rfl) rfl rfl hl.1 rfl (lv_room (Nat.le_of_ble_eq_true rfl)) dX6_between_35 ⟨Nat.le_of_ble_eq_true rfl, Nat.le_of_ble_eq_true rfl⟩) hP hS (fun H hP hS => ?_)
        refine lv_if_ne (tgt := 50) hx hb dX6_between_38 (by decide) (fun c4 => ?_) (fun c4 => ?_)
        · skip
          refine lv_iconst (v := (2 : Int32)) hx hb dX6_between_50 (by decide) ?_
          refine lv_goto (tgt := 69) hx hb dX6_between_51 (by decide) ?_
          have hE : (f_X6_between xs ys v0 v1 p1 p2 p3) = ((2 : Int32), (0 : Int32)) := (by simp only [f_X6_between, if_neg c1, if_neg c2, if_neg c3, if_neg c4])
          exact rw_i hQ hx hb hr hlk (by rw [hE]; exact hP) hS (by rw [hE]) dX6_between_69
        · skip
          refine lv_aload_n hx hb dX6_between_41 rfl (lv_at hl 0 rfl) ?_
          refine lv_iload_n hx hb dX6_between_42 rfl (lv_at hl 2 rfl) ?_
          refine lv_iload_n hx hb dX6_between_43 rfl (lv_at hl 3 rfl) ?_
          refine cp_i (va_runV (As := [.int p2, .int p3]) (rest := []) ⟨hx, hb, hml, hown, hts⟩ (c_X6_areEqual l dC dI a cI cJ xs ys pl lp lq lr (0 : Int32) v1 v2 v3 v4 v5 v6 v7 p2 p3 (by first | with_reducible assumption | exact in0_24 | exact in0_60 | decide) (by first | with_reducible assumption | exact in0_24 | exact in0_60 | decide)) (cwV 2 hts (gG_V mG_12_0 mG_12_1 mG_12_2 mG_1_5 (gG_c mG_12_3 gG_G)) rfl rfl rfl hd_X6_areEqual ⟨Nat.le_of_ble_eq_true rfl, Nat.le_of_ble_eq_true rfl⟩) (pPcV (ci := 10) (q0 := 0) hK hP rfl rfl) rfl rfl hl.1 rfl (lv_room (Nat.le_of_ble_eq_true rfl)) dX6_between_44 ⟨Nat.le_of_ble_eq_true rfl, Nat.le_of_ble_eq_true rfl⟩) hP hS (fun H hP hS => ?_)
          refine lv_if_eq (tgt := 54) hx hb dX6_between_47 (by decide) (fun c5 => ?_) (fun c5 => ?_)
          · skip
            refine lv_aload_n hx hb dX6_between_54 rfl (lv_at hl 0 rfl) ?_
            refine lv_iload_n hx hb dX6_between_55 rfl (lv_at hl 1 rfl) ?_
            refine lv_iload_n hx hb dX6_between_56 rfl (lv_at hl 3 rfl) ?_
            refine lv_iload_n hx hb dX6_between_57 rfl (lv_at hl 2 rfl) ?_
            refine cp_i (va_runV (As := [.int p1, .int p3, .int p2]) (rest := []) ⟨hx, hb, hml, hown, hts⟩ (c_X6_isOn l dC dI a cI cJ xs ys pl lp lq lr (0 : Int32) v1 v2 v3 v4 v5 v6 v7 p1 p3 p2 (by first | with_reducible assumption | exact in0_24 | exact in0_60 | decide) (by first | with_reducible assumption | exact in0_24 | exact in0_60 | decide) (by first | with_reducible assumption | exact in0_24 | exact in0_60 | decide)) (cwV 3 hts (gG_V mG_16_20 mG_16_21 mG_16_22 mG_1_5 (gG_c mG_16_23 gG_G)) rfl rfl rfl hd_X6_isOn ⟨Nat.le_of_ble_eq_true rfl, Nat.le_of_ble_eq_true rfl⟩) (pPcV (ci := 10) (q0 := 0) hK hP rfl rfl) rfl rfl hl.1 rfl (lv_room (Nat.le_of_ble_eq_true rfl)) dX6_between_58 ⟨Nat.le_of_ble_eq_true rfl, Nat.le_of_ble_eq_true rfl⟩) hP hS (fun H hP hS => ?_)
            refine lv_if_eq (tgt := 68) hx hb dX6_between_61 (by decide) (fun c6 => ?_) (fun c6 => ?_)
            · skip
              refine lv_iconst (v := (0 : Int32)) hx hb dX6_between_68 (by decide) ?_
              have hE : (f_X6_between xs ys v0 v1 p1 p2 p3) = ((0 : Int32), (0 : Int32)) := (by simp only [f_X6_between, if_neg c1, if_neg c2, if_neg c3, if_pos c4, if_pos c5, if_pos c6])
              exact rw_i hQ hx hb hr hlk (by rw [hE]; exact hP) hS (by rw [hE]) dX6_between_69
            · skip
              refine lv_iconst (v := (1 : Int32)) hx hb dX6_between_64 (by decide) ?_
              refine lv_goto (tgt := 69) hx hb dX6_between_65 (by decide) ?_
              have hE : (f_X6_between xs ys v0 v1 p1 p2 p3) = ((1 : Int32), (0 : Int32)) := (by simp only [f_X6_between, if_neg c1, if_neg c2, if_neg c3, if_pos c4, if_pos c5, if_neg c6])
              exact rw_i hQ hx hb hr hlk (by rw [hE]; exact hP) hS (by rw [hE]) dX6_between_69
          · skip
            refine lv_iconst (v := (2 : Int32)) hx hb dX6_between_50 (by decide) ?_
            refine lv_goto (tgt := 69) hx hb dX6_between_51 (by decide) ?_
            have hE : (f_X6_between xs ys v0 v1 p1 p2 p3) = ((2 : Int32), (0 : Int32)) := (by simp only [f_X6_between, if_neg c1, if_neg c2, if_neg c3, if_pos c4, if_neg c5])
            exact rw_i hQ hx hb hr hlk (by rw [hE]; exact hP) hS (by rw [hE]) dX6_between_69
      · skip
        refine lv_bipush (v := (-2 : Int32)) hx hb dX6_between_29 (by decide) ?_
        have hE : (f_X6_between xs ys v0 v1 p1 p2 p3) = ((-2 : Int32), (0 : Int32)) := (by simp only [f_X6_between, if_neg c1, if_neg c2, if_pos c3])
        exact rw_i hQ hx hb hr hlk (by rw [hE]; exact hP) hS (by rw [hE]) dX6_between_31
/-! X6_inside -/
theorem hs_X6_inside : yX6_inside.cls ≠ "java/lang/invoke/MethodHandle" ∧ yX6_inside.cls ≠ "java/lang/invoke/VarHandle" ∧ (parseMethodDescriptor yX6_inside.desc).map (fun d => d.parameters.length) = some 4 := by decide +kernel
theorem hd_X6_inside : yX6_inside.cls = RX6 ∧ yX6_inside.cls ≠ "java/lang/invoke/MethodHandle" ∧ yX6_inside.cls ≠ "java/lang/invoke/VarHandle" ∧ (parseMethodDescriptor yX6_inside.desc).map (fun d => d.parameters.length) = some 4 := ⟨rfl, hs_X6_inside⟩
def f_X6_inside (xs : Nat → Int32) (ys : Nat → Int32) (v0 : Int32) (v1 : Int32) (p1 : Int32) (p2 : Int32) (p3 : Int32) (p4 : Int32) : Int32 × Int32 := (if (f_X6_isPoint v1 p1) = 0 then ((-2 : Int32), (0 : Int32)) else (if (f_X6_isPoint v1 p2) = 0 then ((-2 : Int32), (0 : Int32)) else (if (f_X6_isPoint v1 p3) = 0 then ((-2 : Int32), (0 : Int32)) else (if (f_X6_isPoint v1 p4) = 0 then ((-2 : Int32), (0 : Int32)) else (if (f_X6_areEqual xs ys p1 p2) = 0 then (if (f_X6_areEqual xs ys p1 p3) = 0 then (if (f_X6_areEqual xs ys p1 p4) = 0 then (if (f_X6_isOneWay xs ys p1 p2 p4) = 0 then (if (f_X6_isOneWay xs ys p1 p3 p4) = 0 then (if (f_X6_isOneWay xs ys p1 p2 p3) = 0 then (if (f_X6_turn xs ys p1 p2 p3) = 0 then (if (f_X6_turn xs ys p1 p2 p4) ≤ 0 then ((0 : Int32), (0 : Int32)) else ((1 : Int32), (0 : Int32))) else (if (f_X6_turn xs ys p1 p2 p3) ≤ 0 then (if (f_X6_turn xs ys p1 p3 p4) ≤ 0 then ((1 : Int32), (0 : Int32)) else (if (f_X6_turn xs ys p1 p4 p2) ≤ 0 then ((1 : Int32), (0 : Int32)) else ((0 : Int32), (0 : Int32)))) else (if (f_X6_turn xs ys p1 p2 p4) ≤ 0 then ((0 : Int32), (0 : Int32)) else (if (f_X6_turn xs ys p1 p4 p3) ≤ 0 then ((0 : Int32), (0 : Int32)) else ((1 : Int32), (0 : Int32)))))) else ((0 : Int32), (0 : Int32))) else ((2 : Int32), (0 : Int32))) else ((2 : Int32), (0 : Int32))) else ((2 : Int32), (0 : Int32))) else ((-4 : Int32), (0 : Int32))) else ((-4 : Int32), (0 : Int32)))))))
abbrev rm_X6_inside : Room := { frames := 3, cells := 0, slots := 0, locals := 67 }
set_option maxHeartbeats 8000000 in
set_option maxRecDepth 100000 in
theorem c_X6_inside (l : Launch) (dC : Nat → ClassId) (dI : Nat → Nat → Nat) (a : Nat → Nat) (cI cJ : ClassId) (xs : Nat → Int32) (ys : Nat → Int32) (pl : Nat → Int32) (lp : Nat → Int64) (lq : Nat → Int64) (lr : Nat → Int64) (v0 : Int32) (v1 : Int32) (v2 : Int32) (v3 : Int32) (v4 : Int32) (v5 : Int32) (v6 : Int32) (v7 : Int32) (p1 : Int32) (p2 : Int32) (p3 : Int32) (p4 : Int32) (hv1 : v1 ≤ 60) : Met l yX6_inside (Cond.code yX6_inside cX6_inside 6 (some .int) :: lw_G) rm_X6_inside (wPc (dC, dI) (tIJ cI cJ) (wM a cI cJ xs ys pl lp lq lr v0 v1 v2 v3 v4 v5 v6 v7) [.ref (a 0), .int p1, .int p2, .int p3, .int p4]) (wQi (dC, dI) (wA (wM a cI cJ xs ys pl lp lq lr v0 v1 v2 v3 v4 v5 v6 v7)) (wM a cI cJ xs ys pl lp lq lr ((f_X6_inside xs ys v0 v1 p1 p2 p3 p4).2) v1 v2 v3 v4 v5 v6 v7) (f_X6_inside xs ys v0 v1 p1 p2 p3 p4).1) 0 0 (wA (wM a cI cJ xs ys pl lp lq lr v0 v1 v2 v3 v4 v5 v6 v7)) := by
  refine wm_of (by decide) (Nat.le_of_ble_eq_true rfl) ?_
  intro p e s m args below meth c Q ls hQ hx hb hr hlk hml hown hts hP hK hD hS hl
  have hown : s.vm.findClass RX6 = some m.cls := hown
  have hl : lv_has ls 6 [(0, .ref (a 0)), (1, .int p1), (2, .int p2), (3, .int p3), (4, .int p4)] := hl
  generalize hAe : wA (wM a cI cJ xs ys pl lp lq lr v0 v1 v2 v3 v4 v5 v6 v7) = A at hQ hD hS
  refine lv_aload_n hx hb dX6_inside_0 rfl (lv_at hl 0 rfl) ?_
  refine lv_iconst (v := (0 : Int32)) hx hb dX6_inside_1 (by decide) ?_
  refine va_put (D := (dC, dI)) (ci := 10) (v := .int (0 : Int32)) (ty := .int) (C := RX6) (T := TX6) (N := 14) hx hb hts (fun _ h => gI_wsX60 h) tyX6 tyX6_ok nmX6 hown hK.1 hP hD hS 0 rfl rfl 0 (by decide) (hts _ mG_5_12) (fun _ h9 => h9) rfl (by decide +kernel) rfl rfl (Nat.le_of_ble_eq_true rfl) dX6_inside_2 (fun H locs hP hD hS => ?_)
  have hP : va_P (dC, dI) vwCl (wM a cI cJ xs ys pl lp lq lr (0 : Int32) v1 v2 v3 v4 v5 v6 v7) H := hP
  have hD : va_D A (wM a cI cJ xs ys pl lp lq lr (0 : Int32) v1 v2 v3 v4 v5 v6 v7) := hD
  refine lv_aload_n hx hb dX6_inside_5 rfl (lv_at hl 0 rfl) ?_
  refine lv_iload_n hx hb dX6_inside_6 rfl (lv_at hl 1 rfl) ?_
  refine cp_i (va_runV (As := [.int p1]) (rest := []) ⟨hx, hb, hml, hown, hts⟩ (c_X6_isPoint l dC dI a cI cJ xs ys pl lp lq lr (0 : Int32) v1 v2 v3 v4 v5 v6 v7 p1 ) (cwV 1 hts (gG_V mG_8_5 mG_8_6 mG_8_7 mG_1_5 (gG_c mG_8_8 gG_G)) rfl rfl rfl hd_X6_isPoint ⟨Nat.le_of_ble_eq_true rfl, Nat.le_of_ble_eq_true rfl⟩) (pPcV (ci := 10) (q0 := 0) hK hP rfl rfl) rfl rfl hl.1 rfl (lv_room (Nat.le_of_ble_eq_true rfl)) dX6_inside_7 ⟨Nat.le_of_ble_eq_true rfl, Nat.le_of_ble_eq_true rfl⟩) hP hS (fun H hP hS => ?_)
  refine lv_if_eq (tgt := 38) hx hb dX6_inside_10 (by decide) (fun c1 => ?_) (fun c1 => ?_)
  · skip
    refine lv_bipush (v := (-2 : Int32)) hx hb dX6_inside_38 (by decide) ?_
    have hE : (f_X6_inside xs ys v0 v1 p1 p2 p3 p4) = ((-2 : Int32), (0 : Int32)) := (by simp only [f_X6_inside, if_pos c1])
    exact rw_i hQ hx hb hr hlk (by rw [hE]; exact hP) hS (by rw [hE]) dX6_inside_40
  · skip
    have hi1 : vp_in p1 60 := in_isPoint hv1 c1
    refine lv_aload_n hx hb dX6_inside_13 rfl (lv_at hl 0 rfl) ?_
    refine lv_iload_n hx hb dX6_inside_14 rfl (lv_at hl 2 rfl) ?_
    refine cp_i (va_runV (As := [.int p2]) (rest := []) ⟨hx, hb, hml, hown, hts⟩ (c_X6_isPoint l dC dI a cI cJ xs ys pl lp lq lr (0 : Int32) v1 v2 v3 v4 v5 v6 v7 p2 ) (cwV 1 hts (gG_V mG_8_5 mG_8_6 mG_8_7 mG_1_5 (gG_c mG_8_8 gG_G)) rfl rfl rfl hd_X6_isPoint ⟨Nat.le_of_ble_eq_true rfl, Nat.le_of_ble_eq_true rfl⟩) (pPcV (ci := 10) (q0 := 0) hK hP rfl rfl) rfl rfl hl.1 rfl (lv_room (Nat.le_of_ble_eq_true rfl)) dX6_inside_15 ⟨Nat.le_of_ble_eq_true rfl, Nat.le_of_ble_eq_true rfl⟩) hP hS (fun H hP hS => ?_)
    refine lv_if_eq (tgt := 38) hx hb dX6_inside_18 (by decide) (fun c2 => ?_) (fun c2 => ?_)
    · skip
      refine lv_bipush (v := (-2 : Int32)) hx hb dX6_inside_38 (by decide) ?_
      have hE : (f_X6_inside xs ys v0 v1 p1 p2 p3 p4) = ((-2 : Int32), (0 : Int32)) := (by simp only [f_X6_inside, if_neg c1, if_pos c2])
      exact rw_i hQ hx hb hr hlk (by rw [hE]; exact hP) hS (by rw [hE]) dX6_inside_40
    · skip
      have hi2 : vp_in p2 60 := in_isPoint hv1 c2
      refine lv_aload_n hx hb dX6_inside_21 rfl (lv_at hl 0 rfl) ?_
      refine lv_iload_n hx hb dX6_inside_22 rfl (lv_at hl 3 rfl) ?_
      refine cp_i (va_runV (As := [.int p3]) (rest := []) ⟨hx, hb, hml, hown, hts⟩ (c_X6_isPoint l dC dI a cI cJ xs ys pl lp lq lr (0 : Int32) v1 v2 v3 v4 v5 v6 v7 p3 ) (cwV 1 hts (gG_V mG_8_5 mG_8_6 mG_8_7 mG_1_5 (gG_c mG_8_8 gG_G)) rfl rfl rfl hd_X6_isPoint ⟨Nat.le_of_ble_eq_true rfl, Nat.le_of_ble_eq_true rfl⟩) (pPcV (ci := 10) (q0 := 0) hK hP rfl rfl) rfl rfl hl.1 rfl (lv_room (Nat.le_of_ble_eq_true rfl)) dX6_inside_23 ⟨Nat.le_of_ble_eq_true rfl, Nat.le_of_ble_eq_true rfl⟩) hP hS (fun H hP hS => ?_)
      refine lv_if_eq (tgt := 38) hx hb dX6_inside_26 (by decide) (fun c3 => ?_) (fun c3 => ?_)
      · skip
        refine lv_bipush (v := (-2 : Int32)) hx hb dX6_inside_38 (by decide) ?_
        have hE : (f_X6_inside xs ys v0 v1 p1 p2 p3 p4) = ((-2 : Int32), (0 : Int32)) := (by simp only [f_X6_inside, if_neg c1, if_neg c2, if_pos c3])
        exact rw_i hQ hx hb hr hlk (by rw [hE]; exact hP) hS (by rw [hE]) dX6_inside_40
      · skip
        have hi3 : vp_in p3 60 := in_isPoint hv1 c3
        refine lv_aload_n hx hb dX6_inside_29 rfl (lv_at hl 0 rfl) ?_
        refine lv_iload hx hb dX6_inside_30 (lv_at hl 4 rfl) ?_
        refine cp_i (va_runV (As := [.int p4]) (rest := []) ⟨hx, hb, hml, hown, hts⟩ (c_X6_isPoint l dC dI a cI cJ xs ys pl lp lq lr (0 : Int32) v1 v2 v3 v4 v5 v6 v7 p4 ) (cwV 1 hts (gG_V mG_8_5 mG_8_6 mG_8_7 mG_1_5 (gG_c mG_8_8 gG_G)) rfl rfl rfl hd_X6_isPoint ⟨Nat.le_of_ble_eq_true rfl, Nat.le_of_ble_eq_true rfl⟩) (pPcV (ci := 10) (q0 := 0) hK hP rfl rfl) rfl rfl hl.1 rfl (lv_room (Nat.le_of_ble_eq_true rfl)) dX6_inside_32 ⟨Nat.le_of_ble_eq_true rfl, Nat.le_of_ble_eq_true rfl⟩) hP hS (fun H hP hS => ?_)
        refine lv_if_ne (tgt := 41) hx hb dX6_inside_35 (by decide) (fun c4 => ?_) (fun c4 => ?_)
        · skip
          have hi4 : vp_in p4 60 := in_isPoint hv1 c4
          refine lv_aload_n hx hb dX6_inside_41 rfl (lv_at hl 0 rfl) ?_
          refine lv_iload_n hx hb dX6_inside_42 rfl (lv_at hl 1 rfl) ?_
          refine lv_iload_n hx hb dX6_inside_43 rfl (lv_at hl 2 rfl) ?_
          refine cp_i (va_runV (As := [.int p1, .int p2]) (rest := []) ⟨hx, hb, hml, hown, hts⟩ (c_X6_areEqual l dC dI a cI cJ xs ys pl lp lq lr (0 : Int32) v1 v2 v3 v4 v5 v6 v7 p1 p2 (by first | with_reducible assumption | exact in0_24 | exact in0_60 | decide) (by first | with_reducible assumption | exact in0_24 | exact in0_60 | decide)) (cwV 2 hts (gG_V mG_12_0 mG_12_1 mG_12_2 mG_1_5 (gG_c mG_12_3 gG_G)) rfl rfl rfl hd_X6_areEqual ⟨Nat.le_of_ble_eq_true rfl, Nat.le_of_ble_eq_true rfl⟩) (pPcV (ci := 10) (q0 := 0) hK hP rfl rfl) rfl rfl hl.1 rfl (lv_room (Nat.le_of_ble_eq_true rfl)) dX6_inside_44 ⟨Nat.le_of_ble_eq_true rfl, Nat.le_of_ble_eq_true rfl⟩) hP hS (fun H hP hS => ?_)
          refine lv_if_ne (tgt := 59) hx hb dX6_inside_47 (by decide) (fun c5 => ?_) (fun c5 => ?_)
          · skip
            refine lv_bipush (v := (-4 : Int32)) hx hb dX6_inside_59 (by decide) ?_
            have hE : (f_X6_inside xs ys v0 v1 p1 p2 p3 p4) = ((-4 : Int32), (0 : Int32)) := (by simp only [f_X6_inside, if_neg c1, if_neg c2, if_neg c3, if_neg c4, if_neg c5])
            exact rw_i hQ hx hb hr hlk (by rw [hE]; exact hP) hS (by rw [hE]) dX6_inside_61
          · skip
            refine lv_aload_n hx hb dX6_inside_50 rfl (lv_at hl 0 rfl) ?_
            refine lv_iload_n hx hb dX6_inside_51 rfl (lv_at hl 1 rfl) ?_
            refine lv_iload_n hx hb dX6_inside_52 rfl (lv_at hl 3 rfl) ?_
            refine cp_i (va_runV (As := [.int p1, .int p3]) (rest := []) ⟨hx, hb, hml, hown, hts⟩ (c_X6_areEqual l dC dI a cI cJ xs ys pl lp lq lr (0 : Int32) v1 v2 v3 v4 v5 v6 v7 p1 p3 (by first | with_reducible assumption | exact in0_24 | exact in0_60 | decide) (by first | with_reducible assumption | exact in0_24 | exact in0_60 | decide)) (cwV 2 hts (gG_V mG_12_0 mG_12_1 mG_12_2 mG_1_5 (gG_c mG_12_3 gG_G)) rfl rfl rfl hd_X6_areEqual ⟨Nat.le_of_ble_eq_true rfl, Nat.le_of_ble_eq_true rfl⟩) (pPcV (ci := 10) (q0 := 0) hK hP rfl rfl) rfl rfl hl.1 rfl (lv_room (Nat.le_of_ble_eq_true rfl)) dX6_inside_53 ⟨Nat.le_of_ble_eq_true rfl, Nat.le_of_ble_eq_true rfl⟩) hP hS (fun H hP hS => ?_)
            refine lv_if_eq (tgt := 62) hx hb dX6_inside_56 (by decide) (fun c6 => ?_) (fun c6 => ?_)
            · skip
              refine lv_aload_n hx hb dX6_inside_62 rfl (lv_at hl 0 rfl) ?_
              refine lv_iload_n hx hb dX6_inside_63 rfl (lv_at hl 1 rfl) ?_
              refine lv_iload hx hb dX6_inside_64 (lv_at hl 4 rfl) ?_
              refine cp_i (va_runV (As := [.int p1, .int p4]) (rest := []) ⟨hx, hb, hml, hown, hts⟩ (c_X6_areEqual l dC dI a cI cJ xs ys pl lp lq lr (0 : Int32) v1 v2 v3 v4 v5 v6 v7 p1 p4 (by first | with_reducible assumption | exact in0_24 | exact in0_60 | decide) (by first | with_reducible assumption | exact in0_24 | exact in0_60 | decide)) (cwV 2 hts (gG_V mG_12_0 mG_12_1 mG_12_2 mG_1_5 (gG_c mG_12_3 gG_G)) rfl rfl rfl hd_X6_areEqual ⟨Nat.le_of_ble_eq_true rfl, Nat.le_of_ble_eq_true rfl⟩) (pPcV (ci := 10) (q0 := 0) hK hP rfl rfl) rfl rfl hl.1 rfl (lv_room (Nat.le_of_ble_eq_true rfl)) dX6_inside_66 ⟨Nat.le_of_ble_eq_true rfl, Nat.le_of_ble_eq_true rfl⟩) hP hS (fun H hP hS => ?_)
              refine lv_if_ne (tgt := 94) hx hb dX6_inside_69 (by decide) (fun c7 => ?_) (fun c7 => ?_)
              · skip
                refine lv_iconst (v := (2 : Int32)) hx hb dX6_inside_94 (by decide) ?_
                have hE : (f_X6_inside xs ys v0 v1 p1 p2 p3 p4) = ((2 : Int32), (0 : Int32)) := (by simp only [f_X6_inside, if_neg c1, if_neg c2, if_neg c3, if_neg c4, if_pos c5, if_pos c6, if_neg c7])
                exact rw_i hQ hx hb hr hlk (by rw [hE]; exact hP) hS (by rw [hE]) dX6_inside_95
              · skip
                refine lv_aload_n hx hb dX6_inside_72 rfl (lv_at hl 0 rfl) ?_
                refine lv_iload_n hx hb dX6_inside_73 rfl (lv_at hl 1 rfl) ?_
                refine lv_iload_n hx hb dX6_inside_74 rfl (lv_at hl 2 rfl) ?_
                refine lv_iload hx hb dX6_inside_75 (lv_at hl 4 rfl) ?_
                refine cp_i (va_runV (As := [.int p1, .int p2, .int p4]) (rest := []) ⟨hx, hb, hml, hown, hts⟩ (c_X6_isOneWay l dC dI a cI cJ xs ys pl lp lq lr (0 : Int32) v1 v2 v3 v4 v5 v6 v7 p1 p2 p4 (by first | with_reducible assumption | exact in0_24 | exact in0_60 | decide) (by first | with_reducible assumption | exact in0_24 | exact in0_60 | decide) (by first | with_reducible assumption | exact in0_24 | exact in0_60 | decide)) (cwV 3 hts (gG_V mG_17_21 mG_17_22 mG_17_23 mG_1_5 (gG_c mG_18_0 gG_G)) rfl rfl rfl hd_X6_isOneWay ⟨Nat.le_of_ble_eq_true rfl, Nat.le_of_ble_eq_true rfl⟩) (pPcV (ci := 10) (q0 := 0) hK hP rfl rfl) rfl rfl hl.1 rfl (lv_room (Nat.le_of_ble_eq_true rfl)) dX6_inside_77 ⟨Nat.le_of_ble_eq_true rfl, Nat.le_of_ble_eq_true rfl⟩) hP hS (fun H hP hS => ?_)
                refine lv_if_ne (tgt := 94) hx hb dX6_inside_80 (by decide) (fun c8 => ?_) (fun c8 => ?_)
                · skip
                  refine lv_iconst (v := (2 : Int32)) hx hb dX6_inside_94 (by decide) ?_
                  have hE : (f_X6_inside xs ys v0 v1 p1 p2 p3 p4) = ((2 : Int32), (0 : Int32)) := (by simp only [f_X6_inside, if_neg c1, if_neg c2, if_neg c3, if_neg c4, if_pos c5, if_pos c6, if_pos c7, if_neg c8])
                  exact rw_i hQ hx hb hr hlk (by rw [hE]; exact hP) hS (by rw [hE]) dX6_inside_95
                · skip
                  refine lv_aload_n hx hb dX6_inside_83 rfl (lv_at hl 0 rfl) ?_
                  refine lv_iload_n hx hb dX6_inside_84 rfl (lv_at hl 1 rfl) ?_
                  refine lv_iload_n hx hb dX6_inside_85 rfl (lv_at hl 3 rfl) ?_
                  refine lv_iload hx hb dX6_inside_86 (lv_at hl 4 rfl) ?_
                  refine cp_i (va_runV (As := [.int p1, .int p3, .int p4]) (rest := []) ⟨hx, hb, hml, hown, hts⟩ (c_X6_isOneWay l dC dI a cI cJ xs ys pl lp lq lr (0 : Int32) v1 v2 v3 v4 v5 v6 v7 p1 p3 p4 (by first | with_reducible assumption | exact in0_24 | exact in0_60 | decide) (by first | with_reducible assumption | exact in0_24 | exact in0_60 | decide) (by first | with_reducible assumption | exact in0_24 | exact in0_60 | decide)) (cwV 3 hts (gG_V mG_17_21 mG_17_22 mG_17_23 mG_1_5 (gG_c mG_18_0 gG_G)) rfl rfl rfl hd_X6_isOneWay ⟨Nat.le_of_ble_eq_true rfl, Nat.le_of_ble_eq_true rfl⟩) (pPcV (ci := 10) (q0 := 0) hK hP rfl rfl) rfl rfl hl.1 rfl (lv_room (Nat.le_of_ble_eq_true rfl)) dX6_inside_88 ⟨Nat.le_of_ble_eq_true rfl, Nat.le_of_ble_eq_true rfl⟩) hP hS (fun H hP hS => ?_)
                  refine lv_if_eq (tgt := 96) hx hb dX6_inside_91 (by decide) (fun c9 => ?_) (fun c9 => ?_)
                  · skip
                    refine lv_aload_n hx hb dX6_inside_96 rfl (lv_at hl 0 rfl) ?_
                    refine lv_iload_n hx hb dX6_inside_97 rfl (lv_at hl 1 rfl) ?_
                    refine lv_iload_n hx hb dX6_inside_98 rfl (lv_at hl 2 rfl) ?_
                    refine lv_iload_n hx hb dX6_inside_99 rfl (lv_at hl 3 rfl) ?_
                    refine cp_i (va_runV (As := [.int p1, .int p2, .int p3]) (rest := []) ⟨hx, hb, hml, hown, hts⟩ (c_X6_isOneWay l dC dI a cI cJ xs ys pl lp lq lr (0 : Int32) v1 v2 v3 v4 v5 v6 v7 p1 p2 p3 (by first | with_reducible assumption | exact in0_24 | exact in0_60 | decide) (by first | with_reducible assumption | exact in0_24 | exact in0_60 | decide) (by first | with_reducible assumption | exact in0_24 | exact in0_60 | decide)) (cwV 3 hts (gG_V mG_17_21 mG_17_22 mG_17_23 mG_1_5 (gG_c mG_18_0 gG_G)) rfl rfl rfl hd_X6_isOneWay ⟨Nat.le_of_ble_eq_true rfl, Nat.le_of_ble_eq_true rfl⟩) (pPcV (ci := 10) (q0 := 0) hK hP rfl rfl) rfl rfl hl.1 rfl (lv_room (Nat.le_of_ble_eq_true rfl)) dX6_inside_100 ⟨Nat.le_of_ble_eq_true rfl, Nat.le_of_ble_eq_true rfl⟩) hP hS (fun H hP hS => ?_)
                    refine lv_if_eq (tgt := 108) hx hb dX6_inside_103 (by decide) (fun c10 => ?_) (fun c10 => ?_)
                    · skip
                      refine lv_aload_n hx hb dX6_inside_108 rfl (lv_at hl 0 rfl) ?_
                      refine lv_iload_n hx hb dX6_inside_109 rfl (lv_at hl 1 rfl) ?_
                      refine lv_iload_n hx hb dX6_inside_110 rfl (lv_at hl 2 rfl) ?_
                      refine lv_iload_n hx hb dX6_inside_111 rfl (lv_at hl 3 rfl) ?_
                      refine cp_i (va_runV (As := [.int p1, .int p2, .int p3]) (rest := []) ⟨hx, hb, hml, hown, hts⟩ (c_X6_turn l dC dI a cI cJ xs ys pl lp lq lr (0 : Int32) v1 v2 v3 v4 v5 v6 v7 p1 p2 p3 (by first | with_reducible assumption | exact in0_24 | exact in0_60 | decide) (by first | with_reducible assumption | exact in0_24 | exact in0_60 | decide) (by first | with_reducible assumption | exact in0_24 | exact in0_60 | decide)) (cwV 3 hts (gG_V mG_13_4 mG_13_5 mG_13_6 mG_1_5 (gG_c mG_13_7 gG_G)) rfl rfl rfl hd_X6_turn ⟨Nat.le_of_ble_eq_true rfl, Nat.le_of_ble_eq_true rfl⟩) (pPcV (ci := 10) (q0 := 0) hK hP rfl rfl) rfl rfl hl.1 rfl (lv_room (Nat.le_of_ble_eq_true rfl)) dX6_inside_112 ⟨Nat.le_of_ble_eq_true rfl, Nat.le_of_ble_eq_true rfl⟩) hP hS (fun H hP hS => ?_)
                      refine lv_topi (fun y11 ey11 => ?_)
                      refine lv_istore (lv' := [(5, .int y11), (0, .ref (a 0)), (1, .int p1), (2, .int p2), (3, .int p3), (4, .int p4)]) hx hb dX6_inside_115 hl (by decide) rfl (fun ls hl => ?_)
                      refine lv_iload hx hb dX6_inside_117 (lv_at hl 0 rfl) ?_
                      refine lv_if_ne (tgt := 139) hx hb dX6_inside_119 (by decide) (fun c12 => ?_) (fun c12 => ?_)
                      · skip
                        refine lv_iload hx hb dX6_inside_139 (lv_at hl 0 rfl) ?_
                        refine lv_if_le (tgt := 172) hx hb dX6_inside_141 (by decide) (fun c13 => ?_) (fun c13 => ?_)
                        · skip
                          refine lv_aload_n hx hb dX6_inside_172 rfl (lv_at hl 1 rfl) ?_
                          refine lv_iload_n hx hb dX6_inside_173 rfl (lv_at hl 2 rfl) ?_
                          refine lv_iload_n hx hb dX6_inside_174 rfl (lv_at hl 4 rfl) ?_
                          refine lv_iload hx hb dX6_inside_175 (lv_at hl 5 rfl) ?_
                          refine cp_i (va_runV (As := [.int p1, .int p3, .int p4]) (rest := []) ⟨hx, hb, hml, hown, hts⟩ (c_X6_turn l dC dI a cI cJ xs ys pl lp lq lr (0 : Int32) v1 v2 v3 v4 v5 v6 v7 p1 p3 p4 (by first | with_reducible assumption | exact in0_24 | exact in0_60 | decide) (by first | with_reducible assumption | exact in0_24 | exact in0_60 | decide) (by first | with_reducible assumption | exact in0_24 | exact in0_60 | decide)) (cwV 3 hts (gG_V mG_13_4 mG_13_5 mG_13_6 mG_1_5 (gG_c mG_13_7 gG_G)) rfl rfl rfl hd_X6_turn ⟨Nat.le_of_ble_eq_true rfl, Nat.le_of_ble_eq_true rfl⟩) (pPcV (ci := 10) (q0 := 0) hK hP rfl rfl) rfl rfl hl.1 rfl (lv_room (Nat.le_of_ble_eq_true rfl)) dX6_inside_177 ⟨Nat.le_of_ble_eq_true rfl, Nat.le_of_ble_eq_true rfl⟩) hP hS (fun H hP hS => ?_)
                          refine lv_if_le (tgt := 198) hx hb dX6_inside_180 (by decide) (fun c14 => ?_) (fun c14 => ?_)
                          · skip
                            refine lv_iconst (v := (1 : Int32)) hx hb dX6_inside_198 (by decide) ?_
                            have hE : (f_X6_inside xs ys v0 v1 p1 p2 p3 p4) = ((1 : Int32), (0 : Int32)) := (by subst ey11; simp only [f_X6_inside, if_neg c1, if_neg c2, if_neg c3, if_neg c4, if_pos c5, if_pos c6, if_pos c7, if_pos c8, if_pos c9, if_pos c10, if_neg c12, if_pos c13, if_pos c14])
                            exact rw_i hQ hx hb hr hlk (by rw [hE]; exact hP) hS (by rw [hE]) dX6_inside_199
                          · skip
                            refine lv_aload_n hx hb dX6_inside_183 rfl (lv_at hl 1 rfl) ?_
                            refine lv_iload_n hx hb dX6_inside_184 rfl (lv_at hl 2 rfl) ?_
                            refine lv_iload hx hb dX6_inside_185 (lv_at hl 5 rfl) ?_
                            refine lv_iload_n hx hb dX6_inside_187 rfl (lv_at hl 3 rfl) ?_
                            refine cp_i (va_runV (As := [.int p1, .int p4, .int p2]) (rest := []) ⟨hx, hb, hml, hown, hts⟩ (c_X6_turn l dC dI a cI cJ xs ys pl lp lq lr (0 : Int32) v1 v2 v3 v4 v5 v6 v7 p1 p4 p2 (by first | with_reducible assumption | exact in0_24 | exact in0_60 | decide) (by first | with_reducible assumption | exact in0_24 | exact in0_60 | decide) (by first | with_reducible assumption | exact in0_24 | exact in0_60 | decide)) (cwV 3 hts (gG_V mG_13_4 mG_13_5 mG_13_6 mG_1_5 (gG_c mG_13_7 gG_G)) rfl rfl rfl hd_X6_turn ⟨Nat.le_of_ble_eq_true rfl, Nat.le_of_ble_eq_true rfl⟩) (pPcV (ci := 10) (q0 := 0) hK hP rfl rfl) rfl rfl hl.1 rfl (lv_room (Nat.le_of_ble_eq_true rfl)) dX6_inside_188 ⟨Nat.le_of_ble_eq_true rfl, Nat.le_of_ble_eq_true rfl⟩) hP hS (fun H hP hS => ?_)
                            refine lv_if_le (tgt := 198) hx hb dX6_inside_191 (by decide) (fun c15 => ?_) (fun c15 => ?_)
                            · skip
                              refine lv_iconst (v := (1 : Int32)) hx hb dX6_inside_198 (by decide) ?_
                              have hE : (f_X6_inside xs ys v0 v1 p1 p2 p3 p4) = ((1 : Int32), (0 : Int32)) := (by subst ey11; simp only [f_X6_inside, if_neg c1, if_neg c2, if_neg c3, if_neg c4, if_pos c5, if_pos c6, if_pos c7, if_pos c8, if_pos c9, if_pos c10, if_neg c12, if_pos c13, if_neg c14, if_pos c15])
                              exact rw_i hQ hx hb hr hlk (by rw [hE]; exact hP) hS (by rw [hE]) dX6_inside_199
                            · skip
                              refine lv_iconst (v := (0 : Int32)) hx hb dX6_inside_194 (by decide) ?_
                              refine lv_goto (tgt := 199) hx hb dX6_inside_195 (by decide) ?_
                              have hE : (f_X6_inside xs ys v0 v1 p1 p2 p3 p4) = ((0 : Int32), (0 : Int32)) := (by subst ey11; simp only [f_X6_inside, if_neg c1, if_neg c2, if_neg c3, if_neg c4, if_pos c5, if_pos c6, if_pos c7, if_pos c8, if_pos c9, if_pos c10, if_neg c12, if_pos c13, if_neg c14, if_neg c15])
                              exact rw_i hQ hx hb hr hlk (by rw [hE]; exact hP) hS (by rw [hE]) dX6_inside_199
                        · skip
                          refine lv_aload_n hx hb dX6_inside_144 rfl (lv_at hl 1 rfl) ?_
                          refine lv_iload_n hx hb dX6_inside_145 rfl (lv_at hl 2 rfl) ?_
                          refine lv_iload_n hx hb dX6_inside_146 rfl (lv_at hl 3 rfl) ?_
                          refine lv_iload hx hb dX6_inside_147 (lv_at hl 5 rfl) ?_
                          refine cp_i (va_runV (As := [.int p1, .int p2, .int p4]) (rest := []) ⟨hx, hb, hml, hown, hts⟩ (c_X6_turn l dC dI a cI cJ xs ys pl lp lq lr (0 : Int32) v1 v2 v3 v4 v5 v6 v7 p1 p2 p4 (by first | with_reducible assumption | exact in0_24 | exact in0_60 | decide) (by first | with_reducible assumption | exact in0_24 | exact in0_60 | decide) (by first | with_reducible assumption | exact in0_24 | exact in0_60 | decide)) (cwV 3 hts (gG_V mG_13_4 mG_13_5 mG_13_6 mG_1_5 (gG_c mG_13_7 gG_G)) rfl rfl rfl hd_X6_turn ⟨Nat.le_of_ble_eq_true rfl, Nat.le_of_ble_eq_true rfl⟩) (pPcV (ci := 10) (q0 := 0) hK hP rfl rfl) rfl rfl hl.1 rfl (lv_room (Nat.le_of_ble_eq_true rfl)) dX6_inside_149 ⟨Nat.le_of_ble_eq_true rfl, Nat.le_of_ble_eq_true rfl⟩) hP hS (fun H hP hS => ?_)
                          refine lv_if_le (tgt := 170) hx hb dX6_inside_152 (by decide) (fun c16 => ?_) (fun c16 => ?_)
                          · skip
                            refine lv_iconst (v := (0 : Int32)) hx hb dX6_inside_170 (by decide) ?_
                            have hE : (f_X6_inside xs ys v0 v1 p1 p2 p3 p4) = ((0 : Int32), (0 : Int32)) := (by subst ey11; simp only [f_X6_inside, if_neg c1, if_neg c2, if_neg c3, if_neg c4, if_pos c5, if_pos c6, if_pos c7, if_pos c8, if_pos c9, if_pos c10, if_neg c12, if_neg c13, if_pos c16])
                            exact rw_i hQ hx hb hr hlk (by rw [hE]; exact hP) hS (by rw [hE]) dX6_inside_171
                          · skip
                            refine lv_aload_n hx hb dX6_inside_155 rfl (lv_at hl 1 rfl) ?_
                            refine lv_iload_n hx hb dX6_inside_156 rfl (lv_at hl 2 rfl) ?_
                            refine lv_iload hx hb dX6_inside_157 (lv_at hl 5 rfl) ?_
                            refine lv_iload_n hx hb dX6_inside_159 rfl (lv_at hl 4 rfl) ?_
                            refine cp_i (va_runV (As := [.int p1, .int p4, .int p3]) (rest := []) ⟨hx, hb, hml, hown, hts⟩ (c_X6_turn l dC dI a cI cJ xs ys pl lp lq lr (0 : Int32) v1 v2 v3 v4 v5 v6 v7 p1 p4 p3 (by first | with_reducible assumption | exact in0_24 | exact in0_60 | decide) (by first | with_reducible assumption | exact in0_24 | exact in0_60 | decide) (by first | with_reducible assumption | exact in0_24 | exact in0_60 | decide)) (cwV 3 hts (gG_V mG_13_4 mG_13_5 mG_13_6 mG_1_5 (gG_c mG_13_7 gG_G)) rfl rfl rfl hd_X6_turn ⟨Nat.le_of_ble_eq_true rfl, Nat.le_of_ble_eq_true rfl⟩) (pPcV (ci := 10) (q0 := 0) hK hP rfl rfl) rfl rfl hl.1 rfl (lv_room (Nat.le_of_ble_eq_true rfl)) dX6_inside_160 ⟨Nat.le_of_ble_eq_true rfl, Nat.le_of_ble_eq_true rfl⟩) hP hS (fun H hP hS => ?_)
                            refine lv_if_le (tgt := 170) hx hb dX6_inside_163 (by decide) (fun c17 => ?_) (fun c17 => ?_)
                            · skip
                              refine lv_iconst (v := (0 : Int32)) hx hb dX6_inside_170 (by decide) ?_
                              have hE : (f_X6_inside xs ys v0 v1 p1 p2 p3 p4) = ((0 : Int32), (0 : Int32)) := (by subst ey11; simp only [f_X6_inside, if_neg c1, if_neg c2, if_neg c3, if_neg c4, if_pos c5, if_pos c6, if_pos c7, if_pos c8, if_pos c9, if_pos c10, if_neg c12, if_neg c13, if_neg c16, if_pos c17])
                              exact rw_i hQ hx hb hr hlk (by rw [hE]; exact hP) hS (by rw [hE]) dX6_inside_171
                            · skip
                              refine lv_iconst (v := (1 : Int32)) hx hb dX6_inside_166 (by decide) ?_
                              refine lv_goto (tgt := 171) hx hb dX6_inside_167 (by decide) ?_
                              have hE : (f_X6_inside xs ys v0 v1 p1 p2 p3 p4) = ((1 : Int32), (0 : Int32)) := (by subst ey11; simp only [f_X6_inside, if_neg c1, if_neg c2, if_neg c3, if_neg c4, if_pos c5, if_pos c6, if_pos c7, if_pos c8, if_pos c9, if_pos c10, if_neg c12, if_neg c13, if_neg c16, if_neg c17])
                              exact rw_i hQ hx hb hr hlk (by rw [hE]; exact hP) hS (by rw [hE]) dX6_inside_171
                      · skip
                        refine lv_aload_n hx hb dX6_inside_122 rfl (lv_at hl 1 rfl) ?_
                        refine lv_iload_n hx hb dX6_inside_123 rfl (lv_at hl 2 rfl) ?_
                        refine lv_iload_n hx hb dX6_inside_124 rfl (lv_at hl 3 rfl) ?_
                        refine lv_iload hx hb dX6_inside_125 (lv_at hl 5 rfl) ?_
                        refine cp_i (va_runV (As := [.int p1, .int p2, .int p4]) (rest := []) ⟨hx, hb, hml, hown, hts⟩ (c_X6_turn l dC dI a cI cJ xs ys pl lp lq lr (0 : Int32) v1 v2 v3 v4 v5 v6 v7 p1 p2 p4 (by first | with_reducible assumption | exact in0_24 | exact in0_60 | decide) (by first | with_reducible assumption | exact in0_24 | exact in0_60 | decide) (by first | with_reducible assumption | exact in0_24 | exact in0_60 | decide)) (cwV 3 hts (gG_V mG_13_4 mG_13_5 mG_13_6 mG_1_5 (gG_c mG_13_7 gG_G)) rfl rfl rfl hd_X6_turn ⟨Nat.le_of_ble_eq_true rfl, Nat.le_of_ble_eq_true rfl⟩) (pPcV (ci := 10) (q0 := 0) hK hP rfl rfl) rfl rfl hl.1 rfl (lv_room (Nat.le_of_ble_eq_true rfl)) dX6_inside_127 ⟨Nat.le_of_ble_eq_true rfl, Nat.le_of_ble_eq_true rfl⟩) hP hS (fun H hP hS => ?_)
                        refine lv_if_le (tgt := 137) hx hb dX6_inside_130 (by decide) (fun c18 => ?_) (fun c18 => ?_)
                        · skip
                          refine lv_iconst (v := (0 : Int32)) hx hb dX6_inside_137 (by decide) ?_
                          have hE : (f_X6_inside xs ys v0 v1 p1 p2 p3 p4) = ((0 : Int32), (0 : Int32)) := (by subst ey11; simp only [f_X6_inside, if_neg c1, if_neg c2, if_neg c3, if_neg c4, if_pos c5, if_pos c6, if_pos c7, if_pos c8, if_pos c9, if_pos c10, if_pos c12, if_pos c18])
                          exact rw_i hQ hx hb hr hlk (by rw [hE]; exact hP) hS (by rw [hE]) dX6_inside_138
                        · skip
                          refine lv_iconst (v := (1 : Int32)) hx hb dX6_inside_133 (by decide) ?_
                          refine lv_goto (tgt := 138) hx hb dX6_inside_134 (by decide) ?_
                          have hE : (f_X6_inside xs ys v0 v1 p1 p2 p3 p4) = ((1 : Int32), (0 : Int32)) := (by subst ey11; simp only [f_X6_inside, if_neg c1, if_neg c2, if_neg c3, if_neg c4, if_pos c5, if_pos c6, if_pos c7, if_pos c8, if_pos c9, if_pos c10, if_pos c12, if_neg c18])
                          exact rw_i hQ hx hb hr hlk (by rw [hE]; exact hP) hS (by rw [hE]) dX6_inside_138
                    · skip
                      refine lv_iconst (v := (0 : Int32)) hx hb dX6_inside_106 (by decide) ?_
                      have hE : (f_X6_inside xs ys v0 v1 p1 p2 p3 p4) = ((0 : Int32), (0 : Int32)) := (by simp only [f_X6_inside, if_neg c1, if_neg c2, if_neg c3, if_neg c4, if_pos c5, if_pos c6, if_pos c7, if_pos c8, if_pos c9, if_neg c10])
                      exact rw_i hQ hx hb hr hlk (by rw [hE]; exact hP) hS (by rw [hE]) dX6_inside_107
                  · skip
                    refine lv_iconst (v := (2 : Int32)) hx hb dX6_inside_94 (by decide) ?_
                    have hE : (f_X6_inside xs ys v0 v1 p1 p2 p3 p4) = ((2 : Int32), (0 : Int32)) := (by simp only [f_X6_inside, if_neg c1, if_neg c2, if_neg c3, if_neg c4, if_pos c5, if_pos c6, if_pos c7, if_pos c8, if_neg c9])
                    exact rw_i hQ hx hb hr hlk (by rw [hE]; exact hP) hS (by rw [hE]) dX6_inside_95
            · skip
              refine lv_bipush (v := (-4 : Int32)) hx hb dX6_inside_59 (by decide) ?_
              have hE : (f_X6_inside xs ys v0 v1 p1 p2 p3 p4) = ((-4 : Int32), (0 : Int32)) := (by simp only [f_X6_inside, if_neg c1, if_neg c2, if_neg c3, if_neg c4, if_pos c5, if_neg c6])
              exact rw_i hQ hx hb hr hlk (by rw [hE]; exact hP) hS (by rw [hE]) dX6_inside_61
        · skip
          refine lv_bipush (v := (-2 : Int32)) hx hb dX6_inside_38 (by decide) ?_
          have hE : (f_X6_inside xs ys v0 v1 p1 p2 p3 p4) = ((-2 : Int32), (0 : Int32)) := (by simp only [f_X6_inside, if_neg c1, if_neg c2, if_neg c3, if_pos c4])
          exact rw_i hQ hx hb hr hlk (by rw [hE]; exact hP) hS (by rw [hE]) dX6_inside_40
/-! X6_separated -/
theorem hs_X6_separated : yX6_separated.cls ≠ "java/lang/invoke/MethodHandle" ∧ yX6_separated.cls ≠ "java/lang/invoke/VarHandle" ∧ (parseMethodDescriptor yX6_separated.desc).map (fun d => d.parameters.length) = some 4 := by decide +kernel
theorem hd_X6_separated : yX6_separated.cls = RX6 ∧ yX6_separated.cls ≠ "java/lang/invoke/MethodHandle" ∧ yX6_separated.cls ≠ "java/lang/invoke/VarHandle" ∧ (parseMethodDescriptor yX6_separated.desc).map (fun d => d.parameters.length) = some 4 := ⟨rfl, hs_X6_separated⟩
def f_X6_separated (xs : Nat → Int32) (ys : Nat → Int32) (v0 : Int32) (v1 : Int32) (p1 : Int32) (p2 : Int32) (p3 : Int32) (p4 : Int32) : Int32 × Int32 := (if (f_X6_isPoint v1 p1) = 0 then ((-2 : Int32), (0 : Int32)) else (if (f_X6_isPoint v1 p2) = 0 then ((-2 : Int32), (0 : Int32)) else (if (f_X6_isPoint v1 p3) = 0 then ((-2 : Int32), (0 : Int32)) else (if (f_X6_isPoint v1 p4) = 0 then ((-2 : Int32), (0 : Int32)) else (if (f_X6_areEqual xs ys p1 p2) = 0 then (if (f_X6_areEqual xs ys p1 p3) = 0 then (if (f_X6_areEqual xs ys p1 p4) = 0 then (if (f_X6_areEqual xs ys p2 p3) = 0 then (if (f_X6_areEqual xs ys p2 p4) = 0 then (if (f_X6_areEqual xs ys p3 p4) = 0 then (if (f_X6_turn xs ys p1 p2 p3) = 0 then (if (f_X6_turn xs ys p1 p2 p4) = 0 then (if (f_X6_isOn xs ys p1 p2 p3) = (f_X6_isOn xs ys p1 p2 p4) then ((0 : Int32), (0 : Int32)) else ((1 : Int32), (0 : Int32))) else ((-4 : Int32), (0 : Int32))) else (if (f_X6_ring xs ys p1 p2 p3 p4) = 0 then (if 0 ≤ ((f_X6_turn xs ys p1 p2 p3) * (f_X6_turn xs ys p1 p2 p4)) then ((0 : Int32), (0 : Int32)) else ((1 : Int32), (0 : Int32))) else ((-4 : Int32), (0 : Int32)))) else ((-4 : Int32), (0 : Int32))) else ((-4 : Int32), (0 : Int32))) else ((-4 : Int32), (0 : Int32))) else ((-4 : Int32), (0 : Int32))) else ((-4 : Int32), (0 : Int32))) else ((-4 : Int32), (0 : Int32)))))))
abbrev rm_X6_separated : Room := { frames := 3, cells := 0, slots := 0, locals := 86 }
set_option maxHeartbeats 8000000 in
set_option maxRecDepth 100000 in
theorem c_X6_separated (l : Launch) (dC : Nat → ClassId) (dI : Nat → Nat → Nat) (a : Nat → Nat) (cI cJ : ClassId) (xs : Nat → Int32) (ys : Nat → Int32) (pl : Nat → Int32) (lp : Nat → Int64) (lq : Nat → Int64) (lr : Nat → Int64) (v0 : Int32) (v1 : Int32) (v2 : Int32) (v3 : Int32) (v4 : Int32) (v5 : Int32) (v6 : Int32) (v7 : Int32) (p1 : Int32) (p2 : Int32) (p3 : Int32) (p4 : Int32) (hv1 : v1 ≤ 60) : Met l yX6_separated (Cond.code yX6_separated cX6_separated 7 (some .int) :: lw_G) rm_X6_separated (wPc (dC, dI) (tIJ cI cJ) (wM a cI cJ xs ys pl lp lq lr v0 v1 v2 v3 v4 v5 v6 v7) [.ref (a 0), .int p1, .int p2, .int p3, .int p4]) (wQi (dC, dI) (wA (wM a cI cJ xs ys pl lp lq lr v0 v1 v2 v3 v4 v5 v6 v7)) (wM a cI cJ xs ys pl lp lq lr ((f_X6_separated xs ys v0 v1 p1 p2 p3 p4).2) v1 v2 v3 v4 v5 v6 v7) (f_X6_separated xs ys v0 v1 p1 p2 p3 p4).1) 0 0 (wA (wM a cI cJ xs ys pl lp lq lr v0 v1 v2 v3 v4 v5 v6 v7)) := by
  refine wm_of (by decide) (Nat.le_of_ble_eq_true rfl) ?_
  intro p e s m args below meth c Q ls hQ hx hb hr hlk hml hown hts hP hK hD hS hl
  have hown : s.vm.findClass RX6 = some m.cls := hown
  have hl : lv_has ls 7 [(0, .ref (a 0)), (1, .int p1), (2, .int p2), (3, .int p3), (4, .int p4)] := hl
  generalize hAe : wA (wM a cI cJ xs ys pl lp lq lr v0 v1 v2 v3 v4 v5 v6 v7) = A at hQ hD hS
  refine lv_aload_n hx hb dX6_separated_0 rfl (lv_at hl 0 rfl) ?_
  refine lv_iconst (v := (0 : Int32)) hx hb dX6_separated_1 (by decide) ?_
  refine va_put (D := (dC, dI)) (ci := 10) (v := .int (0 : Int32)) (ty := .int) (C := RX6) (T := TX6) (N := 14) hx hb hts (fun _ h => gI_wsX60 h) tyX6 tyX6_ok nmX6 hown hK.1 hP hD hS 0 rfl rfl 0 (by decide) (hts _ mG_5_12) (fun _ h9 => h9) rfl (by decide +kernel) rfl rfl (Nat.le_of_ble_eq_true rfl) dX6_separated_2 (fun H locs hP hD hS => ?_)
  have hP : va_P (dC, dI) vwCl (wM a cI cJ xs ys pl lp lq lr (0 : Int32) v1 v2 v3 v4 v5 v6 v7) H := hP
  have hD : va_D A (wM a cI cJ xs ys pl lp lq lr (0 : Int32) v1 v2 v3 v4 v5 v6 v7) := hD
  refine lv_aload_n hx hb dX6_separated_5 rfl (lv_at hl 0 rfl) ?_
  refine lv_iload_n hx hb dX6_separated_6 rfl (lv_at hl 1 rfl) ?_
  refine cp_i (va_runV (As := [.int p1]) (rest := []) ⟨hx, hb, hml, hown, hts⟩ (c_X6_isPoint l dC dI a cI cJ xs ys pl lp lq lr (0 : Int32) v1 v2 v3 v4 v5 v6 v7 p1 ) (cwV 1 hts (gG_V mG_8_5 mG_8_6 mG_8_7 mG_1_5 (gG_c mG_8_8 gG_G)) rfl rfl rfl hd_X6_isPoint ⟨Nat.le_of_ble_eq_true rfl, Nat.le_of_ble_eq_true rfl⟩) (pPcV (ci := 10) (q0 := 0) hK hP rfl rfl) rfl rfl hl.1 rfl (lv_room (Nat.le_of_ble_eq_true rfl)) dX6_separated_7 ⟨Nat.le_of_ble_eq_true rfl, Nat.le_of_ble_eq_true rfl⟩) hP hS (fun H hP hS => ?_)
  refine lv_if_eq (tgt := 38) hx hb dX6_separated_10 (by decide) (fun c1 => ?_) (fun c1 => ?_)
  · skip
    refine lv_bipush (v := (-2 : Int32)) hx hb dX6_separated_38 (by decide) ?_
    have hE : (f_X6_separated xs ys v0 v1 p1 p2 p3 p4) = ((-2 : Int32), (0 : Int32)) := (by simp only [f_X6_separated, if_pos c1])
    exact rw_i hQ hx hb hr hlk (by rw [hE]; exact hP) hS (by rw [hE]) dX6_separated_40
  · skip
    have hi1 : vp_in p1 60 := in_isPoint hv1 c1
    refine lv_aload_n hx hb dX6_separated_13 rfl (lv_at hl 0 rfl) ?_
    refine lv_iload_n hx hb dX6_separated_14 rfl (lv_at hl 2 rfl) ?_
    refine cp_i (va_runV (As := [.int p2]) (rest := []) ⟨hx, hb, hml, hown, hts⟩ (c_X6_isPoint l dC dI a cI cJ xs ys pl lp lq lr (0 : Int32) v1 v2 v3 v4 v5 v6 v7 p2 ) (cwV 1 hts (gG_V mG_8_5 mG_8_6 mG_8_7 mG_1_5 (gG_c mG_8_8 gG_G)) rfl rfl rfl hd_X6_isPoint ⟨Nat.le_of_ble_eq_true rfl, Nat.le_of_ble_eq_true rfl⟩) (pPcV (ci := 10) (q0 := 0) hK hP rfl rfl) rfl rfl hl.1 rfl (lv_room (Nat.le_of_ble_eq_true rfl)) dX6_separated_15 ⟨Nat.le_of_ble_eq_true rfl, Nat.le_of_ble_eq_true rfl⟩) hP hS (fun H hP hS => ?_)
    refine lv_if_eq (tgt := 38) hx hb dX6_separated_18 (by decide) (fun c2 => ?_) (fun c2 => ?_)
    · skip
      refine lv_bipush (v := (-2 : Int32)) hx hb dX6_separated_38 (by decide) ?_
      have hE : (f_X6_separated xs ys v0 v1 p1 p2 p3 p4) = ((-2 : Int32), (0 : Int32)) := (by simp only [f_X6_separated, if_neg c1, if_pos c2])
      exact rw_i hQ hx hb hr hlk (by rw [hE]; exact hP) hS (by rw [hE]) dX6_separated_40
    · skip
      have hi2 : vp_in p2 60 := in_isPoint hv1 c2
      refine lv_aload_n hx hb dX6_separated_21 rfl (lv_at hl 0 rfl) ?_
      refine lv_iload_n hx hb dX6_separated_22 rfl (lv_at hl 3 rfl) ?_
      refine cp_i (va_runV (As := [.int p3]) (rest := []) ⟨hx, hb, hml, hown, hts⟩ (c_X6_isPoint l dC dI a cI cJ xs ys pl lp lq lr (0 : Int32) v1 v2 v3 v4 v5 v6 v7 p3 ) (cwV 1 hts (gG_V mG_8_5 mG_8_6 mG_8_7 mG_1_5 (gG_c mG_8_8 gG_G)) rfl rfl rfl hd_X6_isPoint ⟨Nat.le_of_ble_eq_true rfl, Nat.le_of_ble_eq_true rfl⟩) (pPcV (ci := 10) (q0 := 0) hK hP rfl rfl) rfl rfl hl.1 rfl (lv_room (Nat.le_of_ble_eq_true rfl)) dX6_separated_23 ⟨Nat.le_of_ble_eq_true rfl, Nat.le_of_ble_eq_true rfl⟩) hP hS (fun H hP hS => ?_)
      refine lv_if_eq (tgt := 38) hx hb dX6_separated_26 (by decide) (fun c3 => ?_) (fun c3 => ?_)
      · skip
        refine lv_bipush (v := (-2 : Int32)) hx hb dX6_separated_38 (by decide) ?_
        have hE : (f_X6_separated xs ys v0 v1 p1 p2 p3 p4) = ((-2 : Int32), (0 : Int32)) := (by simp only [f_X6_separated, if_neg c1, if_neg c2, if_pos c3])
        exact rw_i hQ hx hb hr hlk (by rw [hE]; exact hP) hS (by rw [hE]) dX6_separated_40
      · skip
        have hi3 : vp_in p3 60 := in_isPoint hv1 c3
        refine lv_aload_n hx hb dX6_separated_29 rfl (lv_at hl 0 rfl) ?_
        refine lv_iload hx hb dX6_separated_30 (lv_at hl 4 rfl) ?_
        refine cp_i (va_runV (As := [.int p4]) (rest := []) ⟨hx, hb, hml, hown, hts⟩ (c_X6_isPoint l dC dI a cI cJ xs ys pl lp lq lr (0 : Int32) v1 v2 v3 v4 v5 v6 v7 p4 ) (cwV 1 hts (gG_V mG_8_5 mG_8_6 mG_8_7 mG_1_5 (gG_c mG_8_8 gG_G)) rfl rfl rfl hd_X6_isPoint ⟨Nat.le_of_ble_eq_true rfl, Nat.le_of_ble_eq_true rfl⟩) (pPcV (ci := 10) (q0 := 0) hK hP rfl rfl) rfl rfl hl.1 rfl (lv_room (Nat.le_of_ble_eq_true rfl)) dX6_separated_32 ⟨Nat.le_of_ble_eq_true rfl, Nat.le_of_ble_eq_true rfl⟩) hP hS (fun H hP hS => ?_)
        refine lv_if_ne (tgt := 41) hx hb dX6_separated_35 (by decide) (fun c4 => ?_) (fun c4 => ?_)
        · skip
          have hi4 : vp_in p4 60 := in_isPoint hv1 c4
          refine lv_aload_n hx hb dX6_separated_41 rfl (lv_at hl 0 rfl) ?_
          refine lv_iload_n hx hb dX6_separated_42 rfl (lv_at hl 1 rfl) ?_
          refine lv_iload_n hx hb dX6_separated_43 rfl (lv_at hl 2 rfl) ?_
          refine cp_i (va_runV (As := [.int p1, .int p2]) (rest := []) ⟨hx, hb, hml, hown, hts⟩ (c_X6_areEqual l dC dI a cI cJ xs ys pl lp lq lr (0 : Int32) v1 v2 v3 v4 v5 v6 v7 p1 p2 (by first | with_reducible assumption | exact in0_24 | exact in0_60 | decide) (by first | with_reducible assumption | exact in0_24 | exact in0_60 | decide)) (cwV 2 hts (gG_V mG_12_0 mG_12_1 mG_12_2 mG_1_5 (gG_c mG_12_3 gG_G)) rfl rfl rfl hd_X6_areEqual ⟨Nat.le_of_ble_eq_true rfl, Nat.le_of_ble_eq_true rfl⟩) (pPcV (ci := 10) (q0 := 0) hK hP rfl rfl) rfl rfl hl.1 rfl (lv_room (Nat.le_of_ble_eq_true rfl)) dX6_separated_44 ⟨Nat.le_of_ble_eq_true rfl, Nat.le_of_ble_eq_true rfl⟩) hP hS (fun H hP hS => ?_)
          refine lv_if_ne (tgt := 98) hx hb dX6_separated_47 (by decide) (fun c5 => ?_) (fun c5 => ?_)
          · skip
            refine lv_bipush (v := (-4 : Int32)) hx hb dX6_separated_98 (by decide) ?_
            have hE : (f_X6_separated xs ys v0 v1 p1 p2 p3 p4) = ((-4 : Int32), (0 : Int32)) := (by simp only [f_X6_separated, if_neg c1, if_neg c2, if_neg c3, if_neg c4, if_neg c5])
            exact rw_i hQ hx hb hr hlk (by rw [hE]; exact hP) hS (by rw [hE]) dX6_separated_100
          · skip
            refine lv_aload_n hx hb dX6_separated_50 rfl (lv_at hl 0 rfl) ?_
            refine lv_iload_n hx hb dX6_separated_51 rfl (lv_at hl 1 rfl) ?_
            refine lv_iload_n hx hb dX6_separated_52 rfl (lv_at hl 3 rfl) ?_
            refine cp_i (va_runV (As := [.int p1, .int p3]) (rest := []) ⟨hx, hb, hml, hown, hts⟩ (c_X6_areEqual l dC dI a cI cJ xs ys pl lp lq lr (0 : Int32) v1 v2 v3 v4 v5 v6 v7 p1 p3 (by first | with_reducible assumption | exact in0_24 | exact in0_60 | decide) (by first | with_reducible assumption | exact in0_24 | exact in0_60 | decide)) (cwV 2 hts (gG_V mG_12_0 mG_12_1 mG_12_2 mG_1_5 (gG_c mG_12_3 gG_G)) rfl rfl rfl hd_X6_areEqual ⟨Nat.le_of_ble_eq_true rfl, Nat.le_of_ble_eq_true rfl⟩) (pPcV (ci := 10) (q0 := 0) hK hP rfl rfl) rfl rfl hl.1 rfl (lv_room (Nat.le_of_ble_eq_true rfl)) dX6_separated_53 ⟨Nat.le_of_ble_eq_true rfl, Nat.le_of_ble_eq_true rfl⟩) hP hS (fun H hP hS => ?_)
            refine lv_if_ne (tgt := 98) hx hb dX6_separated_56 (by decide) (fun c6 => ?_) (fun c6 => ?_)
            · skip
              refine lv_bipush (v := (-4 : Int32)) hx hb dX6_separated_98 (by decide) ?_
              have hE : (f_X6_separated xs ys v0 v1 p1 p2 p3 p4) = ((-4 : Int32), (0 : Int32)) := (by simp only [f_X6_separated, if_neg c1, if_neg c2, if_neg c3, if_neg c4, if_pos c5, if_neg c6])
              exact rw_i hQ hx hb hr hlk (by rw [hE]; exact hP) hS (by rw [hE]) dX6_separated_100
            · skip
              refine lv_aload_n hx hb dX6_separated_59 rfl (lv_at hl 0 rfl) ?_
              refine lv_iload_n hx hb dX6_separated_60 rfl (lv_at hl 1 rfl) ?_
              refine lv_iload hx hb dX6_separated_61 (lv_at hl 4 rfl) ?_
              refine cp_i (va_runV (As := [.int p1, .int p4]) (rest := []) ⟨hx, hb, hml, hown, hts⟩ (c_X6_areEqual l dC dI a cI cJ xs ys pl lp lq lr (0 : Int32) v1 v2 v3 v4 v5 v6 v7 p1 p4 (by first | with_reducible assumption | exact in0_24 | exact in0_60 | decide) (by first | with_reducible assumption | exact in0_24 | exact in0_60 | decide)) (cwV 2 hts (gG_V mG_12_0 mG_12_1 mG_12_2 mG_1_5 (gG_c mG_12_3 gG_G)) rfl rfl rfl hd_X6_areEqual ⟨Nat.le_of_ble_eq_true rfl, Nat.le_of_ble_eq_true rfl⟩) (pPcV (ci := 10) (q0 := 0) hK hP rfl rfl) rfl rfl hl.1 rfl (lv_room (Nat.le_of_ble_eq_true rfl)) dX6_separated_63 ⟨Nat.le_of_ble_eq_true rfl, Nat.le_of_ble_eq_true rfl⟩) hP hS (fun H hP hS => ?_)
              refine lv_if_ne (tgt := 98) hx hb dX6_separated_66 (by decide) (fun c7 => ?_) (fun c7 => ?_)
              · skip
                refine lv_bipush (v := (-4 : Int32)) hx hb dX6_separated_98 (by decide) ?_
                have hE : (f_X6_separated xs ys v0 v1 p1 p2 p3 p4) = ((-4 : Int32), (0 : Int32)) := (by simp only [f_X6_separated, if_neg c1, if_neg c2, if_neg c3, if_neg c4, if_pos c5, if_pos c6, if_neg c7])
                exact rw_i hQ hx hb hr hlk (by rw [hE]; exact hP) hS (by rw [hE]) dX6_separated_100
              · skip
                refine lv_aload_n hx hb dX6_separated_69 rfl (lv_at hl 0 rfl) ?_
                refine lv_iload_n hx hb dX6_separated_70 rfl (lv_at hl 2 rfl) ?_
                refine lv_iload_n hx hb dX6_separated_71 rfl (lv_at hl 3 rfl) ?_
                refine cp_i (va_runV (As := [.int p2, .int p3]) (rest := []) ⟨hx, hb, hml, hown, hts⟩ (c_X6_areEqual l dC dI a cI cJ xs ys pl lp lq lr (0 : Int32) v1 v2 v3 v4 v5 v6 v7 p2 p3 (by first | with_reducible assumption | exact in0_24 | exact in0_60 | decide) (by first | with_reducible assumption | exact in0_24 | exact in0_60 | decide)) (cwV 2 hts (gG_V mG_12_0 mG_12_1 mG_12_2 mG_1_5 (gG_c mG_12_3 gG_G)) rfl rfl rfl hd_X6_areEqual ⟨Nat.le_of_ble_eq_true rfl, Nat.le_of_ble_eq_true rfl⟩) (pPcV (ci := 10) (q0 := 0) hK hP rfl rfl) rfl rfl hl.1 rfl (lv_room (Nat.le_of_ble_eq_true rfl)) dX6_separated_72 ⟨Nat.le_of_ble_eq_true rfl, Nat.le_of_ble_eq_true rfl⟩) hP hS (fun H hP hS => ?_)
                refine lv_if_ne (tgt := 98) hx hb dX6_separated_75 (by decide) (fun c8 => ?_) (fun c8 => ?_)
                · skip
                  refine lv_bipush (v := (-4 : Int32)) hx hb dX6_separated_98 (by decide) ?_
                  have hE : (f_X6_separated xs ys v0 v1 p1 p2 p3 p4) = ((-4 : Int32), (0 : Int32)) := (by simp only [f_X6_separated, if_neg c1, if_neg c2, if_neg c3, if_neg c4, if_pos c5, if_pos c6, if_pos c7, if_neg c8])
                  exact rw_i hQ hx hb hr hlk (by rw [hE]; exact hP) hS (by rw [hE]) dX6_separated_100
                · skip
                  refine lv_aload_n hx hb dX6_separated_78 rfl (lv_at hl 0 rfl) ?_
                  refine lv_iload_n hx hb dX6_separated_79 rfl (lv_at hl 2 rfl) ?_
                  refine lv_iload hx hb dX6_separated_80 (lv_at hl 4 rfl) ?_
                  refine cp_i (va_runV (As := [.int p2, .int p4]) (rest := []) ⟨hx, hb, hml, hown, hts⟩ (c_X6_areEqual l dC dI a cI cJ xs ys pl lp lq lr (0 : Int32) v1 v2 v3 v4 v5 v6 v7 p2 p4 (by first | with_reducible assumption | exact in0_24 | exact in0_60 | decide) (by first | with_reducible assumption | exact in0_24 | exact in0_60 | decide)) (cwV 2 hts (gG_V mG_12_0 mG_12_1 mG_12_2 mG_1_5 (gG_c mG_12_3 gG_G)) rfl rfl rfl hd_X6_areEqual ⟨Nat.le_of_ble_eq_true rfl, Nat.le_of_ble_eq_true rfl⟩) (pPcV (ci := 10) (q0 := 0) hK hP rfl rfl) rfl rfl hl.1 rfl (lv_room (Nat.le_of_ble_eq_true rfl)) dX6_separated_82 ⟨Nat.le_of_ble_eq_true rfl, Nat.le_of_ble_eq_true rfl⟩) hP hS (fun H hP hS => ?_)
                  refine lv_if_ne (tgt := 98) hx hb dX6_separated_85 (by decide) (fun c9 => ?_) (fun c9 => ?_)
                  · skip
                    refine lv_bipush (v := (-4 : Int32)) hx hb dX6_separated_98 (by decide) ?_
                    have hE : (f_X6_separated xs ys v0 v1 p1 p2 p3 p4) = ((-4 : Int32), (0 : Int32)) := (by simp only [f_X6_separated, if_neg c1, if_neg c2, if_neg c3, if_neg c4, if_pos c5, if_pos c6, if_pos c7, if_pos c8, if_neg c9])
                    exact rw_i hQ hx hb hr hlk (by rw [hE]; exact hP) hS (by rw [hE]) dX6_separated_100
                  · skip
                    refine lv_aload_n hx hb dX6_separated_88 rfl (lv_at hl 0 rfl) ?_
                    refine lv_iload_n hx hb dX6_separated_89 rfl (lv_at hl 3 rfl) ?_
                    refine lv_iload hx hb dX6_separated_90 (lv_at hl 4 rfl) ?_
                    refine cp_i (va_runV (As := [.int p3, .int p4]) (rest := []) ⟨hx, hb, hml, hown, hts⟩ (c_X6_areEqual l dC dI a cI cJ xs ys pl lp lq lr (0 : Int32) v1 v2 v3 v4 v5 v6 v7 p3 p4 (by first | with_reducible assumption | exact in0_24 | exact in0_60 | decide) (by first | with_reducible assumption | exact in0_24 | exact in0_60 | decide)) (cwV 2 hts (gG_V mG_12_0 mG_12_1 mG_12_2 mG_1_5 (gG_c mG_12_3 gG_G)) rfl rfl rfl hd_X6_areEqual ⟨Nat.le_of_ble_eq_true rfl, Nat.le_of_ble_eq_true rfl⟩) (pPcV (ci := 10) (q0 := 0) hK hP rfl rfl) rfl rfl hl.1 rfl (lv_room (Nat.le_of_ble_eq_true rfl)) dX6_separated_92 ⟨Nat.le_of_ble_eq_true rfl, Nat.le_of_ble_eq_true rfl⟩) hP hS (fun H hP hS => ?_)
                    refine lv_if_eq (tgt := 101) hx hb dX6_separated_95 (by decide) (fun c10 => ?_) (fun c10 => ?_)
                    · skip
                      refine lv_aload_n hx hb dX6_separated_101 rfl (lv_at hl 0 rfl) ?_
                      refine lv_iload_n hx hb dX6_separated_102 rfl (lv_at hl 1 rfl) ?_
                      refine lv_iload_n hx hb dX6_separated_103 rfl (lv_at hl 2 rfl) ?_
                      refine lv_iload_n hx hb dX6_separated_104 rfl (lv_at hl 3 rfl) ?_
                      refine cp_i (va_runV (As := [.int p1, .int p2, .int p3]) (rest := []) ⟨hx, hb, hml, hown, hts⟩ (c_X6_turn l dC dI a cI cJ xs ys pl lp lq lr (0 : Int32) v1 v2 v3 v4 v5 v6 v7 p1 p2 p3 (by first | with_reducible assumption | exact in0_24 | exact in0_60 | decide) (by first | with_reducible assumption | exact in0_24 | exact in0_60 | decide) (by first | with_reducible assumption | exact in0_24 | exact in0_60 | decide)) (cwV 3 hts (gG_V mG_13_4 mG_13_5 mG_13_6 mG_1_5 (gG_c mG_13_7 gG_G)) rfl rfl rfl hd_X6_turn ⟨Nat.le_of_ble_eq_true rfl, Nat.le_of_ble_eq_true rfl⟩) (pPcV (ci := 10) (q0 := 0) hK hP rfl rfl) rfl rfl hl.1 rfl (lv_room (Nat.le_of_ble_eq_true rfl)) dX6_separated_105 ⟨Nat.le_of_ble_eq_true rfl, Nat.le_of_ble_eq_true rfl⟩) hP hS (fun H hP hS => ?_)
                      refine lv_topi (fun y11 ey11 => ?_)
                      refine lv_istore (lv' := [(5, .int y11), (0, .ref (a 0)), (1, .int p1), (2, .int p2), (3, .int p3), (4, .int p4)]) hx hb dX6_separated_108 hl (by decide) rfl (fun ls hl => ?_)
                      refine lv_aload_n hx hb dX6_separated_110 rfl (lv_at hl 1 rfl) ?_
                      refine lv_iload_n hx hb dX6_separated_111 rfl (lv_at hl 2 rfl) ?_
                      refine lv_iload_n hx hb dX6_separated_112 rfl (lv_at hl 3 rfl) ?_
                      refine lv_iload hx hb dX6_separated_113 (lv_at hl 5 rfl) ?_
                      refine cp_i (va_runV (As := [.int p1, .int p2, .int p4]) (rest := []) ⟨hx, hb, hml, hown, hts⟩ (c_X6_turn l dC dI a cI cJ xs ys pl lp lq lr (0 : Int32) v1 v2 v3 v4 v5 v6 v7 p1 p2 p4 (by first | with_reducible assumption | exact in0_24 | exact in0_60 | decide) (by first | with_reducible assumption | exact in0_24 | exact in0_60 | decide) (by first | with_reducible assumption | exact in0_24 | exact in0_60 | decide)) (cwV 3 hts (gG_V mG_13_4 mG_13_5 mG_13_6 mG_1_5 (gG_c mG_13_7 gG_G)) rfl rfl rfl hd_X6_turn ⟨Nat.le_of_ble_eq_true rfl, Nat.le_of_ble_eq_true rfl⟩) (pPcV (ci := 10) (q0 := 0) hK hP rfl rfl) rfl rfl hl.1 rfl (lv_room (Nat.le_of_ble_eq_true rfl)) dX6_separated_115 ⟨Nat.le_of_ble_eq_true rfl, Nat.le_of_ble_eq_true rfl⟩) hP hS (fun H hP hS => ?_)
                      refine lv_topi (fun y12 ey12 => ?_)
                      refine lv_istore (lv' := [(6, .int y12), (5, .int y11), (0, .ref (a 0)), (1, .int p1), (2, .int p2), (3, .int p3), (4, .int p4)]) hx hb dX6_separated_118 hl (by decide) rfl (fun ls hl => ?_)
                      refine lv_iload hx hb dX6_separated_120 (lv_at hl 1 rfl) ?_
                      refine lv_if_ne (tgt := 154) hx hb dX6_separated_122 (by decide) (fun c13 => ?_) (fun c13 => ?_)
                      · skip
                        refine lv_iload hx hb dX6_separated_154 (lv_at hl 1 rfl) ?_
                        refine lv_if_eq (tgt := 171) hx hb dX6_separated_156 (by decide) (fun c14 => by subst ey11; subst ey12; exact absurd c14 c13) (fun _ => ?_)
                        refine lv_aload_n hx hb dX6_separated_159 rfl (lv_at hl 2 rfl) ?_
                        refine lv_iload_n hx hb dX6_separated_160 rfl (lv_at hl 3 rfl) ?_
                        refine lv_iload_n hx hb dX6_separated_161 rfl (lv_at hl 4 rfl) ?_
                        refine lv_iload_n hx hb dX6_separated_162 rfl (lv_at hl 5 rfl) ?_
                        refine lv_iload hx hb dX6_separated_163 (lv_at hl 6 rfl) ?_
                        refine cp_i (va_runV (As := [.int p1, .int p2, .int p3, .int p4]) (rest := []) ⟨hx, hb, hml, hown, hts⟩ (c_X6_ring l dC dI a cI cJ xs ys pl lp lq lr (0 : Int32) v1 v2 v3 v4 v5 v6 v7 p1 p2 p3 p4 (by first | with_reducible assumption | exact in0_24 | exact in0_60 | decide) (by first | with_reducible assumption | exact in0_24 | exact in0_60 | decide) (by first | with_reducible assumption | exact in0_24 | exact in0_60 | decide) (by first | with_reducible assumption | exact in0_24 | exact in0_60 | decide)) (cwV 4 hts (gG_V mG_14_17 mG_14_18 mG_14_19 mG_1_5 (gG_c mG_14_20 gG_G)) rfl rfl rfl hd_X6_ring ⟨Nat.le_of_ble_eq_true rfl, Nat.le_of_ble_eq_true rfl⟩) (pPcV (ci := 10) (q0 := 0) hK hP rfl rfl) rfl rfl hl.1 rfl (lv_room (Nat.le_of_ble_eq_true rfl)) dX6_separated_165 ⟨Nat.le_of_ble_eq_true rfl, Nat.le_of_ble_eq_true rfl⟩) hP hS (fun H hP hS => ?_)
                        refine lv_if_eq (tgt := 174) hx hb dX6_separated_168 (by decide) (fun c15 => ?_) (fun c15 => ?_)
                        · skip
                          refine lv_iload hx hb dX6_separated_174 (lv_at hl 1 rfl) ?_
                          refine lv_iload hx hb dX6_separated_176 (lv_at hl 0 rfl) ?_
                          refine lv_imul hx hb dX6_separated_178 ?_
                          refine lv_if_ge (tgt := 186) hx hb dX6_separated_179 (by decide) (fun c16 => ?_) (fun c16 => ?_)
                          · skip
                            refine lv_iconst (v := (0 : Int32)) hx hb dX6_separated_186 (by decide) ?_
                            have hE : (f_X6_separated xs ys v0 v1 p1 p2 p3 p4) = ((0 : Int32), (0 : Int32)) := (by subst ey11; subst ey12; simp only [f_X6_separated, if_neg c1, if_neg c2, if_neg c3, if_neg c4, if_pos c5, if_pos c6, if_pos c7, if_pos c8, if_pos c9, if_pos c10, if_neg c13, if_pos c15, if_pos c16])
                            exact rw_i hQ hx hb hr hlk (by rw [hE]; exact hP) hS (by rw [hE]) dX6_separated_187
                          · skip
                            refine lv_iconst (v := (1 : Int32)) hx hb dX6_separated_182 (by decide) ?_
                            refine lv_goto (tgt := 187) hx hb dX6_separated_183 (by decide) ?_
                            have hE : (f_X6_separated xs ys v0 v1 p1 p2 p3 p4) = ((1 : Int32), (0 : Int32)) := (by subst ey11; subst ey12; simp only [f_X6_separated, if_neg c1, if_neg c2, if_neg c3, if_neg c4, if_pos c5, if_pos c6, if_pos c7, if_pos c8, if_pos c9, if_pos c10, if_neg c13, if_pos c15, if_neg c16])
                            exact rw_i hQ hx hb hr hlk (by rw [hE]; exact hP) hS (by rw [hE]) dX6_separated_187
                        · skip
                          refine lv_bipush (v := (-4 : Int32)) hx hb dX6_separated_171 (by decide) ?_
                          have hE : (f_X6_separated xs ys v0 v1 p1 p2 p3 p4) = ((-4 : Int32), (0 : Int32)) := (by subst ey11; subst ey12; simp only [f_X6_separated, if_neg c1, if_neg c2, if_neg c3, if_neg c4, if_pos c5, if_pos c6, if_pos c7, if_pos c8, if_pos c9, if_pos c10, if_neg c13, if_neg c15])
                          exact rw_i hQ hx hb hr hlk (by rw [hE]; exact hP) hS (by rw [hE]) dX6_separated_173
                      · skip
                        refine lv_iload hx hb dX6_separated_125 (lv_at hl 0 rfl) ?_
                        refine lv_if_ne (tgt := 154) hx hb dX6_separated_127 (by decide) (fun c17 => ?_) (fun c17 => ?_)
                        · skip
                          refine lv_iload hx hb dX6_separated_154 (lv_at hl 1 rfl) ?_
                          refine lv_if_eq (tgt := 171) hx hb dX6_separated_156 (by decide) (fun _ => ?_) (fun c18 => by subst ey11; subst ey12; exact absurd c13 c18)
                          refine lv_bipush (v := (-4 : Int32)) hx hb dX6_separated_171 (by decide) ?_
                          have hE : (f_X6_separated xs ys v0 v1 p1 p2 p3 p4) = ((-4 : Int32), (0 : Int32)) := (by subst ey11; subst ey12; simp only [f_X6_separated, if_neg c1, if_neg c2, if_neg c3, if_neg c4, if_pos c5, if_pos c6, if_pos c7, if_pos c8, if_pos c9, if_pos c10, if_pos c13, if_neg c17])
                          exact rw_i hQ hx hb hr hlk (by rw [hE]; exact hP) hS (by rw [hE]) dX6_separated_173
                        · skip
                          refine lv_aload_n hx hb dX6_separated_130 rfl (lv_at hl 2 rfl) ?_
                          refine lv_iload_n hx hb dX6_separated_131 rfl (lv_at hl 3 rfl) ?_
                          refine lv_iload_n hx hb dX6_separated_132 rfl (lv_at hl 4 rfl) ?_
                          refine lv_iload_n hx hb dX6_separated_133 rfl (lv_at hl 5 rfl) ?_
                          refine cp_i (va_runV (As := [.int p1, .int p2, .int p3]) (rest := []) ⟨hx, hb, hml, hown, hts⟩ (c_X6_isOn l dC dI a cI cJ xs ys pl lp lq lr (0 : Int32) v1 v2 v3 v4 v5 v6 v7 p1 p2 p3 (by first | with_reducible assumption | exact in0_24 | exact in0_60 | decide) (by first | with_reducible assumption | exact in0_24 | exact in0_60 | decide) (by first | with_reducible assumption | exact in0_24 | exact in0_60 | decide)) (cwV 3 hts (gG_V mG_16_20 mG_16_21 mG_16_22 mG_1_5 (gG_c mG_16_23 gG_G)) rfl rfl rfl hd_X6_isOn ⟨Nat.le_of_ble_eq_true rfl, Nat.le_of_ble_eq_true rfl⟩) (pPcV (ci := 10) (q0 := 0) hK hP rfl rfl) rfl rfl hl.1 rfl (lv_room (Nat.le_of_ble_eq_true rfl)) dX6_separated_134 ⟨Nat.le_of_ble_eq_true rfl, Nat.le_of_ble_eq_true rfl⟩) hP hS (fun H hP hS => ?_)
                          refine lv_aload_n hx hb dX6_separated_137 rfl (lv_at hl 2 rfl) ?_
                          refine lv_iload_n hx hb dX6_separated_138 rfl (lv_at hl 3 rfl) ?_
                          refine lv_iload_n hx hb dX6_separated_139 rfl (lv_at hl 4 rfl) ?_
                          refine lv_iload hx hb dX6_separated_140 (lv_at hl 6 rfl) ?_
                          refine cp_i (va_runV (As := [.int p1, .int p2, .int p4]) (rest := [.int (f_X6_isOn xs ys p1 p2 p3)]) ⟨hx, hb, hml, hown, hts⟩ (c_X6_isOn l dC dI a cI cJ xs ys pl lp lq lr (0 : Int32) v1 v2 v3 v4 v5 v6 v7 p1 p2 p4 (by first | with_reducible assumption | exact in0_24 | exact in0_60 | decide) (by first | with_reducible assumption | exact in0_24 | exact in0_60 | decide) (by first | with_reducible assumption | exact in0_24 | exact in0_60 | decide)) (cwV 3 hts (gG_V mG_16_20 mG_16_21 mG_16_22 mG_1_5 (gG_c mG_16_23 gG_G)) rfl rfl rfl hd_X6_isOn ⟨Nat.le_of_ble_eq_true rfl, Nat.le_of_ble_eq_true rfl⟩) (pPcV (ci := 10) (q0 := 0) hK hP rfl rfl) rfl rfl hl.1 rfl (lv_room (Nat.le_of_ble_eq_true rfl)) dX6_separated_142 ⟨Nat.le_of_ble_eq_true rfl, Nat.le_of_ble_eq_true rfl⟩) hP hS (fun H hP hS => ?_)
                          refine lv_icmp_eq (tgt := 152) hx hb dX6_separated_145 (by decide) (fun c19 => ?_) (fun c19 => ?_)
                          · skip
                            refine lv_iconst (v := (0 : Int32)) hx hb dX6_separated_152 (by decide) ?_
                            have hE : (f_X6_separated xs ys v0 v1 p1 p2 p3 p4) = ((0 : Int32), (0 : Int32)) := (by subst ey11; subst ey12; simp only [f_X6_separated, if_neg c1, if_neg c2, if_neg c3, if_neg c4, if_pos c5, if_pos c6, if_pos c7, if_pos c8, if_pos c9, if_pos c10, if_pos c13, if_pos c17, if_pos c19])
                            exact rw_i hQ hx hb hr hlk (by rw [hE]; exact hP) hS (by rw [hE]) dX6_separated_153
                          · skip
                            refine lv_iconst (v := (1 : Int32)) hx hb dX6_separated_148 (by decide) ?_
                            refine lv_goto (tgt := 153) hx hb dX6_separated_149 (by decide) ?_
                            have hE : (f_X6_separated xs ys v0 v1 p1 p2 p3 p4) = ((1 : Int32), (0 : Int32)) := (by subst ey11; subst ey12; simp only [f_X6_separated, if_neg c1, if_neg c2, if_neg c3, if_neg c4, if_pos c5, if_pos c6, if_pos c7, if_pos c8, if_pos c9, if_pos c10, if_pos c13, if_pos c17, if_neg c19])
                            exact rw_i hQ hx hb hr hlk (by rw [hE]; exact hP) hS (by rw [hE]) dX6_separated_153
                    · skip
                      refine lv_bipush (v := (-4 : Int32)) hx hb dX6_separated_98 (by decide) ?_
                      have hE : (f_X6_separated xs ys v0 v1 p1 p2 p3 p4) = ((-4 : Int32), (0 : Int32)) := (by simp only [f_X6_separated, if_neg c1, if_neg c2, if_neg c3, if_neg c4, if_pos c5, if_pos c6, if_pos c7, if_pos c8, if_pos c9, if_neg c10])
                      exact rw_i hQ hx hb hr hlk (by rw [hE]; exact hP) hS (by rw [hE]) dX6_separated_100
        · skip
          refine lv_bipush (v := (-2 : Int32)) hx hb dX6_separated_38 (by decide) ?_
          have hE : (f_X6_separated xs ys v0 v1 p1 p2 p3 p4) = ((-2 : Int32), (0 : Int32)) := (by simp only [f_X6_separated, if_neg c1, if_neg c2, if_neg c3, if_pos c4])
          exact rw_i hQ hx hb hr hlk (by rw [hE]; exact hP) hS (by rw [hE]) dX6_separated_40
/-! X6_cross -/
theorem hs_X6_cross : yX6_cross.cls ≠ "java/lang/invoke/MethodHandle" ∧ yX6_cross.cls ≠ "java/lang/invoke/VarHandle" ∧ (parseMethodDescriptor yX6_cross.desc).map (fun d => d.parameters.length) = some 4 := by decide +kernel
theorem hd_X6_cross : yX6_cross.cls = RX6 ∧ yX6_cross.cls ≠ "java/lang/invoke/MethodHandle" ∧ yX6_cross.cls ≠ "java/lang/invoke/VarHandle" ∧ (parseMethodDescriptor yX6_cross.desc).map (fun d => d.parameters.length) = some 4 := ⟨rfl, hs_X6_cross⟩
def f_X6_cross_J145 (xs : Nat → Int32) (ys : Nat → Int32) (v0 : Int32) (v1 : Int32) (p1 : Int32) (p2 : Int32) (p3 : Int32) (p4 : Int32) (y5 : Int32) (y6 : Int32) (y7 : Int32) (y8 : Int32) : Int32 × Int32 := (if 0 ≤ (y5 * y6) then (if (f_X6_isOn xs ys p1 p2 p3) = 0 then (if (f_X6_isOn xs ys p1 p2 p4) = 0 then (if (f_X6_isOn xs ys p3 p4 p1) = 0 then (if (f_X6_isOn xs ys p3 p4 p2) = 0 then ((0 : Int32), (0 : Int32)) else ((2 : Int32), (0 : Int32))) else ((2 : Int32), (0 : Int32))) else ((2 : Int32), (0 : Int32))) else ((2 : Int32), (0 : Int32))) else (if 0 ≤ (y7 * y8) then (if (f_X6_isOn xs ys p1 p2 p3) = 0 then (if (f_X6_isOn xs ys p1 p2 p4) = 0 then (if (f_X6_isOn xs ys p3 p4 p1) = 0 then (if (f_X6_isOn xs ys p3 p4 p2) = 0 then ((0 : Int32), (0 : Int32)) else ((2 : Int32), (0 : Int32))) else ((2 : Int32), (0 : Int32))) else ((2 : Int32), (0 : Int32))) else ((2 : Int32), (0 : Int32))) else ((1 : Int32), (0 : Int32))))
def f_X6_cross (xs : Nat → Int32) (ys : Nat → Int32) (v0 : Int32) (v1 : Int32) (p1 : Int32) (p2 : Int32) (p3 : Int32) (p4 : Int32) : Int32 × Int32 := (if (f_X6_isPoint v1 p1) = 0 then ((-2 : Int32), (0 : Int32)) else (if (f_X6_isPoint v1 p2) = 0 then ((-2 : Int32), (0 : Int32)) else (if (f_X6_isPoint v1 p3) = 0 then ((-2 : Int32), (0 : Int32)) else (if (f_X6_isPoint v1 p4) = 0 then ((-2 : Int32), (0 : Int32)) else (if (f_X6_turn xs ys p1 p2 p3) = 0 then (if (f_X6_turn xs ys p1 p2 p4) = 0 then (if (f_X6_turn xs ys p3 p4 p1) = 0 then (if (f_X6_turn xs ys p3 p4 p2) = 0 then (if (f_X6_common xs ys p1 p2 p3 p4) = (2 : Int32) then ((3 : Int32), (0 : Int32)) else (if (f_X6_common xs ys p1 p2 p3 p4) = (1 : Int32) then ((2 : Int32), (0 : Int32)) else ((0 : Int32), (0 : Int32)))) else (f_X6_cross_J145 xs ys v0 v1 p1 p2 p3 p4 (f_X6_turn xs ys p1 p2 p3) (f_X6_turn xs ys p1 p2 p4) (f_X6_turn xs ys p3 p4 p1) (f_X6_turn xs ys p3 p4 p2))) else (f_X6_cross_J145 xs ys v0 v1 p1 p2 p3 p4 (f_X6_turn xs ys p1 p2 p3) (f_X6_turn xs ys p1 p2 p4) (f_X6_turn xs ys p3 p4 p1) (f_X6_turn xs ys p3 p4 p2))) else (f_X6_cross_J145 xs ys v0 v1 p1 p2 p3 p4 (f_X6_turn xs ys p1 p2 p3) (f_X6_turn xs ys p1 p2 p4) (f_X6_turn xs ys p3 p4 p1) (f_X6_turn xs ys p3 p4 p2))) else (f_X6_cross_J145 xs ys v0 v1 p1 p2 p3 p4 (f_X6_turn xs ys p1 p2 p3) (f_X6_turn xs ys p1 p2 p4) (f_X6_turn xs ys p3 p4 p1) (f_X6_turn xs ys p3 p4 p2)))))))
abbrev rm_X6_cross : Room := { frames := 4, cells := 0, slots := 0, locals := 96 }
set_option maxHeartbeats 8000000 in
set_option maxRecDepth 100000 in
theorem c_X6_cross (l : Launch) (dC : Nat → ClassId) (dI : Nat → Nat → Nat) (a : Nat → Nat) (cI cJ : ClassId) (xs : Nat → Int32) (ys : Nat → Int32) (pl : Nat → Int32) (lp : Nat → Int64) (lq : Nat → Int64) (lr : Nat → Int64) (v0 : Int32) (v1 : Int32) (v2 : Int32) (v3 : Int32) (v4 : Int32) (v5 : Int32) (v6 : Int32) (v7 : Int32) (p1 : Int32) (p2 : Int32) (p3 : Int32) (p4 : Int32) (hv1 : v1 ≤ 60) : Met l yX6_cross (Cond.code yX6_cross cX6_cross 11 (some .int) :: lw_G) rm_X6_cross (wPc (dC, dI) (tIJ cI cJ) (wM a cI cJ xs ys pl lp lq lr v0 v1 v2 v3 v4 v5 v6 v7) [.ref (a 0), .int p1, .int p2, .int p3, .int p4]) (wQi (dC, dI) (wA (wM a cI cJ xs ys pl lp lq lr v0 v1 v2 v3 v4 v5 v6 v7)) (wM a cI cJ xs ys pl lp lq lr ((f_X6_cross xs ys v0 v1 p1 p2 p3 p4).2) v1 v2 v3 v4 v5 v6 v7) (f_X6_cross xs ys v0 v1 p1 p2 p3 p4).1) 0 0 (wA (wM a cI cJ xs ys pl lp lq lr v0 v1 v2 v3 v4 v5 v6 v7)) := by
  refine wm_of (by decide) (Nat.le_of_ble_eq_true rfl) ?_
  intro p e s m args below meth c Q ls hQ hx hb hr hlk hml hown hts hP hK hD hS hl
  have hown : s.vm.findClass RX6 = some m.cls := hown
  have hl : lv_has ls 11 [(0, .ref (a 0)), (1, .int p1), (2, .int p2), (3, .int p3), (4, .int p4)] := hl
  generalize hAe : wA (wM a cI cJ xs ys pl lp lq lr v0 v1 v2 v3 v4 v5 v6 v7) = A at hQ hD hS
  obtain ⟨F, eF⟩ : ∃ F, F = (f_X6_cross xs ys v0 v1 p1 p2 p3 p4) := ⟨_, rfl⟩
  refine lv_aload_n hx hb dX6_cross_0 rfl (lv_at hl 0 rfl) ?_
  refine lv_iconst (v := (0 : Int32)) hx hb dX6_cross_1 (by decide) ?_
  refine va_put (D := (dC, dI)) (ci := 10) (v := .int (0 : Int32)) (ty := .int) (C := RX6) (T := TX6) (N := 14) hx hb hts (fun _ h => gI_wsX60 h) tyX6 tyX6_ok nmX6 hown hK.1 hP hD hS 0 rfl rfl 0 (by decide) (hts _ mG_5_12) (fun _ h9 => h9) rfl (by decide +kernel) rfl rfl (Nat.le_of_ble_eq_true rfl) dX6_cross_2 (fun H locs hP hD hS => ?_)
  have hP : va_P (dC, dI) vwCl (wM a cI cJ xs ys pl lp lq lr (0 : Int32) v1 v2 v3 v4 v5 v6 v7) H := hP
  have hD : va_D A (wM a cI cJ xs ys pl lp lq lr (0 : Int32) v1 v2 v3 v4 v5 v6 v7) := hD
  refine lv_aload_n hx hb dX6_cross_5 rfl (lv_at hl 0 rfl) ?_
  refine lv_iload_n hx hb dX6_cross_6 rfl (lv_at hl 1 rfl) ?_
  refine cp_i (va_runV (As := [.int p1]) (rest := []) ⟨hx, hb, hml, hown, hts⟩ (c_X6_isPoint l dC dI a cI cJ xs ys pl lp lq lr (0 : Int32) v1 v2 v3 v4 v5 v6 v7 p1 ) (cwV 1 hts (gG_V mG_8_5 mG_8_6 mG_8_7 mG_1_5 (gG_c mG_8_8 gG_G)) rfl rfl rfl hd_X6_isPoint ⟨Nat.le_of_ble_eq_true rfl, Nat.le_of_ble_eq_true rfl⟩) (pPcV (ci := 10) (q0 := 0) hK hP rfl rfl) rfl rfl hl.1 rfl (lv_room (Nat.le_of_ble_eq_true rfl)) dX6_cross_7 ⟨Nat.le_of_ble_eq_true rfl, Nat.le_of_ble_eq_true rfl⟩) hP hS (fun H hP hS => ?_)
  refine lv_if_eq (tgt := 38) hx hb dX6_cross_10 (by decide) (fun c1 => ?_) (fun c1 => ?_)
  · skip
    refine lv_bipush (v := (-2 : Int32)) hx hb dX6_cross_38 (by decide) ?_
    have hE : (f_X6_cross xs ys v0 v1 p1 p2 p3 p4) = ((-2 : Int32), (0 : Int32)) := (by simp only [f_X6_cross, if_pos c1])
    exact rw_i hQ hx hb hr hlk (by rw [hE]; exact hP) hS (by rw [hE]) dX6_cross_40
  · skip
    have hi1 : vp_in p1 60 := in_isPoint hv1 c1
    refine lv_aload_n hx hb dX6_cross_13 rfl (lv_at hl 0 rfl) ?_
    refine lv_iload_n hx hb dX6_cross_14 rfl (lv_at hl 2 rfl) ?_
    refine cp_i (va_runV (As := [.int p2]) (rest := []) ⟨hx, hb, hml, hown, hts⟩ (c_X6_isPoint l dC dI a cI cJ xs ys pl lp lq lr (0 : Int32) v1 v2 v3 v4 v5 v6 v7 p2 ) (cwV 1 hts (gG_V mG_8_5 mG_8_6 mG_8_7 mG_1_5 (gG_c mG_8_8 gG_G)) rfl rfl rfl hd_X6_isPoint ⟨Nat.le_of_ble_eq_true rfl, Nat.le_of_ble_eq_true rfl⟩) (pPcV (ci := 10) (q0 := 0) hK hP rfl rfl) rfl rfl hl.1 rfl (lv_room (Nat.le_of_ble_eq_true rfl)) dX6_cross_15 ⟨Nat.le_of_ble_eq_true rfl, Nat.le_of_ble_eq_true rfl⟩) hP hS (fun H hP hS => ?_)
    refine lv_if_eq (tgt := 38) hx hb dX6_cross_18 (by decide) (fun c2 => ?_) (fun c2 => ?_)
    · skip
      refine lv_bipush (v := (-2 : Int32)) hx hb dX6_cross_38 (by decide) ?_
      have hE : (f_X6_cross xs ys v0 v1 p1 p2 p3 p4) = ((-2 : Int32), (0 : Int32)) := (by simp only [f_X6_cross, if_neg c1, if_pos c2])
      exact rw_i hQ hx hb hr hlk (by rw [hE]; exact hP) hS (by rw [hE]) dX6_cross_40
    · skip
      have hi2 : vp_in p2 60 := in_isPoint hv1 c2
      refine lv_aload_n hx hb dX6_cross_21 rfl (lv_at hl 0 rfl) ?_
      refine lv_iload_n hx hb dX6_cross_22 rfl (lv_at hl 3 rfl) ?_
      refine cp_i (va_runV (As := [.int p3]) (rest := []) ⟨hx, hb, hml, hown, hts⟩ (c_X6_isPoint l dC dI a cI cJ xs ys pl lp lq lr (0 : Int32) v1 v2 v3 v4 v5 v6 v7 p3 ) (cwV 1 hts (gG_V mG_8_5 mG_8_6 mG_8_7 mG_1_5 (gG_c mG_8_8 gG_G)) rfl rfl rfl hd_X6_isPoint ⟨Nat.le_of_ble_eq_true rfl, Nat.le_of_ble_eq_true rfl⟩) (pPcV (ci := 10) (q0 := 0) hK hP rfl rfl) rfl rfl hl.1 rfl (lv_room (Nat.le_of_ble_eq_true rfl)) dX6_cross_23 ⟨Nat.le_of_ble_eq_true rfl, Nat.le_of_ble_eq_true rfl⟩) hP hS (fun H hP hS => ?_)
      refine lv_if_eq (tgt := 38) hx hb dX6_cross_26 (by decide) (fun c3 => ?_) (fun c3 => ?_)
      · skip
        refine lv_bipush (v := (-2 : Int32)) hx hb dX6_cross_38 (by decide) ?_
        have hE : (f_X6_cross xs ys v0 v1 p1 p2 p3 p4) = ((-2 : Int32), (0 : Int32)) := (by simp only [f_X6_cross, if_neg c1, if_neg c2, if_pos c3])
        exact rw_i hQ hx hb hr hlk (by rw [hE]; exact hP) hS (by rw [hE]) dX6_cross_40
      · skip
        have hi3 : vp_in p3 60 := in_isPoint hv1 c3
        refine lv_aload_n hx hb dX6_cross_29 rfl (lv_at hl 0 rfl) ?_
        refine lv_iload hx hb dX6_cross_30 (lv_at hl 4 rfl) ?_
        refine cp_i (va_runV (As := [.int p4]) (rest := []) ⟨hx, hb, hml, hown, hts⟩ (c_X6_isPoint l dC dI a cI cJ xs ys pl lp lq lr (0 : Int32) v1 v2 v3 v4 v5 v6 v7 p4 ) (cwV 1 hts (gG_V mG_8_5 mG_8_6 mG_8_7 mG_1_5 (gG_c mG_8_8 gG_G)) rfl rfl rfl hd_X6_isPoint ⟨Nat.le_of_ble_eq_true rfl, Nat.le_of_ble_eq_true rfl⟩) (pPcV (ci := 10) (q0 := 0) hK hP rfl rfl) rfl rfl hl.1 rfl (lv_room (Nat.le_of_ble_eq_true rfl)) dX6_cross_32 ⟨Nat.le_of_ble_eq_true rfl, Nat.le_of_ble_eq_true rfl⟩) hP hS (fun H hP hS => ?_)
        refine lv_if_ne (tgt := 41) hx hb dX6_cross_35 (by decide) (fun c4 => ?_) (fun c4 => ?_)
        · skip
          have hi4 : vp_in p4 60 := in_isPoint hv1 c4
          refine lv_aload_n hx hb dX6_cross_41 rfl (lv_at hl 0 rfl) ?_
          refine lv_iload_n hx hb dX6_cross_42 rfl (lv_at hl 1 rfl) ?_
          refine lv_iload_n hx hb dX6_cross_43 rfl (lv_at hl 2 rfl) ?_
          refine lv_iload_n hx hb dX6_cross_44 rfl (lv_at hl 3 rfl) ?_
          refine cp_i (va_runV (As := [.int p1, .int p2, .int p3]) (rest := []) ⟨hx, hb, hml, hown, hts⟩ (c_X6_turn l dC dI a cI cJ xs ys pl lp lq lr (0 : Int32) v1 v2 v3 v4 v5 v6 v7 p1 p2 p3 (by first | with_reducible assumption | exact in0_24 | exact in0_60 | decide) (by first | with_reducible assumption | exact in0_24 | exact in0_60 | decide) (by first | with_reducible assumption | exact in0_24 | exact in0_60 | decide)) (cwV 3 hts (gG_V mG_13_4 mG_13_5 mG_13_6 mG_1_5 (gG_c mG_13_7 gG_G)) rfl rfl rfl hd_X6_turn ⟨Nat.le_of_ble_eq_true rfl, Nat.le_of_ble_eq_true rfl⟩) (pPcV (ci := 10) (q0 := 0) hK hP rfl rfl) rfl rfl hl.1 rfl (lv_room (Nat.le_of_ble_eq_true rfl)) dX6_cross_45 ⟨Nat.le_of_ble_eq_true rfl, Nat.le_of_ble_eq_true rfl⟩) hP hS (fun H hP hS => ?_)
          refine lv_topi (fun y5 ey5 => ?_)
          refine lv_istore (lv' := [(5, .int y5), (0, .ref (a 0)), (1, .int p1), (2, .int p2), (3, .int p3), (4, .int p4)]) hx hb dX6_cross_48 hl (by decide) rfl (fun ls hl => ?_)
          refine lv_aload_n hx hb dX6_cross_50 rfl (lv_at hl 1 rfl) ?_
          refine lv_iload_n hx hb dX6_cross_51 rfl (lv_at hl 2 rfl) ?_
          refine lv_iload_n hx hb dX6_cross_52 rfl (lv_at hl 3 rfl) ?_
          refine lv_iload hx hb dX6_cross_53 (lv_at hl 5 rfl) ?_
          refine cp_i (va_runV (As := [.int p1, .int p2, .int p4]) (rest := []) ⟨hx, hb, hml, hown, hts⟩ (c_X6_turn l dC dI a cI cJ xs ys pl lp lq lr (0 : Int32) v1 v2 v3 v4 v5 v6 v7 p1 p2 p4 (by first | with_reducible assumption | exact in0_24 | exact in0_60 | decide) (by first | with_reducible assumption | exact in0_24 | exact in0_60 | decide) (by first | with_reducible assumption | exact in0_24 | exact in0_60 | decide)) (cwV 3 hts (gG_V mG_13_4 mG_13_5 mG_13_6 mG_1_5 (gG_c mG_13_7 gG_G)) rfl rfl rfl hd_X6_turn ⟨Nat.le_of_ble_eq_true rfl, Nat.le_of_ble_eq_true rfl⟩) (pPcV (ci := 10) (q0 := 0) hK hP rfl rfl) rfl rfl hl.1 rfl (lv_room (Nat.le_of_ble_eq_true rfl)) dX6_cross_55 ⟨Nat.le_of_ble_eq_true rfl, Nat.le_of_ble_eq_true rfl⟩) hP hS (fun H hP hS => ?_)
          refine lv_topi (fun y6 ey6 => ?_)
          refine lv_istore (lv' := [(6, .int y6), (5, .int y5), (0, .ref (a 0)), (1, .int p1), (2, .int p2), (3, .int p3), (4, .int p4)]) hx hb dX6_cross_58 hl (by decide) rfl (fun ls hl => ?_)
          refine lv_aload_n hx hb dX6_cross_60 rfl (lv_at hl 2 rfl) ?_
          refine lv_iload_n hx hb dX6_cross_61 rfl (lv_at hl 5 rfl) ?_
          refine lv_iload hx hb dX6_cross_62 (lv_at hl 6 rfl) ?_
          refine lv_iload_n hx hb dX6_cross_64 rfl (lv_at hl 3 rfl) ?_
          refine cp_i (va_runV (As := [.int p3, .int p4, .int p1]) (rest := []) ⟨hx, hb, hml, hown, hts⟩ (c_X6_turn l dC dI a cI cJ xs ys pl lp lq lr (0 : Int32) v1 v2 v3 v4 v5 v6 v7 p3 p4 p1 (by first | with_reducible assumption | exact in0_24 | exact in0_60 | decide) (by first | with_reducible assumption | exact in0_24 | exact in0_60 | decide) (by first | with_reducible assumption | exact in0_24 | exact in0_60 | decide)) (cwV 3 hts (gG_V mG_13_4 mG_13_5 mG_13_6 mG_1_5 (gG_c mG_13_7 gG_G)) rfl rfl rfl hd_X6_turn ⟨Nat.le_of_ble_eq_true rfl, Nat.le_of_ble_eq_true rfl⟩) (pPcV (ci := 10) (q0 := 0) hK hP rfl rfl) rfl rfl hl.1 rfl (lv_room (Nat.le_of_ble_eq_true rfl)) dX6_cross_65 ⟨Nat.le_of_ble_eq_true rfl, Nat.le_of_ble_eq_true rfl⟩) hP hS (fun H hP hS => ?_)
          refine lv_topi (fun y7 ey7 => ?_)
          refine lv_istore (lv' := [(7, .int y7), (6, .int y6), (5, .int y5), (0, .ref (a 0)), (1, .int p1), (2, .int p2), (3, .int p3), (4, .int p4)]) hx hb dX6_cross_68 hl (by decide) rfl (fun ls hl => ?_)
          refine lv_aload_n hx hb dX6_cross_70 rfl (lv_at hl 3 rfl) ?_
          refine lv_iload_n hx hb dX6_cross_71 rfl (lv_at hl 6 rfl) ?_
          refine lv_iload hx hb dX6_cross_72 (lv_at hl 7 rfl) ?_
          refine lv_iload_n hx hb dX6_cross_74 rfl (lv_at hl 5 rfl) ?_
          refine cp_i (va_runV (As := [.int p3, .int p4, .int p2]) (rest := []) ⟨hx, hb, hml, hown, hts⟩ (c_X6_turn l dC dI a cI cJ xs ys pl lp lq lr (0 : Int32) v1 v2 v3 v4 v5 v6 v7 p3 p4 p2 (by first | with_reducible assumption | exact in0_24 | exact in0_60 | decide) (by first | with_reducible assumption | exact in0_24 | exact in0_60 | decide) (by first | with_reducible assumption | exact in0_24 | exact in0_60 | decide)) (cwV 3 hts (gG_V mG_13_4 mG_13_5 mG_13_6 mG_1_5 (gG_c mG_13_7 gG_G)) rfl rfl rfl hd_X6_turn ⟨Nat.le_of_ble_eq_true rfl, Nat.le_of_ble_eq_true rfl⟩) (pPcV (ci := 10) (q0 := 0) hK hP rfl rfl) rfl rfl hl.1 rfl (lv_room (Nat.le_of_ble_eq_true rfl)) dX6_cross_75 ⟨Nat.le_of_ble_eq_true rfl, Nat.le_of_ble_eq_true rfl⟩) hP hS (fun H hP hS => ?_)
          refine lv_topi (fun y8 ey8 => ?_)
          refine lv_istore (lv' := [(8, .int y8), (7, .int y7), (6, .int y6), (5, .int y5), (0, .ref (a 0)), (1, .int p1), (2, .int p2), (3, .int p3), (4, .int p4)]) hx hb dX6_cross_78 hl (by decide) rfl (fun ls hl => ?_)
          have K145 : F = f_X6_cross_J145 xs ys v0 v1 p1 p2 p3 p4 y5 y6 y7 y8 → ∀ (H : Heap) (locs : List Loc), va_P (dC, dI) vwCl (wM a cI cJ xs ys pl lp lq lr (0 : Int32) v1 v2 v3 v4 v5 v6 v7) H → va_D A (wM a cI cJ xs ys pl lp lq lr (0 : Int32) v1 v2 v3 v4 v5 v6 v7) → va_S A s.heap H locs → ∀ (ls : Array Slot), lv_has ls 11 [(0, .ref (a 0)), (1, .int p1), (2, .int p2), (3, .int p3), (4, .int p4), (5, .int y5), (6, .int y6), (7, .int y7), (8, .int y8)] → W p l e rm_X6_cross s m args below meth c H locs 0 0 Q (F0 m 145 ls []) := by
            intro hF H locs hP hD hS ls hl
            refine lv_iload hx hb dX6_cross_145 (lv_at hl 5 rfl) ?_
            refine lv_iload hx hb dX6_cross_147 (lv_at hl 6 rfl) ?_
            refine lv_imul hx hb dX6_cross_149 ?_
            refine lv_if_ge (tgt := 163) hx hb dX6_cross_150 (by decide) (fun c9 => ?_) (fun c9 => ?_)
            · skip
              refine lv_aload_n hx hb dX6_cross_163 rfl (lv_at hl 0 rfl) ?_
              refine lv_iload_n hx hb dX6_cross_164 rfl (lv_at hl 1 rfl) ?_
              refine lv_iload_n hx hb dX6_cross_165 rfl (lv_at hl 2 rfl) ?_
              refine lv_iload_n hx hb dX6_cross_166 rfl (lv_at hl 3 rfl) ?_
              refine cp_i (va_runV (As := [.int p1, .int p2, .int p3]) (rest := []) ⟨hx, hb, hml, hown, hts⟩ (c_X6_isOn l dC dI a cI cJ xs ys pl lp lq lr (0 : Int32) v1 v2 v3 v4 v5 v6 v7 p1 p2 p3 (by first | with_reducible assumption | exact in0_24 | exact in0_60 | decide) (by first | with_reducible assumption | exact in0_24 | exact in0_60 | decide) (by first | with_reducible assumption | exact in0_24 | exact in0_60 | decide)) (cwV 3 hts (gG_V mG_16_20 mG_16_21 mG_16_22 mG_1_5 (gG_c mG_16_23 gG_G)) rfl rfl rfl hd_X6_isOn ⟨Nat.le_of_ble_eq_true rfl, Nat.le_of_ble_eq_true rfl⟩) (pPcV (ci := 10) (q0 := 0) hK hP rfl rfl) rfl rfl hl.1 rfl (lv_room (Nat.le_of_ble_eq_true rfl)) dX6_cross_167 ⟨Nat.le_of_ble_eq_true rfl, Nat.le_of_ble_eq_true rfl⟩) hP hS (fun H hP hS => ?_)
              refine lv_if_ne (tgt := 206) hx hb dX6_cross_170 (by decide) (fun c10 => ?_) (fun c10 => ?_)
              · skip
                refine lv_iconst (v := (2 : Int32)) hx hb dX6_cross_206 (by decide) ?_
                refine lv_goto (tgt := 211) hx hb dX6_cross_207 (by decide) ?_
                have hE : F = ((2 : Int32), (0 : Int32)) := (by rw [hF]; simp only [f_X6_cross_J145, if_pos c9, if_neg c10])
                rw [eF] at hE
                exact rw_i hQ hx hb hr hlk (by rw [hE]; exact hP) hS (by rw [hE]) dX6_cross_211
              · skip
                refine lv_aload_n hx hb dX6_cross_173 rfl (lv_at hl 0 rfl) ?_
                refine lv_iload_n hx hb dX6_cross_174 rfl (lv_at hl 1 rfl) ?_
                refine lv_iload_n hx hb dX6_cross_175 rfl (lv_at hl 2 rfl) ?_
                refine lv_iload hx hb dX6_cross_176 (lv_at hl 4 rfl) ?_
                refine cp_i (va_runV (As := [.int p1, .int p2, .int p4]) (rest := []) ⟨hx, hb, hml, hown, hts⟩ (c_X6_isOn l dC dI a cI cJ xs ys pl lp lq lr (0 : Int32) v1 v2 v3 v4 v5 v6 v7 p1 p2 p4 (by first | with_reducible assumption | exact in0_24 | exact in0_60 | decide) (by first | with_reducible assumption | exact in0_24 | exact in0_60 | decide) (by first | with_reducible assumption | exact in0_24 | exact in0_60 | decide)) (cwV 3 hts (gG_V mG_16_20 mG_16_21 mG_16_22 mG_1_5 (gG_c mG_16_23 gG_G)) rfl rfl rfl hd_X6_isOn ⟨Nat.le_of_ble_eq_true rfl, Nat.le_of_ble_eq_true rfl⟩) (pPcV (ci := 10) (q0 := 0) hK hP rfl rfl) rfl rfl hl.1 rfl (lv_room (Nat.le_of_ble_eq_true rfl)) dX6_cross_178 ⟨Nat.le_of_ble_eq_true rfl, Nat.le_of_ble_eq_true rfl⟩) hP hS (fun H hP hS => ?_)
                refine lv_if_ne (tgt := 206) hx hb dX6_cross_181 (by decide) (fun c11 => ?_) (fun c11 => ?_)
                · skip
                  refine lv_iconst (v := (2 : Int32)) hx hb dX6_cross_206 (by decide) ?_
                  refine lv_goto (tgt := 211) hx hb dX6_cross_207 (by decide) ?_
                  have hE : F = ((2 : Int32), (0 : Int32)) := (by rw [hF]; simp only [f_X6_cross_J145, if_pos c9, if_pos c10, if_neg c11])
                  rw [eF] at hE
                  exact rw_i hQ hx hb hr hlk (by rw [hE]; exact hP) hS (by rw [hE]) dX6_cross_211
                · skip
                  refine lv_aload_n hx hb dX6_cross_184 rfl (lv_at hl 0 rfl) ?_
                  refine lv_iload_n hx hb dX6_cross_185 rfl (lv_at hl 3 rfl) ?_
                  refine lv_iload hx hb dX6_cross_186 (lv_at hl 4 rfl) ?_
                  refine lv_iload_n hx hb dX6_cross_188 rfl (lv_at hl 1 rfl) ?_
                  refine cp_i (va_runV (As := [.int p3, .int p4, .int p1]) (rest := []) ⟨hx, hb, hml, hown, hts⟩ (c_X6_isOn l dC dI a cI cJ xs ys pl lp lq lr (0 : Int32) v1 v2 v3 v4 v5 v6 v7 p3 p4 p1 (by first | with_reducible assumption | exact in0_24 | exact in0_60 | decide) (by first | with_reducible assumption | exact in0_24 | exact in0_60 | decide) (by first | with_reducible assumption | exact in0_24 | exact in0_60 | decide)) (cwV 3 hts (gG_V mG_16_20 mG_16_21 mG_16_22 mG_1_5 (gG_c mG_16_23 gG_G)) rfl rfl rfl hd_X6_isOn ⟨Nat.le_of_ble_eq_true rfl, Nat.le_of_ble_eq_true rfl⟩) (pPcV (ci := 10) (q0 := 0) hK hP rfl rfl) rfl rfl hl.1 rfl (lv_room (Nat.le_of_ble_eq_true rfl)) dX6_cross_189 ⟨Nat.le_of_ble_eq_true rfl, Nat.le_of_ble_eq_true rfl⟩) hP hS (fun H hP hS => ?_)
                  refine lv_if_ne (tgt := 206) hx hb dX6_cross_192 (by decide) (fun c12 => ?_) (fun c12 => ?_)
                  · skip
                    refine lv_iconst (v := (2 : Int32)) hx hb dX6_cross_206 (by decide) ?_
                    refine lv_goto (tgt := 211) hx hb dX6_cross_207 (by decide) ?_
                    have hE : F = ((2 : Int32), (0 : Int32)) := (by rw [hF]; simp only [f_X6_cross_J145, if_pos c9, if_pos c10, if_pos c11, if_neg c12])
                    rw [eF] at hE
                    exact rw_i hQ hx hb hr hlk (by rw [hE]; exact hP) hS (by rw [hE]) dX6_cross_211
                  · skip
                    refine lv_aload_n hx hb dX6_cross_195 rfl (lv_at hl 0 rfl) ?_
                    refine lv_iload_n hx hb dX6_cross_196 rfl (lv_at hl 3 rfl) ?_
                    refine lv_iload hx hb dX6_cross_197 (lv_at hl 4 rfl) ?_
                    refine lv_iload_n hx hb dX6_cross_199 rfl (lv_at hl 2 rfl) ?_
                    refine cp_i (va_runV (As := [.int p3, .int p4, .int p2]) (rest := []) ⟨hx, hb, hml, hown, hts⟩ (c_X6_isOn l dC dI a cI cJ xs ys pl lp lq lr (0 : Int32) v1 v2 v3 v4 v5 v6 v7 p3 p4 p2 (by first | with_reducible assumption | exact in0_24 | exact in0_60 | decide) (by first | with_reducible assumption | exact in0_24 | exact in0_60 | decide) (by first | with_reducible assumption | exact in0_24 | exact in0_60 | decide)) (cwV 3 hts (gG_V mG_16_20 mG_16_21 mG_16_22 mG_1_5 (gG_c mG_16_23 gG_G)) rfl rfl rfl hd_X6_isOn ⟨Nat.le_of_ble_eq_true rfl, Nat.le_of_ble_eq_true rfl⟩) (pPcV (ci := 10) (q0 := 0) hK hP rfl rfl) rfl rfl hl.1 rfl (lv_room (Nat.le_of_ble_eq_true rfl)) dX6_cross_200 ⟨Nat.le_of_ble_eq_true rfl, Nat.le_of_ble_eq_true rfl⟩) hP hS (fun H hP hS => ?_)
                    refine lv_if_eq (tgt := 210) hx hb dX6_cross_203 (by decide) (fun c13 => ?_) (fun c13 => ?_)
                    · skip
                      refine lv_iconst (v := (0 : Int32)) hx hb dX6_cross_210 (by decide) ?_
                      have hE : F = ((0 : Int32), (0 : Int32)) := (by rw [hF]; simp only [f_X6_cross_J145, if_pos c9, if_pos c10, if_pos c11, if_pos c12, if_pos c13])
                      rw [eF] at hE
                      exact rw_i hQ hx hb hr hlk (by rw [hE]; exact hP) hS (by rw [hE]) dX6_cross_211
                    · skip
                      refine lv_iconst (v := (2 : Int32)) hx hb dX6_cross_206 (by decide) ?_
                      refine lv_goto (tgt := 211) hx hb dX6_cross_207 (by decide) ?_
                      have hE : F = ((2 : Int32), (0 : Int32)) := (by rw [hF]; simp only [f_X6_cross_J145, if_pos c9, if_pos c10, if_pos c11, if_pos c12, if_neg c13])
                      rw [eF] at hE
                      exact rw_i hQ hx hb hr hlk (by rw [hE]; exact hP) hS (by rw [hE]) dX6_cross_211
            · skip
              refine lv_iload hx hb dX6_cross_153 (lv_at hl 7 rfl) ?_
              refine lv_iload hx hb dX6_cross_155 (lv_at hl 8 rfl) ?_
              refine lv_imul hx hb dX6_cross_157 ?_
              refine lv_if_ge (tgt := 163) hx hb dX6_cross_158 (by decide) (fun c14 => ?_) (fun c14 => ?_)
              · skip
                refine lv_aload_n hx hb dX6_cross_163 rfl (lv_at hl 0 rfl) ?_
                refine lv_iload_n hx hb dX6_cross_164 rfl (lv_at hl 1 rfl) ?_
                refine lv_iload_n hx hb dX6_cross_165 rfl (lv_at hl 2 rfl) ?_
                refine lv_iload_n hx hb dX6_cross_166 rfl (lv_at hl 3 rfl) ?_
                refine cp_i (va_runV (As := [.int p1, .int p2, .int p3]) (rest := []) ⟨hx, hb, hml, hown, hts⟩ (c_X6_isOn l dC dI a cI cJ xs ys pl lp lq lr (0 : Int32) v1 v2 v3 v4 v5 v6 v7 p1 p2 p3 (by first | with_reducible assumption | exact in0_24 | exact in0_60 | decide) (by first | with_reducible assumption | exact in0_24 | exact in0_60 | decide) (by first | with_reducible assumption | exact in0_24 | exact in0_60 | decide)) (cwV 3 hts (gG_V mG_16_20 mG_16_21 mG_16_22 mG_1_5 (gG_c mG_16_23 gG_G)) rfl rfl rfl hd_X6_isOn ⟨Nat.le_of_ble_eq_true rfl, Nat.le_of_ble_eq_true rfl⟩) (pPcV (ci := 10) (q0 := 0) hK hP rfl rfl) rfl rfl hl.1 rfl (lv_room (Nat.le_of_ble_eq_true rfl)) dX6_cross_167 ⟨Nat.le_of_ble_eq_true rfl, Nat.le_of_ble_eq_true rfl⟩) hP hS (fun H hP hS => ?_)
                refine lv_if_ne (tgt := 206) hx hb dX6_cross_170 (by decide) (fun c15 => ?_) (fun c15 => ?_)
                · skip
                  refine lv_iconst (v := (2 : Int32)) hx hb dX6_cross_206 (by decide) ?_
                  refine lv_goto (tgt := 211) hx hb dX6_cross_207 (by decide) ?_
                  have hE : F = ((2 : Int32), (0 : Int32)) := (by rw [hF]; simp only [f_X6_cross_J145, if_neg c9, if_pos c14, if_neg c15])
                  rw [eF] at hE
                  exact rw_i hQ hx hb hr hlk (by rw [hE]; exact hP) hS (by rw [hE]) dX6_cross_211
                · skip
                  refine lv_aload_n hx hb dX6_cross_173 rfl (lv_at hl 0 rfl) ?_
                  refine lv_iload_n hx hb dX6_cross_174 rfl (lv_at hl 1 rfl) ?_
                  refine lv_iload_n hx hb dX6_cross_175 rfl (lv_at hl 2 rfl) ?_
                  refine lv_iload hx hb dX6_cross_176 (lv_at hl 4 rfl) ?_
                  refine cp_i (va_runV (As := [.int p1, .int p2, .int p4]) (rest := []) ⟨hx, hb, hml, hown, hts⟩ (c_X6_isOn l dC dI a cI cJ xs ys pl lp lq lr (0 : Int32) v1 v2 v3 v4 v5 v6 v7 p1 p2 p4 (by first | with_reducible assumption | exact in0_24 | exact in0_60 | decide) (by first | with_reducible assumption | exact in0_24 | exact in0_60 | decide) (by first | with_reducible assumption | exact in0_24 | exact in0_60 | decide)) (cwV 3 hts (gG_V mG_16_20 mG_16_21 mG_16_22 mG_1_5 (gG_c mG_16_23 gG_G)) rfl rfl rfl hd_X6_isOn ⟨Nat.le_of_ble_eq_true rfl, Nat.le_of_ble_eq_true rfl⟩) (pPcV (ci := 10) (q0 := 0) hK hP rfl rfl) rfl rfl hl.1 rfl (lv_room (Nat.le_of_ble_eq_true rfl)) dX6_cross_178 ⟨Nat.le_of_ble_eq_true rfl, Nat.le_of_ble_eq_true rfl⟩) hP hS (fun H hP hS => ?_)
                  refine lv_if_ne (tgt := 206) hx hb dX6_cross_181 (by decide) (fun c16 => ?_) (fun c16 => ?_)
                  · skip
                    refine lv_iconst (v := (2 : Int32)) hx hb dX6_cross_206 (by decide) ?_
                    refine lv_goto (tgt := 211) hx hb dX6_cross_207 (by decide) ?_
                    have hE : F = ((2 : Int32), (0 : Int32)) := (by rw [hF]; simp only [f_X6_cross_J145, if_neg c9, if_pos c14, if_pos c15, if_neg c16])
                    rw [eF] at hE
                    exact rw_i hQ hx hb hr hlk (by rw [hE]; exact hP) hS (by rw [hE]) dX6_cross_211
                  · skip
                    refine lv_aload_n hx hb dX6_cross_184 rfl (lv_at hl 0 rfl) ?_
                    refine lv_iload_n hx hb dX6_cross_185 rfl (lv_at hl 3 rfl) ?_
                    refine lv_iload hx hb dX6_cross_186 (lv_at hl 4 rfl) ?_
                    refine lv_iload_n hx hb dX6_cross_188 rfl (lv_at hl 1 rfl) ?_
                    refine cp_i (va_runV (As := [.int p3, .int p4, .int p1]) (rest := []) ⟨hx, hb, hml, hown, hts⟩ (c_X6_isOn l dC dI a cI cJ xs ys pl lp lq lr (0 : Int32) v1 v2 v3 v4 v5 v6 v7 p3 p4 p1 (by first | with_reducible assumption | exact in0_24 | exact in0_60 | decide) (by first | with_reducible assumption | exact in0_24 | exact in0_60 | decide) (by first | with_reducible assumption | exact in0_24 | exact in0_60 | decide)) (cwV 3 hts (gG_V mG_16_20 mG_16_21 mG_16_22 mG_1_5 (gG_c mG_16_23 gG_G)) rfl rfl rfl hd_X6_isOn ⟨Nat.le_of_ble_eq_true rfl, Nat.le_of_ble_eq_true rfl⟩) (pPcV (ci := 10) (q0 := 0) hK hP rfl rfl) rfl rfl hl.1 rfl (lv_room (Nat.le_of_ble_eq_true rfl)) dX6_cross_189 ⟨Nat.le_of_ble_eq_true rfl, Nat.le_of_ble_eq_true rfl⟩) hP hS (fun H hP hS => ?_)
                    refine lv_if_ne (tgt := 206) hx hb dX6_cross_192 (by decide) (fun c17 => ?_) (fun c17 => ?_)
                    · skip
                      refine lv_iconst (v := (2 : Int32)) hx hb dX6_cross_206 (by decide) ?_
                      refine lv_goto (tgt := 211) hx hb dX6_cross_207 (by decide) ?_
                      have hE : F = ((2 : Int32), (0 : Int32)) := (by rw [hF]; simp only [f_X6_cross_J145, if_neg c9, if_pos c14, if_pos c15, if_pos c16, if_neg c17])
                      rw [eF] at hE
                      exact rw_i hQ hx hb hr hlk (by rw [hE]; exact hP) hS (by rw [hE]) dX6_cross_211
                    · skip
                      refine lv_aload_n hx hb dX6_cross_195 rfl (lv_at hl 0 rfl) ?_
                      refine lv_iload_n hx hb dX6_cross_196 rfl (lv_at hl 3 rfl) ?_
                      refine lv_iload hx hb dX6_cross_197 (lv_at hl 4 rfl) ?_
                      refine lv_iload_n hx hb dX6_cross_199 rfl (lv_at hl 2 rfl) ?_
                      refine cp_i (va_runV (As := [.int p3, .int p4, .int p2]) (rest := []) ⟨hx, hb, hml, hown, hts⟩ (c_X6_isOn l dC dI a cI cJ xs ys pl lp lq lr (0 : Int32) v1 v2 v3 v4 v5 v6 v7 p3 p4 p2 (by first | with_reducible assumption | exact in0_24 | exact in0_60 | decide) (by first | with_reducible assumption | exact in0_24 | exact in0_60 | decide) (by first | with_reducible assumption | exact in0_24 | exact in0_60 | decide)) (cwV 3 hts (gG_V mG_16_20 mG_16_21 mG_16_22 mG_1_5 (gG_c mG_16_23 gG_G)) rfl rfl rfl hd_X6_isOn ⟨Nat.le_of_ble_eq_true rfl, Nat.le_of_ble_eq_true rfl⟩) (pPcV (ci := 10) (q0 := 0) hK hP rfl rfl) rfl rfl hl.1 rfl (lv_room (Nat.le_of_ble_eq_true rfl)) dX6_cross_200 ⟨Nat.le_of_ble_eq_true rfl, Nat.le_of_ble_eq_true rfl⟩) hP hS (fun H hP hS => ?_)
                      refine lv_if_eq (tgt := 210) hx hb dX6_cross_203 (by decide) (fun c18 => ?_) (fun c18 => ?_)
                      · skip
                        refine lv_iconst (v := (0 : Int32)) hx hb dX6_cross_210 (by decide) ?_
                        have hE : F = ((0 : Int32), (0 : Int32)) := (by rw [hF]; simp only [f_X6_cross_J145, if_neg c9, if_pos c14, if_pos c15, if_pos c16, if_pos c17, if_pos c18])
                        rw [eF] at hE
                        exact rw_i hQ hx hb hr hlk (by rw [hE]; exact hP) hS (by rw [hE]) dX6_cross_211
                      · skip
                        refine lv_iconst (v := (2 : Int32)) hx hb dX6_cross_206 (by decide) ?_
                        refine lv_goto (tgt := 211) hx hb dX6_cross_207 (by decide) ?_
                        have hE : F = ((2 : Int32), (0 : Int32)) := (by rw [hF]; simp only [f_X6_cross_J145, if_neg c9, if_pos c14, if_pos c15, if_pos c16, if_pos c17, if_neg c18])
                        rw [eF] at hE
                        exact rw_i hQ hx hb hr hlk (by rw [hE]; exact hP) hS (by rw [hE]) dX6_cross_211
              · skip
                refine lv_iconst (v := (1 : Int32)) hx hb dX6_cross_161 (by decide) ?_
                have hE : F = ((1 : Int32), (0 : Int32)) := (by rw [hF]; simp only [f_X6_cross_J145, if_neg c9, if_neg c14])
                rw [eF] at hE
                exact rw_i hQ hx hb hr hlk (by rw [hE]; exact hP) hS (by rw [hE]) dX6_cross_162
          refine lv_iload hx hb dX6_cross_80 (lv_at hl 3 rfl) ?_
          refine lv_if_ne (tgt := 104) hx hb dX6_cross_82 (by decide) (fun c19 => ?_) (fun c19 => ?_)
          · skip
            refine lv_iconst (v := (0 : Int32)) hx hb dX6_cross_104 (by decide) ?_
            refine lv_istore (lv' := [(9, .int (0 : Int32)), (8, .int y8), (7, .int y7), (6, .int y6), (5, .int y5), (0, .ref (a 0)), (1, .int p1), (2, .int p2), (3, .int p3), (4, .int p4)]) hx hb dX6_cross_105 hl (by decide) rfl (fun ls hl => ?_)
            refine lv_iload hx hb dX6_cross_107 (lv_at hl 0 rfl) ?_
            refine lv_if_eq (tgt := 145) hx hb dX6_cross_109 (by decide) (fun _ => ?_) (fun c9 => absurd c9 (by decide))
            exact K145  (by subst ey5; subst ey6; subst ey7; subst ey8; rw [eF]; simp only [f_X6_cross, if_neg c1, if_neg c2, if_neg c3, if_neg c4, if_neg c19]) _ _ hP hD hS ls (lv_sub hl [5, 6, 7, 8, 9, 4, 3, 2, 1] rfl)
          · skip
            refine lv_iload hx hb dX6_cross_85 (lv_at hl 2 rfl) ?_
            refine lv_if_ne (tgt := 104) hx hb dX6_cross_87 (by decide) (fun c20 => ?_) (fun c20 => ?_)
            · skip
              refine lv_iconst (v := (0 : Int32)) hx hb dX6_cross_104 (by decide) ?_
              refine lv_istore (lv' := [(9, .int (0 : Int32)), (8, .int y8), (7, .int y7), (6, .int y6), (5, .int y5), (0, .ref (a 0)), (1, .int p1), (2, .int p2), (3, .int p3), (4, .int p4)]) hx hb dX6_cross_105 hl (by decide) rfl (fun ls hl => ?_)
              refine lv_iload hx hb dX6_cross_107 (lv_at hl 0 rfl) ?_
              refine lv_if_eq (tgt := 145) hx hb dX6_cross_109 (by decide) (fun _ => ?_) (fun c9 => absurd c9 (by decide))
              exact K145  (by subst ey5; subst ey6; subst ey7; subst ey8; rw [eF]; simp only [f_X6_cross, if_neg c1, if_neg c2, if_neg c3, if_neg c4, if_pos c19, if_neg c20]) _ _ hP hD hS ls (lv_sub hl [5, 6, 7, 8, 9, 4, 3, 2, 1] rfl)
            · skip
              refine lv_iload hx hb dX6_cross_90 (lv_at hl 1 rfl) ?_
              refine lv_if_ne (tgt := 104) hx hb dX6_cross_92 (by decide) (fun c21 => ?_) (fun c21 => ?_)
              · skip
                refine lv_iconst (v := (0 : Int32)) hx hb dX6_cross_104 (by decide) ?_
                refine lv_istore (lv' := [(9, .int (0 : Int32)), (8, .int y8), (7, .int y7), (6, .int y6), (5, .int y5), (0, .ref (a 0)), (1, .int p1), (2, .int p2), (3, .int p3), (4, .int p4)]) hx hb dX6_cross_105 hl (by decide) rfl (fun ls hl => ?_)
                refine lv_iload hx hb dX6_cross_107 (lv_at hl 0 rfl) ?_
                refine lv_if_eq (tgt := 145) hx hb dX6_cross_109 (by decide) (fun _ => ?_) (fun c9 => absurd c9 (by decide))
                exact K145  (by subst ey5; subst ey6; subst ey7; subst ey8; rw [eF]; simp only [f_X6_cross, if_neg c1, if_neg c2, if_neg c3, if_neg c4, if_pos c19, if_pos c20, if_neg c21]) _ _ hP hD hS ls (lv_sub hl [5, 6, 7, 8, 9, 4, 3, 2, 1] rfl)
              · skip
                refine lv_iload hx hb dX6_cross_95 (lv_at hl 0 rfl) ?_
                refine lv_if_ne (tgt := 104) hx hb dX6_cross_97 (by decide) (fun c22 => ?_) (fun c22 => ?_)
                · skip
                  refine lv_iconst (v := (0 : Int32)) hx hb dX6_cross_104 (by decide) ?_
                  refine lv_istore (lv' := [(9, .int (0 : Int32)), (8, .int y8), (7, .int y7), (6, .int y6), (5, .int y5), (0, .ref (a 0)), (1, .int p1), (2, .int p2), (3, .int p3), (4, .int p4)]) hx hb dX6_cross_105 hl (by decide) rfl (fun ls hl => ?_)
                  refine lv_iload hx hb dX6_cross_107 (lv_at hl 0 rfl) ?_
                  refine lv_if_eq (tgt := 145) hx hb dX6_cross_109 (by decide) (fun _ => ?_) (fun c9 => absurd c9 (by decide))
                  exact K145  (by subst ey5; subst ey6; subst ey7; subst ey8; rw [eF]; simp only [f_X6_cross, if_neg c1, if_neg c2, if_neg c3, if_neg c4, if_pos c19, if_pos c20, if_pos c21, if_neg c22]) _ _ hP hD hS ls (lv_sub hl [5, 6, 7, 8, 9, 4, 3, 2, 1] rfl)
                · skip
                  refine lv_iconst (v := (1 : Int32)) hx hb dX6_cross_100 (by decide) ?_
                  refine lv_goto (tgt := 105) hx hb dX6_cross_101 (by decide) ?_
                  refine lv_istore (lv' := [(9, .int (1 : Int32)), (8, .int y8), (7, .int y7), (6, .int y6), (5, .int y5), (0, .ref (a 0)), (1, .int p1), (2, .int p2), (3, .int p3), (4, .int p4)]) hx hb dX6_cross_105 hl (by decide) rfl (fun ls hl => ?_)
                  refine lv_iload hx hb dX6_cross_107 (lv_at hl 0 rfl) ?_
                  refine lv_if_eq (tgt := 145) hx hb dX6_cross_109 (by decide) (fun c9 => absurd c9 (by decide)) (fun _ => ?_)
                  refine lv_aload_n hx hb dX6_cross_112 rfl (lv_at hl 5 rfl) ?_
                  refine lv_iload_n hx hb dX6_cross_113 rfl (lv_at hl 6 rfl) ?_
                  refine lv_iload_n hx hb dX6_cross_114 rfl (lv_at hl 7 rfl) ?_
                  refine lv_iload_n hx hb dX6_cross_115 rfl (lv_at hl 8 rfl) ?_
                  refine lv_iload hx hb dX6_cross_116 (lv_at hl 9 rfl) ?_
                  refine cp_i (va_runV (As := [.int p1, .int p2, .int p3, .int p4]) (rest := []) ⟨hx, hb, hml, hown, hts⟩ (c_X6_common l dC dI a cI cJ xs ys pl lp lq lr (0 : Int32) v1 v2 v3 v4 v5 v6 v7 p1 p2 p3 p4 (by first | with_reducible assumption | exact in0_24 | exact in0_60 | decide) (by first | with_reducible assumption | exact in0_24 | exact in0_60 | decide) (by first | with_reducible assumption | exact in0_24 | exact in0_60 | decide) (by first | with_reducible assumption | exact in0_24 | exact in0_60 | decide)) (cwV 4 hts (gG_V mG_19_2 mG_19_3 mG_19_4 mG_1_5 (gG_c mG_19_5 gG_G)) rfl rfl rfl hd_X6_common ⟨Nat.le_of_ble_eq_true rfl, Nat.le_of_ble_eq_true rfl⟩) (pPcV (ci := 10) (q0 := 0) hK hP rfl rfl) rfl rfl hl.1 rfl (lv_room (Nat.le_of_ble_eq_true rfl)) dX6_cross_118 ⟨Nat.le_of_ble_eq_true rfl, Nat.le_of_ble_eq_true rfl⟩) hP hS (fun H hP hS => ?_)
                  refine lv_topi (fun y23 ey23 => ?_)
                  refine lv_istore (lv' := [(10, .int y23), (9, .int (1 : Int32)), (8, .int y8), (7, .int y7), (6, .int y6), (5, .int y5), (0, .ref (a 0)), (1, .int p1), (2, .int p2), (3, .int p3), (4, .int p4)]) hx hb dX6_cross_121 hl (by decide) rfl (fun ls hl => ?_)
                  refine lv_iload hx hb dX6_cross_123 (lv_at hl 0 rfl) ?_
                  refine lv_iconst (v := (2 : Int32)) hx hb dX6_cross_125 (by decide) ?_
                  refine lv_icmp_ne (tgt := 133) hx hb dX6_cross_126 (by decide) (fun c24 => ?_) (fun c24 => ?_)
                  · skip
                    refine lv_iload hx hb dX6_cross_133 (lv_at hl 0 rfl) ?_
                    refine lv_iconst (v := (1 : Int32)) hx hb dX6_cross_135 (by decide) ?_
                    refine lv_icmp_ne (tgt := 143) hx hb dX6_cross_136 (by decide) (fun c25 => ?_) (fun c25 => ?_)
                    · skip
                      refine lv_iconst (v := (0 : Int32)) hx hb dX6_cross_143 (by decide) ?_
                      have hE : (f_X6_cross xs ys v0 v1 p1 p2 p3 p4) = ((0 : Int32), (0 : Int32)) := (by subst ey5; subst ey6; subst ey7; subst ey8; subst ey23; simp only [f_X6_cross, if_neg c1, if_neg c2, if_neg c3, if_neg c4, if_pos c19, if_pos c20, if_pos c21, if_pos c22, if_neg c24, if_neg c25])
                      exact rw_i hQ hx hb hr hlk (by rw [hE]; exact hP) hS (by rw [hE]) dX6_cross_144
                    · skip
                      refine lv_iconst (v := (2 : Int32)) hx hb dX6_cross_139 (by decide) ?_
                      refine lv_goto (tgt := 144) hx hb dX6_cross_140 (by decide) ?_
                      have hE : (f_X6_cross xs ys v0 v1 p1 p2 p3 p4) = ((2 : Int32), (0 : Int32)) := (by subst ey5; subst ey6; subst ey7; subst ey8; subst ey23; simp only [f_X6_cross, if_neg c1, if_neg c2, if_neg c3, if_neg c4, if_pos c19, if_pos c20, if_pos c21, if_pos c22, if_neg c24, if_pos c25])
                      exact rw_i hQ hx hb hr hlk (by rw [hE]; exact hP) hS (by rw [hE]) dX6_cross_144
                  · skip
                    refine lv_iconst (v := (3 : Int32)) hx hb dX6_cross_129 (by decide) ?_
                    refine lv_goto (tgt := 144) hx hb dX6_cross_130 (by decide) ?_
                    have hE : (f_X6_cross xs ys v0 v1 p1 p2 p3 p4) = ((3 : Int32), (0 : Int32)) := (by subst ey5; subst ey6; subst ey7; subst ey8; subst ey23; simp only [f_X6_cross, if_neg c1, if_neg c2, if_neg c3, if_neg c4, if_pos c19, if_pos c20, if_pos c21, if_pos c22, if_pos c24])
                    exact rw_i hQ hx hb hr hlk (by rw [hE]; exact hP) hS (by rw [hE]) dX6_cross_144
        · skip
          refine lv_bipush (v := (-2 : Int32)) hx hb dX6_cross_38 (by decide) ?_
          have hE : (f_X6_cross xs ys v0 v1 p1 p2 p3 p4) = ((-2 : Int32), (0 : Int32)) := (by simp only [f_X6_cross, if_neg c1, if_neg c2, if_neg c3, if_pos c4])
          exact rw_i hQ hx hb hr hlk (by rw [hE]; exact hP) hS (by rw [hE]) dX6_cross_40
/-! X6_convex -/
theorem hs_X6_convex : yX6_convex.cls ≠ "java/lang/invoke/MethodHandle" ∧ yX6_convex.cls ≠ "java/lang/invoke/VarHandle" ∧ (parseMethodDescriptor yX6_convex.desc).map (fun d => d.parameters.length) = some 1 := by decide +kernel
theorem hd_X6_convex : yX6_convex.cls = RX6 ∧ yX6_convex.cls ≠ "java/lang/invoke/MethodHandle" ∧ yX6_convex.cls ≠ "java/lang/invoke/VarHandle" ∧ (parseMethodDescriptor yX6_convex.desc).map (fun d => d.parameters.length) = some 1 := ⟨rfl, hs_X6_convex⟩
def f_X6_convex_J111 (xs : Nat → Int32) (ys : Nat → Int32) (pl : Nat → Int32) (v0 : Int32) (v2 : Int32) (p1 : Int32) (k : Int32 → Int32 → Int32 → (Int32 × Int32)) (x2_44 : Int32) (x3_44 : Int32) (x4_35 : Int32) (x5_44 : Int32) (x6_111 : Int32) (x7_111 : Int32) : Int32 × Int32 := (if x2_44 = 0 then (if x3_44 = 0 then (k (0 : Int32) (0 : Int32) (x5_44 + 1)) else (if x6_111 = 0 then (if x7_111 = (-1 : Int32) then (k (0 : Int32) (1 : Int32) (x5_44 + 1)) else (k (0 : Int32) (0 : Int32) (x5_44 + 1))) else (k (0 : Int32) (1 : Int32) (x5_44 + 1)))) else (if x6_111 = 0 then (if x7_111 = (1 : Int32) then (if x3_44 = 0 then (k (1 : Int32) (0 : Int32) (x5_44 + 1)) else (if x7_111 = (-1 : Int32) then (k (1 : Int32) (1 : Int32) (x5_44 + 1)) else (k (1 : Int32) (0 : Int32) (x5_44 + 1)))) else (if x3_44 = 0 then (k (0 : Int32) (0 : Int32) (x5_44 + 1)) else (if x7_111 = (-1 : Int32) then (k (0 : Int32) (1 : Int32) (x5_44 + 1)) else (k (0 : Int32) (0 : Int32) (x5_44 + 1))))) else (if x3_44 = 0 then (k (1 : Int32) (0 : Int32) (x5_44 + 1)) else (k (1 : Int32) (1 : Int32) (x5_44 + 1)))))
def f_X6_convex_L44 (xs : Nat → Int32) (ys : Nat → Int32) (pl : Nat → Int32) (v0 : Int32) (v2 : Int32) (p1 : Int32) (k : Int32 → Int32 → Int32 → (Int32 × Int32)) (x4_35 : Int32) : Nat → Int32 → Int32 → Int32 → (Int32 × Int32)
  | 0, _, _, _ => (0, 0)
  | n + 1, x2_44, x3_44, x5_44 => (if p1 ≤ x5_44 then (k x2_44 x3_44 (x4_35 + 1)) else (if x5_44 = x4_35 then (f_X6_convex_J111 xs ys pl v0 v2 p1 (fun x2_44 x3_44 x5_44 => f_X6_convex_L44 xs ys pl v0 v2 p1 k x4_35 n x2_44 x3_44 x5_44) x2_44 x3_44 x4_35 x5_44 (1 : Int32) (0 : Int32)) else (if x5_44 = ((x4_35 + (1 : Int32)) - (x4_35 + (1 : Int32)) / p1 * p1) then (f_X6_convex_J111 xs ys pl v0 v2 p1 (fun x2_44 x3_44 x5_44 => f_X6_convex_L44 xs ys pl v0 v2 p1 k x4_35 n x2_44 x3_44 x5_44) x2_44 x3_44 x4_35 x5_44 (1 : Int32) (0 : Int32)) else (f_X6_convex_J111 xs ys pl v0 v2 p1 (fun x2_44 x3_44 x5_44 => f_X6_convex_L44 xs ys pl v0 v2 p1 k x4_35 n x2_44 x3_44 x5_44) x2_44 x3_44 x4_35 x5_44 (0 : Int32) (f_X6_turn xs ys (pl (Int32.toNatClampNeg x4_35)) (f_X6_next pl x4_35 p1) (pl (Int32.toNatClampNeg x5_44)))))))
def f_X6_convex_L35 (xs : Nat → Int32) (ys : Nat → Int32) (pl : Nat → Int32) (v0 : Int32) (v2 : Int32) (p1 : Int32)  : Nat → Int32 → Int32 → Int32 → (Int32 × Int32)
  | 0, _, _, _ => (0, 0)
  | n + 1, x2_35, x3_35, x4_35 => (if p1 ≤ x4_35 then (if x2_35 = 0 then (if x3_35 = 0 then ((0 : Int32), (0 : Int32)) else ((-1 : Int32), (0 : Int32))) else ((1 : Int32), (0 : Int32))) else (f_X6_convex_L44 xs ys pl v0 v2 p1 (fun x2_35 x3_35 x4_35 => f_X6_convex_L35 xs ys pl v0 v2 p1  n x2_35 x3_35 x4_35) x4_35 25 x2_35 x3_35 (0 : Int32)))
def f_X6_convex (xs : Nat → Int32) (ys : Nat → Int32) (pl : Nat → Int32) (v0 : Int32) (v2 : Int32) (p1 : Int32) : Int32 × Int32 := (if (f_X6_isMany v2 p1 (3 : Int32)) = 0 then ((-2 : Int32), (0 : Int32)) else (if (f_X6_isWhole pl p1) = 0 then ((-4 : Int32), (0 : Int32)) else (f_X6_convex_L35 xs ys pl v0 v2 p1  25 (1 : Int32) (1 : Int32) (0 : Int32))))
abbrev rm_X6_convex : Room := { frames := 2, cells := 0, slots := 0, locals := 44 }
set_option maxHeartbeats 8000000 in
set_option maxRecDepth 100000 in
theorem c_X6_convex (l : Launch) (dC : Nat → ClassId) (dI : Nat → Nat → Nat) (a : Nat → Nat) (cI cJ : ClassId) (xs : Nat → Int32) (ys : Nat → Int32) (pl : Nat → Int32) (lp : Nat → Int64) (lq : Nat → Int64) (lr : Nat → Int64) (v0 : Int32) (v1 : Int32) (v2 : Int32) (v3 : Int32) (v4 : Int32) (v5 : Int32) (v6 : Int32) (v7 : Int32) (p1 : Int32) (hh : v2 ≤ 24) (hpl : ∀ j : Nat, pl j = -1 ∨ vp_in (pl j) 60) : Met l yX6_convex (Cond.code yX6_convex cX6_convex 8 (some .int) :: lw_G) rm_X6_convex (wPc (dC, dI) (tIJ cI cJ) (wM a cI cJ xs ys pl lp lq lr v0 v1 v2 v3 v4 v5 v6 v7) [.ref (a 0), .int p1]) (wQi (dC, dI) (wA (wM a cI cJ xs ys pl lp lq lr v0 v1 v2 v3 v4 v5 v6 v7)) (wM a cI cJ xs ys pl lp lq lr ((f_X6_convex xs ys pl v0 v2 p1).2) v1 v2 v3 v4 v5 v6 v7) (f_X6_convex xs ys pl v0 v2 p1).1) 0 0 (wA (wM a cI cJ xs ys pl lp lq lr v0 v1 v2 v3 v4 v5 v6 v7)) := by
  refine wm_of (by decide) (Nat.le_of_ble_eq_true rfl) ?_
  intro p e s m args below meth c Q ls hQ hx hb hr hlk hml hown hts hP hK hD hS hl
  have hown : s.vm.findClass RX6 = some m.cls := hown
  have hl : lv_has ls 8 [(0, .ref (a 0)), (1, .int p1)] := hl
  generalize hAe : wA (wM a cI cJ xs ys pl lp lq lr v0 v1 v2 v3 v4 v5 v6 v7) = A at hQ hD hS
  obtain ⟨F, eF⟩ : ∃ F, F = (f_X6_convex xs ys pl v0 v2 p1) := ⟨_, rfl⟩
  refine lv_aload_n hx hb dX6_convex_0 rfl (lv_at hl 0 rfl) ?_
  refine lv_iconst (v := (0 : Int32)) hx hb dX6_convex_1 (by decide) ?_
  refine va_put (D := (dC, dI)) (ci := 10) (v := .int (0 : Int32)) (ty := .int) (C := RX6) (T := TX6) (N := 14) hx hb hts (fun _ h => gI_wsX60 h) tyX6 tyX6_ok nmX6 hown hK.1 hP hD hS 0 rfl rfl 0 (by decide) (hts _ mG_5_12) (fun _ h9 => h9) rfl (by decide +kernel) rfl rfl (Nat.le_of_ble_eq_true rfl) dX6_convex_2 (fun H locs hP hD hS => ?_)
  have hP : va_P (dC, dI) vwCl (wM a cI cJ xs ys pl lp lq lr (0 : Int32) v1 v2 v3 v4 v5 v6 v7) H := hP
  have hD : va_D A (wM a cI cJ xs ys pl lp lq lr (0 : Int32) v1 v2 v3 v4 v5 v6 v7) := hD
  refine lv_aload_n hx hb dX6_convex_5 rfl (lv_at hl 0 rfl) ?_
  refine lv_iload_n hx hb dX6_convex_6 rfl (lv_at hl 1 rfl) ?_
  refine lv_iconst (v := (3 : Int32)) hx hb dX6_convex_7 (by decide) ?_
  refine cp_i (va_runV (As := [.int p1, .int (3 : Int32)]) (rest := []) ⟨hx, hb, hml, hown, hts⟩ (c_X6_isMany l dC dI a cI cJ xs ys pl lp lq lr (0 : Int32) v1 v2 v3 v4 v5 v6 v7 p1 (3 : Int32) ) (cwV 2 hts (gG_V mG_21_0 mG_21_1 mG_21_2 mG_1_5 (gG_c mG_21_3 gG_G)) rfl rfl rfl hd_X6_isMany ⟨Nat.le_of_ble_eq_true rfl, Nat.le_of_ble_eq_true rfl⟩) (pPcV (ci := 10) (q0 := 0) hK hP rfl rfl) rfl rfl hl.1 rfl (lv_room (Nat.le_of_ble_eq_true rfl)) dX6_convex_8 ⟨Nat.le_of_ble_eq_true rfl, Nat.le_of_ble_eq_true rfl⟩) hP hS (fun H hP hS => ?_)
  refine lv_if_ne (tgt := 17) hx hb dX6_convex_11 (by decide) (fun c1 => ?_) (fun c1 => ?_)
  · skip
    obtain ⟨hm1, hm2⟩ := in_many c1
    have hn : p1 ≤ 24 := Int32.le_trans hm2 hh
    refine lv_aload_n hx hb dX6_convex_17 rfl (lv_at hl 0 rfl) ?_
    refine lv_iload_n hx hb dX6_convex_18 rfl (lv_at hl 1 rfl) ?_
    refine cp_i (va_runV (As := [.int p1]) (rest := []) ⟨hx, hb, hml, hown, hts⟩ (c_X6_isWhole l dC dI a cI cJ xs ys pl lp lq lr (0 : Int32) v1 v2 v3 v4 v5 v6 v7 p1 (by first | with_reducible assumption | exact in0_24 | exact in0_60 | decide)) (cwV 1 hts (gG_V mG_21_4 mG_21_5 mG_21_6 mG_1_5 (gG_c mG_21_7 gG_G)) rfl rfl rfl hd_X6_isWhole ⟨Nat.le_of_ble_eq_true rfl, Nat.le_of_ble_eq_true rfl⟩) (pPcV (ci := 10) (q0 := 0) hK hP rfl rfl) rfl rfl hl.1 rfl (lv_room (Nat.le_of_ble_eq_true rfl)) dX6_convex_19 ⟨Nat.le_of_ble_eq_true rfl, Nat.le_of_ble_eq_true rfl⟩) hP hS (fun H hP hS => ?_)
    refine lv_if_ne (tgt := 28) hx hb dX6_convex_22 (by decide) (fun c2 => ?_) (fun c2 => ?_)
    · skip
      have hv := mw_spec hn hpl c2
      have g0 : ¬ p1 = 0 := fun h => absurd (h ▸ hm1) (by decide)
      refine lv_iconst (v := (1 : Int32)) hx hb dX6_convex_28 (by decide) ?_
      refine lv_istore_n (lv' := [(2, .int (1 : Int32)), (0, .ref (a 0)), (1, .int p1)]) hx hb dX6_convex_29 rfl hl (by decide) rfl (fun ls hl => ?_)
      refine lv_iconst (v := (1 : Int32)) hx hb dX6_convex_30 (by decide) ?_
      refine lv_istore_n (lv' := [(3, .int (1 : Int32)), (2, .int (1 : Int32)), (0, .ref (a 0)), (1, .int p1)]) hx hb dX6_convex_31 rfl hl (by decide) rfl (fun ls hl => ?_)
      refine lv_iconst (v := (0 : Int32)) hx hb dX6_convex_32 (by decide) ?_
      refine lv_istore (lv' := [(4, .int (0 : Int32)), (3, .int (1 : Int32)), (2, .int (1 : Int32)), (0, .ref (a 0)), (1, .int p1)]) hx hb dX6_convex_33 hl (by decide) rfl (fun ls hl => ?_)
      have K35 : ∀ (n35 : Nat) (x2_35 : Int32) (x3_35 : Int32) (x4_35 : Int32), 0 ≤ x4_35 → ((p1).toInt - x4_35.toInt).toNat < n35 → F = f_X6_convex_L35 xs ys pl v0 v2 p1  n35 x2_35 x3_35 x4_35 → ∀ (H : Heap) (locs : List Loc), va_P (dC, dI) vwCl (wM a cI cJ xs ys pl lp lq lr (0 : Int32) v1 v2 v3 v4 v5 v6 v7) H → va_D A (wM a cI cJ xs ys pl lp lq lr (0 : Int32) v1 v2 v3 v4 v5 v6 v7) → va_S A s.heap H locs → ∀ (ls : Array Slot), lv_has ls 8 [(0, .ref (a 0)), (1, .int p1), (2, .int x2_35), (3, .int x3_35), (4, .int x4_35)] → W p l e rm_X6_convex s m args below meth c H locs 0 0 Q (F0 m 35 ls []) := by
        intro n35
        induction n35 with
        | zero => intro x2_35 x3_35 x4_35 h0_35 hf_35 hF H locs hP hD hS ls hl; exact absurd hf_35 (Nat.not_lt_zero _)
        | succ n35 ih35 =>
          intro x2_35 x3_35 x4_35 h0_35 hf_35 hF H locs hP hD hS ls hl
          refine lv_iload hx hb dX6_convex_35 (lv_at hl 4 rfl) ?_
          refine lv_iload_n hx hb dX6_convex_37 rfl (lv_at hl 1 rfl) ?_
          refine lv_icmp_ge (tgt := 165) hx hb dX6_convex_38 (by decide) (fun c3 => ?_) (fun c3 => ?_)
          · skip
            refine lv_iload_n hx hb dX6_convex_165 rfl (lv_at hl 2 rfl) ?_
            refine lv_if_eq (tgt := 173) hx hb dX6_convex_166 (by decide) (fun c4 => ?_) (fun c4 => ?_)
            · skip
              refine lv_iload_n hx hb dX6_convex_173 rfl (lv_at hl 3 rfl) ?_
              refine lv_if_eq (tgt := 181) hx hb dX6_convex_174 (by decide) (fun c5 => ?_) (fun c5 => ?_)
              · skip
                refine lv_iconst (v := (0 : Int32)) hx hb dX6_convex_181 (by decide) ?_
                have hE : F = ((0 : Int32), (0 : Int32)) := (by rw [hF]; simp only [f_X6_convex_L35, if_pos c3, if_pos c4, if_pos c5])
                rw [eF] at hE
                exact rw_i hQ hx hb hr hlk (by rw [hE]; exact hP) hS (by rw [hE]) dX6_convex_182
              · skip
                refine lv_iconst (v := (-1 : Int32)) hx hb dX6_convex_177 (by decide) ?_
                refine lv_goto (tgt := 182) hx hb dX6_convex_178 (by decide) ?_
                have hE : F = ((-1 : Int32), (0 : Int32)) := (by rw [hF]; simp only [f_X6_convex_L35, if_pos c3, if_pos c4, if_neg c5])
                rw [eF] at hE
                exact rw_i hQ hx hb hr hlk (by rw [hE]; exact hP) hS (by rw [hE]) dX6_convex_182
            · skip
              refine lv_iconst (v := (1 : Int32)) hx hb dX6_convex_169 (by decide) ?_
              refine lv_goto (tgt := 182) hx hb dX6_convex_170 (by decide) ?_
              have hE : F = ((1 : Int32), (0 : Int32)) := (by rw [hF]; simp only [f_X6_convex_L35, if_pos c3, if_neg c4])
              rw [eF] at hE
              exact rw_i hQ hx hb hr hlk (by rw [hE]; exact hP) hS (by rw [hE]) dX6_convex_182
          · skip
            have hI : vp_in x4_35 24 := ix_lt h0_35 c3 hn
            have hr1 := hv_at hv h0_35 c3
            have hE := in_next hv h0_35 c3
            refine lv_iconst (v := (0 : Int32)) hx hb dX6_convex_41 (by decide) ?_
            refine lv_istore (lv' := [(5, .int (0 : Int32)), (0, .ref (a 0)), (1, .int p1), (2, .int x2_35), (3, .int x3_35), (4, .int x4_35)]) hx hb dX6_convex_42 hl (by decide) rfl (fun ls hl => ?_)
            have K44 : ∀ (n44 : Nat) (x2_44 : Int32) (x3_44 : Int32) (x5_44 : Int32), 0 ≤ x5_44 → ((p1).toInt - x5_44.toInt).toNat < n44 → F = f_X6_convex_L44 xs ys pl v0 v2 p1 (fun x2_35 x3_35 x4_35 => f_X6_convex_L35 xs ys pl v0 v2 p1  n35 x2_35 x3_35 x4_35) x4_35 n44 x2_44 x3_44 x5_44 → ∀ (H : Heap) (locs : List Loc), va_P (dC, dI) vwCl (wM a cI cJ xs ys pl lp lq lr (0 : Int32) v1 v2 v3 v4 v5 v6 v7) H → va_D A (wM a cI cJ xs ys pl lp lq lr (0 : Int32) v1 v2 v3 v4 v5 v6 v7) → va_S A s.heap H locs → ∀ (ls : Array Slot), lv_has ls 8 [(0, .ref (a 0)), (1, .int p1), (2, .int x2_44), (3, .int x3_44), (4, .int x4_35), (5, .int x5_44)] → W p l e rm_X6_convex s m args below meth c H locs 0 0 Q (F0 m 44 ls []) := by
              intro n44
              induction n44 with
              | zero => intro x2_44 x3_44 x5_44 h0_44 hf_44 hF H locs hP hD hS ls hl; exact absurd hf_44 (Nat.not_lt_zero _)
              | succ n44 ih44 =>
                intro x2_44 x3_44 x5_44 h0_44 hf_44 hF H locs hP hD hS ls hl
                refine lv_iload hx hb dX6_convex_44 (lv_at hl 5 rfl) ?_
                refine lv_iload_n hx hb dX6_convex_46 rfl (lv_at hl 1 rfl) ?_
                refine lv_icmp_ge (tgt := 159) hx hb dX6_convex_47 (by decide) (fun c6 => ?_) (fun c6 => ?_)
                · skip
                  refine lv_iinc (v := (x4_35 + 1)) (lv' := [(4, .int (x4_35 + 1)), (0, .ref (a 0)), (1, .int p1), (2, .int x2_44), (3, .int x3_44), (5, .int x5_44)]) hx hb dX6_convex_159 hl (k := 4) rfl rfl (by decide) rfl (fun ls hl => ?_)
                  refine lv_goto (tgt := 35) hx hb dX6_convex_162 (by decide) ?_
                  exact ih35 x2_44 x3_44 (x4_35 + 1) (lp_pos h0_35 c3) (lp_dec c3 hf_35) (by rw [hF]; simp only [f_X6_convex_L44, if_pos c6]) _ _ hP hD hS ls (lv_sub hl [1, 2, 3, 4, 0] rfl)
                · skip
                  have hI5 : vp_in x5_44 24 := ix_lt h0_44 c6 hn
                  have hr5 := hv_at hv h0_44 c6
                  have K111 : ∀ (x6_111 : Int32) (x7_111 : Int32), F = f_X6_convex_J111 xs ys pl v0 v2 p1 (fun x2_44 x3_44 x5_44 => f_X6_convex_L44 xs ys pl v0 v2 p1 (fun x2_35 x3_35 x4_35 => f_X6_convex_L35 xs ys pl v0 v2 p1  n35 x2_35 x3_35 x4_35) x4_35 n44 x2_44 x3_44 x5_44) x2_44 x3_44 x4_35 x5_44 x6_111 x7_111 → ∀ (H : Heap) (locs : List Loc), va_P (dC, dI) vwCl (wM a cI cJ xs ys pl lp lq lr (0 : Int32) v1 v2 v3 v4 v5 v6 v7) H → va_D A (wM a cI cJ xs ys pl lp lq lr (0 : Int32) v1 v2 v3 v4 v5 v6 v7) → va_S A s.heap H locs → ∀ (ls : Array Slot), lv_has ls 8 [(0, .ref (a 0)), (1, .int p1), (2, .int x2_44), (3, .int x3_44), (4, .int x4_35), (5, .int x5_44), (6, .int x6_111), (7, .int x7_111)] → W p l e rm_X6_convex s m args below meth c H locs 0 0 Q (F0 m 111 ls []) := by
                    intro x6_111 x7_111 hF H locs hP hD hS ls hl
                    refine lv_iload_n hx hb dX6_convex_111 rfl (lv_at hl 2 rfl) ?_
                    refine lv_if_eq (tgt := 130) hx hb dX6_convex_112 (by decide) (fun c7 => ?_) (fun c7 => ?_)
                    · skip
                      refine lv_iconst (v := (0 : Int32)) hx hb dX6_convex_130 (by decide) ?_
                      refine lv_istore_n (lv' := [(2, .int (0 : Int32)), (0, .ref (a 0)), (1, .int p1), (3, .int x3_44), (4, .int x4_35), (5, .int x5_44), (6, .int x6_111), (7, .int x7_111)]) hx hb dX6_convex_131 rfl hl (by decide) rfl (fun ls hl => ?_)
                      refine lv_iload_n hx hb dX6_convex_132 rfl (lv_at hl 3 rfl) ?_
                      refine lv_if_eq (tgt := 151) hx hb dX6_convex_133 (by decide) (fun c8 => ?_) (fun c8 => ?_)
                      · skip
                        refine lv_iconst (v := (0 : Int32)) hx hb dX6_convex_151 (by decide) ?_
                        refine lv_istore_n (lv' := [(3, .int (0 : Int32)), (2, .int (0 : Int32)), (0, .ref (a 0)), (1, .int p1), (4, .int x4_35), (5, .int x5_44), (6, .int x6_111), (7, .int x7_111)]) hx hb dX6_convex_152 rfl hl (by decide) rfl (fun ls hl => ?_)
                        refine lv_iinc (v := (x5_44 + 1)) (lv' := [(5, .int (x5_44 + 1)), (3, .int (0 : Int32)), (2, .int (0 : Int32)), (0, .ref (a 0)), (1, .int p1), (4, .int x4_35), (6, .int x6_111), (7, .int x7_111)]) hx hb dX6_convex_153 hl (k := 5) rfl rfl (by decide) rfl (fun ls hl => ?_)
                        refine lv_goto (tgt := 44) hx hb dX6_convex_156 (by decide) ?_
                        exact ih44 (0 : Int32) (0 : Int32) (x5_44 + 1) (lp_pos h0_44 c6) (lp_dec c6 hf_44) (by rw [hF]; simp only [f_X6_convex_J111, if_pos c7, if_pos c8]) _ _ hP hD hS ls (lv_sub hl [3, 4, 2, 1, 5, 0] rfl)
                      · skip
                        refine lv_iload hx hb dX6_convex_136 (lv_at hl 6 rfl) ?_
                        refine lv_if_ne (tgt := 147) hx hb dX6_convex_138 (by decide) (fun c9 => ?_) (fun c9 => ?_)
                        · skip
                          refine lv_iconst (v := (1 : Int32)) hx hb dX6_convex_147 (by decide) ?_
                          refine lv_goto (tgt := 152) hx hb dX6_convex_148 (by decide) ?_
                          refine lv_istore_n (lv' := [(3, .int (1 : Int32)), (2, .int (0 : Int32)), (0, .ref (a 0)), (1, .int p1), (4, .int x4_35), (5, .int x5_44), (6, .int x6_111), (7, .int x7_111)]) hx hb dX6_convex_152 rfl hl (by decide) rfl (fun ls hl => ?_)
                          refine lv_iinc (v := (x5_44 + 1)) (lv' := [(5, .int (x5_44 + 1)), (3, .int (1 : Int32)), (2, .int (0 : Int32)), (0, .ref (a 0)), (1, .int p1), (4, .int x4_35), (6, .int x6_111), (7, .int x7_111)]) hx hb dX6_convex_153 hl (k := 5) rfl rfl (by decide) rfl (fun ls hl => ?_)
                          refine lv_goto (tgt := 44) hx hb dX6_convex_156 (by decide) ?_
                          exact ih44 (0 : Int32) (1 : Int32) (x5_44 + 1) (lp_pos h0_44 c6) (lp_dec c6 hf_44) (by rw [hF]; simp only [f_X6_convex_J111, if_pos c7, if_neg c8, if_neg c9]) _ _ hP hD hS ls (lv_sub hl [3, 4, 2, 1, 5, 0] rfl)
                        · skip
                          refine lv_iload hx hb dX6_convex_141 (lv_at hl 7 rfl) ?_
                          refine lv_iconst (v := (-1 : Int32)) hx hb dX6_convex_143 (by decide) ?_
                          refine lv_icmp_ne (tgt := 151) hx hb dX6_convex_144 (by decide) (fun c10 => ?_) (fun c10 => ?_)
                          · skip
                            refine lv_iconst (v := (0 : Int32)) hx hb dX6_convex_151 (by decide) ?_
                            refine lv_istore_n (lv' := [(3, .int (0 : Int32)), (2, .int (0 : Int32)), (0, .ref (a 0)), (1, .int p1), (4, .int x4_35), (5, .int x5_44), (6, .int x6_111), (7, .int x7_111)]) hx hb dX6_convex_152 rfl hl (by decide) rfl (fun ls hl => ?_)
                            refine lv_iinc (v := (x5_44 + 1)) (lv' := [(5, .int (x5_44 + 1)), (3, .int (0 : Int32)), (2, .int (0 : Int32)), (0, .ref (a 0)), (1, .int p1), (4, .int x4_35), (6, .int x6_111), (7, .int x7_111)]) hx hb dX6_convex_153 hl (k := 5) rfl rfl (by decide) rfl (fun ls hl => ?_)
                            refine lv_goto (tgt := 44) hx hb dX6_convex_156 (by decide) ?_
                            exact ih44 (0 : Int32) (0 : Int32) (x5_44 + 1) (lp_pos h0_44 c6) (lp_dec c6 hf_44) (by rw [hF]; simp only [f_X6_convex_J111, if_pos c7, if_neg c8, if_pos c9, if_neg c10]) _ _ hP hD hS ls (lv_sub hl [3, 4, 2, 1, 5, 0] rfl)
                          · skip
                            refine lv_iconst (v := (1 : Int32)) hx hb dX6_convex_147 (by decide) ?_
                            refine lv_goto (tgt := 152) hx hb dX6_convex_148 (by decide) ?_
                            refine lv_istore_n (lv' := [(3, .int (1 : Int32)), (2, .int (0 : Int32)), (0, .ref (a 0)), (1, .int p1), (4, .int x4_35), (5, .int x5_44), (6, .int x6_111), (7, .int x7_111)]) hx hb dX6_convex_152 rfl hl (by decide) rfl (fun ls hl => ?_)
                            refine lv_iinc (v := (x5_44 + 1)) (lv' := [(5, .int (x5_44 + 1)), (3, .int (1 : Int32)), (2, .int (0 : Int32)), (0, .ref (a 0)), (1, .int p1), (4, .int x4_35), (6, .int x6_111), (7, .int x7_111)]) hx hb dX6_convex_153 hl (k := 5) rfl rfl (by decide) rfl (fun ls hl => ?_)
                            refine lv_goto (tgt := 44) hx hb dX6_convex_156 (by decide) ?_
                            exact ih44 (0 : Int32) (1 : Int32) (x5_44 + 1) (lp_pos h0_44 c6) (lp_dec c6 hf_44) (by rw [hF]; simp only [f_X6_convex_J111, if_pos c7, if_neg c8, if_pos c9, if_pos c10]) _ _ hP hD hS ls (lv_sub hl [3, 4, 2, 1, 5, 0] rfl)
                    · skip
                      refine lv_iload hx hb dX6_convex_115 (lv_at hl 6 rfl) ?_
                      refine lv_if_ne (tgt := 126) hx hb dX6_convex_117 (by decide) (fun c11 => ?_) (fun c11 => ?_)
                      · skip
                        refine lv_iconst (v := (1 : Int32)) hx hb dX6_convex_126 (by decide) ?_
                        refine lv_goto (tgt := 131) hx hb dX6_convex_127 (by decide) ?_
                        refine lv_istore_n (lv' := [(2, .int (1 : Int32)), (0, .ref (a 0)), (1, .int p1), (3, .int x3_44), (4, .int x4_35), (5, .int x5_44), (6, .int x6_111), (7, .int x7_111)]) hx hb dX6_convex_131 rfl hl (by decide) rfl (fun ls hl => ?_)
                        refine lv_iload_n hx hb dX6_convex_132 rfl (lv_at hl 3 rfl) ?_
                        refine lv_if_eq (tgt := 151) hx hb dX6_convex_133 (by decide) (fun c12 => ?_) (fun c12 => ?_)
                        · skip
                          refine lv_iconst (v := (0 : Int32)) hx hb dX6_convex_151 (by decide) ?_
                          refine lv_istore_n (lv' := [(3, .int (0 : Int32)), (2, .int (1 : Int32)), (0, .ref (a 0)), (1, .int p1), (4, .int x4_35), (5, .int x5_44), (6, .int x6_111), (7, .int x7_111)]) hx hb dX6_convex_152 rfl hl (by decide) rfl (fun ls hl => ?_)
                          refine lv_iinc (v := (x5_44 + 1)) (lv' := [(5, .int (x5_44 + 1)), (3, .int (0 : Int32)), (2, .int (1 : Int32)), (0, .ref (a 0)), (1, .int p1), (4, .int x4_35), (6, .int x6_111), (7, .int x7_111)]) hx hb dX6_convex_153 hl (k := 5) rfl rfl (by decide) rfl (fun ls hl => ?_)
                          refine lv_goto (tgt := 44) hx hb dX6_convex_156 (by decide) ?_
                          exact ih44 (1 : Int32) (0 : Int32) (x5_44 + 1) (lp_pos h0_44 c6) (lp_dec c6 hf_44) (by rw [hF]; simp only [f_X6_convex_J111, if_neg c7, if_neg c11, if_pos c12]) _ _ hP hD hS ls (lv_sub hl [3, 4, 2, 1, 5, 0] rfl)
                        · skip
                          refine lv_iload hx hb dX6_convex_136 (lv_at hl 6 rfl) ?_
                          refine lv_if_ne (tgt := 147) hx hb dX6_convex_138 (by decide) (fun _ => ?_) (fun c13 => absurd c13 c11)
                          refine lv_iconst (v := (1 : Int32)) hx hb dX6_convex_147 (by decide) ?_
                          refine lv_goto (tgt := 152) hx hb dX6_convex_148 (by decide) ?_
                          refine lv_istore_n (lv' := [(3, .int (1 : Int32)), (2, .int (1 : Int32)), (0, .ref (a 0)), (1, .int p1), (4, .int x4_35), (5, .int x5_44), (6, .int x6_111), (7, .int x7_111)]) hx hb dX6_convex_152 rfl hl (by decide) rfl (fun ls hl => ?_)
                          refine lv_iinc (v := (x5_44 + 1)) (lv' := [(5, .int (x5_44 + 1)), (3, .int (1 : Int32)), (2, .int (1 : Int32)), (0, .ref (a 0)), (1, .int p1), (4, .int x4_35), (6, .int x6_111), (7, .int x7_111)]) hx hb dX6_convex_153 hl (k := 5) rfl rfl (by decide) rfl (fun ls hl => ?_)
                          refine lv_goto (tgt := 44) hx hb dX6_convex_156 (by decide) ?_
                          exact ih44 (1 : Int32) (1 : Int32) (x5_44 + 1) (lp_pos h0_44 c6) (lp_dec c6 hf_44) (by rw [hF]; simp only [f_X6_convex_J111, if_neg c7, if_neg c11, if_neg c12]) _ _ hP hD hS ls (lv_sub hl [3, 4, 2, 1, 5, 0] rfl)
                      · skip
                        refine lv_iload hx hb dX6_convex_120 (lv_at hl 7 rfl) ?_
                        refine lv_iconst (v := (1 : Int32)) hx hb dX6_convex_122 (by decide) ?_
                        refine lv_icmp_ne (tgt := 130) hx hb dX6_convex_123 (by decide) (fun c14 => ?_) (fun c14 => ?_)
                        · skip
                          refine lv_iconst (v := (0 : Int32)) hx hb dX6_convex_130 (by decide) ?_
                          refine lv_istore_n (lv' := [(2, .int (0 : Int32)), (0, .ref (a 0)), (1, .int p1), (3, .int x3_44), (4, .int x4_35), (5, .int x5_44), (6, .int x6_111), (7, .int x7_111)]) hx hb dX6_convex_131 rfl hl (by decide) rfl (fun ls hl => ?_)
                          refine lv_iload_n hx hb dX6_convex_132 rfl (lv_at hl 3 rfl) ?_
                          refine lv_if_eq (tgt := 151) hx hb dX6_convex_133 (by decide) (fun c15 => ?_) (fun c15 => ?_)
                          · skip
                            refine lv_iconst (v := (0 : Int32)) hx hb dX6_convex_151 (by decide) ?_
                            refine lv_istore_n (lv' := [(3, .int (0 : Int32)), (2, .int (0 : Int32)), (0, .ref (a 0)), (1, .int p1), (4, .int x4_35), (5, .int x5_44), (6, .int x6_111), (7, .int x7_111)]) hx hb dX6_convex_152 rfl hl (by decide) rfl (fun ls hl => ?_)
                            refine lv_iinc (v := (x5_44 + 1)) (lv' := [(5, .int (x5_44 + 1)), (3, .int (0 : Int32)), (2, .int (0 : Int32)), (0, .ref (a 0)), (1, .int p1), (4, .int x4_35), (6, .int x6_111), (7, .int x7_111)]) hx hb dX6_convex_153 hl (k := 5) rfl rfl (by decide) rfl (fun ls hl => ?_)
                            refine lv_goto (tgt := 44) hx hb dX6_convex_156 (by decide) ?_
                            exact ih44 (0 : Int32) (0 : Int32) (x5_44 + 1) (lp_pos h0_44 c6) (lp_dec c6 hf_44) (by rw [hF]; simp only [f_X6_convex_J111, if_neg c7, if_pos c11, if_neg c14, if_pos c15]) _ _ hP hD hS ls (lv_sub hl [3, 4, 2, 1, 5, 0] rfl)
                          · skip
                            refine lv_iload hx hb dX6_convex_136 (lv_at hl 6 rfl) ?_
                            refine lv_if_ne (tgt := 147) hx hb dX6_convex_138 (by decide) (fun c16 => absurd c11 c16) (fun _ => ?_)
                            refine lv_iload hx hb dX6_convex_141 (lv_at hl 7 rfl) ?_
                            refine lv_iconst (v := (-1 : Int32)) hx hb dX6_convex_143 (by decide) ?_
                            refine lv_icmp_ne (tgt := 151) hx hb dX6_convex_144 (by decide) (fun c17 => ?_) (fun c17 => ?_)
                            · skip
                              refine lv_iconst (v := (0 : Int32)) hx hb dX6_convex_151 (by decide) ?_
                              refine lv_istore_n (lv' := [(3, .int (0 : Int32)), (2, .int (0 : Int32)), (0, .ref (a 0)), (1, .int p1), (4, .int x4_35), (5, .int x5_44), (6, .int x6_111), (7, .int x7_111)]) hx hb dX6_convex_152 rfl hl (by decide) rfl (fun ls hl => ?_)
                              refine lv_iinc (v := (x5_44 + 1)) (lv' := [(5, .int (x5_44 + 1)), (3, .int (0 : Int32)), (2, .int (0 : Int32)), (0, .ref (a 0)), (1, .int p1), (4, .int x4_35), (6, .int x6_111), (7, .int x7_111)]) hx hb dX6_convex_153 hl (k := 5) rfl rfl (by decide) rfl (fun ls hl => ?_)
                              refine lv_goto (tgt := 44) hx hb dX6_convex_156 (by decide) ?_
                              exact ih44 (0 : Int32) (0 : Int32) (x5_44 + 1) (lp_pos h0_44 c6) (lp_dec c6 hf_44) (by rw [hF]; simp only [f_X6_convex_J111, if_neg c7, if_pos c11, if_neg c14, if_neg c15, if_neg c17]) _ _ hP hD hS ls (lv_sub hl [3, 4, 2, 1, 5, 0] rfl)
                            · skip
                              refine lv_iconst (v := (1 : Int32)) hx hb dX6_convex_147 (by decide) ?_
                              refine lv_goto (tgt := 152) hx hb dX6_convex_148 (by decide) ?_
                              refine lv_istore_n (lv' := [(3, .int (1 : Int32)), (2, .int (0 : Int32)), (0, .ref (a 0)), (1, .int p1), (4, .int x4_35), (5, .int x5_44), (6, .int x6_111), (7, .int x7_111)]) hx hb dX6_convex_152 rfl hl (by decide) rfl (fun ls hl => ?_)
                              refine lv_iinc (v := (x5_44 + 1)) (lv' := [(5, .int (x5_44 + 1)), (3, .int (1 : Int32)), (2, .int (0 : Int32)), (0, .ref (a 0)), (1, .int p1), (4, .int x4_35), (6, .int x6_111), (7, .int x7_111)]) hx hb dX6_convex_153 hl (k := 5) rfl rfl (by decide) rfl (fun ls hl => ?_)
                              refine lv_goto (tgt := 44) hx hb dX6_convex_156 (by decide) ?_
                              exact ih44 (0 : Int32) (1 : Int32) (x5_44 + 1) (lp_pos h0_44 c6) (lp_dec c6 hf_44) (by rw [hF]; simp only [f_X6_convex_J111, if_neg c7, if_pos c11, if_neg c14, if_neg c15, if_pos c17]) _ _ hP hD hS ls (lv_sub hl [3, 4, 2, 1, 5, 0] rfl)
                        · skip
                          refine lv_iconst (v := (1 : Int32)) hx hb dX6_convex_126 (by decide) ?_
                          refine lv_goto (tgt := 131) hx hb dX6_convex_127 (by decide) ?_
                          refine lv_istore_n (lv' := [(2, .int (1 : Int32)), (0, .ref (a 0)), (1, .int p1), (3, .int x3_44), (4, .int x4_35), (5, .int x5_44), (6, .int x6_111), (7, .int x7_111)]) hx hb dX6_convex_131 rfl hl (by decide) rfl (fun ls hl => ?_)
                          refine lv_iload_n hx hb dX6_convex_132 rfl (lv_at hl 3 rfl) ?_
                          refine lv_if_eq (tgt := 151) hx hb dX6_convex_133 (by decide) (fun c18 => ?_) (fun c18 => ?_)
                          · skip
                            refine lv_iconst (v := (0 : Int32)) hx hb dX6_convex_151 (by decide) ?_
                            refine lv_istore_n (lv' := [(3, .int (0 : Int32)), (2, .int (1 : Int32)), (0, .ref (a 0)), (1, .int p1), (4, .int x4_35), (5, .int x5_44), (6, .int x6_111), (7, .int x7_111)]) hx hb dX6_convex_152 rfl hl (by decide) rfl (fun ls hl => ?_)
                            refine lv_iinc (v := (x5_44 + 1)) (lv' := [(5, .int (x5_44 + 1)), (3, .int (0 : Int32)), (2, .int (1 : Int32)), (0, .ref (a 0)), (1, .int p1), (4, .int x4_35), (6, .int x6_111), (7, .int x7_111)]) hx hb dX6_convex_153 hl (k := 5) rfl rfl (by decide) rfl (fun ls hl => ?_)
                            refine lv_goto (tgt := 44) hx hb dX6_convex_156 (by decide) ?_
                            exact ih44 (1 : Int32) (0 : Int32) (x5_44 + 1) (lp_pos h0_44 c6) (lp_dec c6 hf_44) (by rw [hF]; simp only [f_X6_convex_J111, if_neg c7, if_pos c11, if_pos c14, if_pos c18]) _ _ hP hD hS ls (lv_sub hl [3, 4, 2, 1, 5, 0] rfl)
                          · skip
                            refine lv_iload hx hb dX6_convex_136 (lv_at hl 6 rfl) ?_
                            refine lv_if_ne (tgt := 147) hx hb dX6_convex_138 (by decide) (fun c19 => absurd c11 c19) (fun _ => ?_)
                            refine lv_iload hx hb dX6_convex_141 (lv_at hl 7 rfl) ?_
                            refine lv_iconst (v := (-1 : Int32)) hx hb dX6_convex_143 (by decide) ?_
                            refine lv_icmp_ne (tgt := 151) hx hb dX6_convex_144 (by decide) (fun c20 => ?_) (fun c20 => ?_)
                            · skip
                              refine lv_iconst (v := (0 : Int32)) hx hb dX6_convex_151 (by decide) ?_
                              refine lv_istore_n (lv' := [(3, .int (0 : Int32)), (2, .int (1 : Int32)), (0, .ref (a 0)), (1, .int p1), (4, .int x4_35), (5, .int x5_44), (6, .int x6_111), (7, .int x7_111)]) hx hb dX6_convex_152 rfl hl (by decide) rfl (fun ls hl => ?_)
                              refine lv_iinc (v := (x5_44 + 1)) (lv' := [(5, .int (x5_44 + 1)), (3, .int (0 : Int32)), (2, .int (1 : Int32)), (0, .ref (a 0)), (1, .int p1), (4, .int x4_35), (6, .int x6_111), (7, .int x7_111)]) hx hb dX6_convex_153 hl (k := 5) rfl rfl (by decide) rfl (fun ls hl => ?_)
                              refine lv_goto (tgt := 44) hx hb dX6_convex_156 (by decide) ?_
                              exact ih44 (1 : Int32) (0 : Int32) (x5_44 + 1) (lp_pos h0_44 c6) (lp_dec c6 hf_44) (by rw [hF]; simp only [f_X6_convex_J111, if_neg c7, if_pos c11, if_pos c14, if_neg c18, if_neg c20]) _ _ hP hD hS ls (lv_sub hl [3, 4, 2, 1, 5, 0] rfl)
                            · skip
                              refine lv_iconst (v := (1 : Int32)) hx hb dX6_convex_147 (by decide) ?_
                              refine lv_goto (tgt := 152) hx hb dX6_convex_148 (by decide) ?_
                              refine lv_istore_n (lv' := [(3, .int (1 : Int32)), (2, .int (1 : Int32)), (0, .ref (a 0)), (1, .int p1), (4, .int x4_35), (5, .int x5_44), (6, .int x6_111), (7, .int x7_111)]) hx hb dX6_convex_152 rfl hl (by decide) rfl (fun ls hl => ?_)
                              refine lv_iinc (v := (x5_44 + 1)) (lv' := [(5, .int (x5_44 + 1)), (3, .int (1 : Int32)), (2, .int (1 : Int32)), (0, .ref (a 0)), (1, .int p1), (4, .int x4_35), (6, .int x6_111), (7, .int x7_111)]) hx hb dX6_convex_153 hl (k := 5) rfl rfl (by decide) rfl (fun ls hl => ?_)
                              refine lv_goto (tgt := 44) hx hb dX6_convex_156 (by decide) ?_
                              exact ih44 (1 : Int32) (1 : Int32) (x5_44 + 1) (lp_pos h0_44 c6) (lp_dec c6 hf_44) (by rw [hF]; simp only [f_X6_convex_J111, if_neg c7, if_pos c11, if_pos c14, if_neg c18, if_pos c20]) _ _ hP hD hS ls (lv_sub hl [3, 4, 2, 1, 5, 0] rfl)
                  refine lv_iload hx hb dX6_convex_50 (lv_at hl 5 rfl) ?_
                  refine lv_iload hx hb dX6_convex_52 (lv_at hl 4 rfl) ?_
                  refine lv_icmp_eq (tgt := 68) hx hb dX6_convex_54 (by decide) (fun c21 => ?_) (fun c21 => ?_)
                  · skip
                    refine lv_iconst (v := (1 : Int32)) hx hb dX6_convex_68 (by decide) ?_
                    refine lv_goto (tgt := 73) hx hb dX6_convex_69 (by decide) ?_
                    refine lv_istore (lv' := [(6, .int (1 : Int32)), (0, .ref (a 0)), (1, .int p1), (2, .int x2_44), (3, .int x3_44), (4, .int x4_35), (5, .int x5_44)]) hx hb dX6_convex_73 hl (by decide) rfl (fun ls hl => ?_)
                    refine lv_iload hx hb dX6_convex_75 (lv_at hl 0 rfl) ?_
                    refine lv_if_eq (tgt := 84) hx hb dX6_convex_77 (by decide) (fun c9 => absurd c9 (by decide)) (fun _ => ?_)
                    refine lv_iconst (v := (0 : Int32)) hx hb dX6_convex_80 (by decide) ?_
                    refine lv_goto (tgt := 109) hx hb dX6_convex_81 (by decide) ?_
                    refine lv_istore (lv' := [(7, .int (0 : Int32)), (6, .int (1 : Int32)), (0, .ref (a 0)), (1, .int p1), (2, .int x2_44), (3, .int x3_44), (4, .int x4_35), (5, .int x5_44)]) hx hb dX6_convex_109 hl (by decide) rfl (fun ls hl => ?_)
                    exact K111 (1 : Int32) (0 : Int32) (by rw [hF]; simp only [f_X6_convex_L44, if_neg c6, if_pos c21]) _ _ hP hD hS ls (lv_sub hl [2, 3, 4, 5, 6, 7, 1, 0] rfl)
                  · skip
                    refine lv_iload hx hb dX6_convex_57 (lv_at hl 5 rfl) ?_
                    refine lv_iload hx hb dX6_convex_59 (lv_at hl 4 rfl) ?_
                    refine lv_iconst (v := (1 : Int32)) hx hb dX6_convex_61 (by decide) ?_
                    refine lv_iadd hx hb dX6_convex_62 ?_
                    refine lv_iload_n hx hb dX6_convex_63 rfl (lv_at hl 1 rfl) ?_
                    refine lv_irem hx hb dX6_convex_64 (by first | with_reducible assumption | exact in0_24 | exact in0_60 | decide) ?_
                    refine lv_icmp_ne (tgt := 72) hx hb dX6_convex_65 (by decide) (fun c22 => ?_) (fun c22 => ?_)
                    · skip
                      refine lv_iconst (v := (0 : Int32)) hx hb dX6_convex_72 (by decide) ?_
                      refine lv_istore (lv' := [(6, .int (0 : Int32)), (0, .ref (a 0)), (1, .int p1), (2, .int x2_44), (3, .int x3_44), (4, .int x4_35), (5, .int x5_44)]) hx hb dX6_convex_73 hl (by decide) rfl (fun ls hl => ?_)
                      refine lv_iload hx hb dX6_convex_75 (lv_at hl 0 rfl) ?_
                      refine lv_if_eq (tgt := 84) hx hb dX6_convex_77 (by decide) (fun _ => ?_) (fun c9 => absurd c9 (by decide))
                      refine lv_aload_n hx hb dX6_convex_84 rfl (lv_at hl 1 rfl) ?_
                      refine lv_aload_n hx hb dX6_convex_85 rfl (lv_at hl 1 rfl) ?_
                      refine va_get (D := (dC, dI)) (ci := 10) (v := .ref (a 3)) (C := RX6) (T := TX6) (N := 14) hx hb hts (fun _ h => gI_wsX60 h) hown hK.1 hP 0 rfl rfl 5 (by decide) (hts _ mG_4_10) (fun _ h9 => h9) rfl dX6_convex_86 ?_
                      refine lv_iload hx hb dX6_convex_89 (lv_at hl 5 rfl) ?_
                      refine va_iald hx hb hK.1 hP 3 0 rfl rfl (by first | with_reducible assumption | exact in0_24 | exact in0_60 | decide) dX6_convex_91 ?_
                      refine lv_aload_n hx hb dX6_convex_92 rfl (lv_at hl 1 rfl) ?_
                      refine lv_iload hx hb dX6_convex_93 (lv_at hl 5 rfl) ?_
                      refine lv_iload_n hx hb dX6_convex_95 rfl (lv_at hl 2 rfl) ?_
                      refine cp_i (va_runV (As := [.int x4_35, .int p1]) (rest := [.int (pl (Int32.toNatClampNeg x4_35)), .ref (a 0)]) ⟨hx, hb, hml, hown, hts⟩ (c_X6_next l dC dI a cI cJ xs ys pl lp lq lr (0 : Int32) v1 v2 v3 v4 v5 v6 v7 x4_35 p1 (by first | with_reducible assumption | exact in0_24 | exact in0_60 | decide) (by first | with_reducible assumption | exact in0_24 | exact in0_60 | decide) (by first | with_reducible assumption | exact in0_24 | exact in0_60 | decide)) (cwV 2 hts (gG_V mG_21_8 mG_21_9 mG_21_10 mG_1_5 (gG_c mG_21_11 gG_G)) rfl rfl rfl hd_X6_next ⟨Nat.le_of_ble_eq_true rfl, Nat.le_of_ble_eq_true rfl⟩) (pPcV (ci := 10) (q0 := 0) hK hP rfl rfl) rfl rfl hl.1 rfl (lv_room (Nat.le_of_ble_eq_true rfl)) dX6_convex_96 ⟨Nat.le_of_ble_eq_true rfl, Nat.le_of_ble_eq_true rfl⟩) hP hS (fun H hP hS => ?_)
                      refine lv_aload_n hx hb dX6_convex_99 rfl (lv_at hl 1 rfl) ?_
                      refine va_get (D := (dC, dI)) (ci := 10) (v := .ref (a 3)) (C := RX6) (T := TX6) (N := 14) hx hb hts (fun _ h => gI_wsX60 h) hown hK.1 hP 0 rfl rfl 5 (by decide) (hts _ mG_4_10) (fun _ h9 => h9) rfl dX6_convex_100 ?_
                      refine lv_iload hx hb dX6_convex_103 (lv_at hl 6 rfl) ?_
                      refine va_iald hx hb hK.1 hP 3 0 rfl rfl (by first | with_reducible assumption | exact in0_24 | exact in0_60 | decide) dX6_convex_105 ?_
                      refine cp_i (va_runV (As := [.int (pl (Int32.toNatClampNeg x4_35)), .int (f_X6_next pl x4_35 p1), .int (pl (Int32.toNatClampNeg x5_44))]) (rest := []) ⟨hx, hb, hml, hown, hts⟩ (c_X6_turn l dC dI a cI cJ xs ys pl lp lq lr (0 : Int32) v1 v2 v3 v4 v5 v6 v7 (pl (Int32.toNatClampNeg x4_35)) (f_X6_next pl x4_35 p1) (pl (Int32.toNatClampNeg x5_44)) (by first | with_reducible assumption | exact in0_24 | exact in0_60 | decide) (by first | with_reducible assumption | exact in0_24 | exact in0_60 | decide) (by first | with_reducible assumption | exact in0_24 | exact in0_60 | decide)) (cwV 3 hts (gG_V mG_13_4 mG_13_5 mG_13_6 mG_1_5 (gG_c mG_13_7 gG_G)) rfl rfl rfl hd_X6_turn ⟨Nat.le_of_ble_eq_true rfl, Nat.le_of_ble_eq_true rfl⟩) (pPcV (ci := 10) (q0 := 0) hK hP rfl rfl) rfl rfl hl.1 rfl (lv_room (Nat.le_of_ble_eq_true rfl)) dX6_convex_106 ⟨Nat.le_of_ble_eq_true rfl, Nat.le_of_ble_eq_true rfl⟩) hP hS (fun H hP hS => ?_)
                      refine lv_topi (fun y23 ey23 => ?_)
                      refine lv_istore (lv' := [(7, .int y23), (6, .int (0 : Int32)), (0, .ref (a 0)), (1, .int p1), (2, .int x2_44), (3, .int x3_44), (4, .int x4_35), (5, .int x5_44)]) hx hb dX6_convex_109 hl (by decide) rfl (fun ls hl => ?_)
                      exact K111 (0 : Int32) y23 (by subst ey23; rw [hF]; simp only [f_X6_convex_L44, if_neg c6, if_neg c21, if_neg c22]) _ _ hP hD hS ls (lv_sub hl [2, 3, 4, 5, 6, 7, 1, 0] rfl)
                    · skip
                      refine lv_iconst (v := (1 : Int32)) hx hb dX6_convex_68 (by decide) ?_
                      refine lv_goto (tgt := 73) hx hb dX6_convex_69 (by decide) ?_
                      refine lv_istore (lv' := [(6, .int (1 : Int32)), (0, .ref (a 0)), (1, .int p1), (2, .int x2_44), (3, .int x3_44), (4, .int x4_35), (5, .int x5_44)]) hx hb dX6_convex_73 hl (by decide) rfl (fun ls hl => ?_)
                      refine lv_iload hx hb dX6_convex_75 (lv_at hl 0 rfl) ?_
                      refine lv_if_eq (tgt := 84) hx hb dX6_convex_77 (by decide) (fun c9 => absurd c9 (by decide)) (fun _ => ?_)
                      refine lv_iconst (v := (0 : Int32)) hx hb dX6_convex_80 (by decide) ?_
                      refine lv_goto (tgt := 109) hx hb dX6_convex_81 (by decide) ?_
                      refine lv_istore (lv' := [(7, .int (0 : Int32)), (6, .int (1 : Int32)), (0, .ref (a 0)), (1, .int p1), (2, .int x2_44), (3, .int x3_44), (4, .int x4_35), (5, .int x5_44)]) hx hb dX6_convex_109 hl (by decide) rfl (fun ls hl => ?_)
                      exact K111 (1 : Int32) (0 : Int32) (by rw [hF]; simp only [f_X6_convex_L44, if_neg c6, if_neg c21, if_pos c22]) _ _ hP hD hS ls (lv_sub hl [2, 3, 4, 5, 6, 7, 1, 0] rfl)
            exact K44 25 x2_35 x3_35 (0 : Int32) (by decide) (lp_fuel (by decide) hn) (by rw [hF]; simp only [f_X6_convex_L35, if_neg c3]) _ _ hP hD hS ls (lv_sub hl [1, 2, 3, 4, 5, 0] rfl)
      exact K35 25 (1 : Int32) (1 : Int32) (0 : Int32) (by decide) (lp_fuel (by decide) hn) (by rw [eF]; simp only [f_X6_convex, if_neg c1, if_neg c2]) _ _ hP hD hS ls (lv_sub hl [3, 4, 2, 1, 0] rfl)
    · skip
      refine lv_bipush (v := (-4 : Int32)) hx hb dX6_convex_25 (by decide) ?_
      have hE : (f_X6_convex xs ys pl v0 v2 p1) = ((-4 : Int32), (0 : Int32)) := (by simp only [f_X6_convex, if_neg c1, if_pos c2])
      exact rw_i hQ hx hb hr hlk (by rw [hE]; exact hP) hS (by rw [hE]) dX6_convex_27
  · skip
    refine lv_bipush (v := (-2 : Int32)) hx hb dX6_convex_14 (by decide) ?_
    have hE : (f_X6_convex xs ys pl v0 v2 p1) = ((-2 : Int32), (0 : Int32)) := (by simp only [f_X6_convex, if_pos c1])
    exact rw_i hQ hx hb hr hlk (by rw [hE]; exact hP) hS (by rw [hE]) dX6_convex_16
/-! X6_polygon -/
theorem hs_X6_polygon : yX6_polygon.cls ≠ "java/lang/invoke/MethodHandle" ∧ yX6_polygon.cls ≠ "java/lang/invoke/VarHandle" ∧ (parseMethodDescriptor yX6_polygon.desc).map (fun d => d.parameters.length) = some 2 := by decide +kernel
theorem hd_X6_polygon : yX6_polygon.cls = RX6 ∧ yX6_polygon.cls ≠ "java/lang/invoke/MethodHandle" ∧ yX6_polygon.cls ≠ "java/lang/invoke/VarHandle" ∧ (parseMethodDescriptor yX6_polygon.desc).map (fun d => d.parameters.length) = some 2 := ⟨rfl, hs_X6_polygon⟩
def f_X6_polygon_L52 (xs : Nat → Int32) (ys : Nat → Int32) (pl : Nat → Int32) (v0 : Int32) (v1 : Int32) (v2 : Int32) (p1 : Int32) (p2 : Int32)  : Nat → Int32 → Int32 → (Int32 × Int32)
  | 0, _, _ => (0, 0)
  | n + 1, x3_52, x4_52 => (if p1 ≤ x4_52 then ((x3_52 - x3_52 / (2 : Int32) * (2 : Int32)), (0 : Int32)) else (if (f_X6_rises xs ys pl x4_52 p1 p2) = 0 then (f_X6_polygon_L52 xs ys pl v0 v1 v2 p1 p2  n (x3_52 + (0 : Int32)) (x4_52 + 1)) else (f_X6_polygon_L52 xs ys pl v0 v1 v2 p1 p2  n (x3_52 + (1 : Int32)) (x4_52 + 1))))
def f_X6_polygon (xs : Nat → Int32) (ys : Nat → Int32) (pl : Nat → Int32) (v0 : Int32) (v1 : Int32) (v2 : Int32) (p1 : Int32) (p2 : Int32) : Int32 × Int32 := (if (f_X6_isMany v2 p1 (1 : Int32)) = 0 then ((-2 : Int32), (0 : Int32)) else (if (f_X6_isPoint v1 p2) = 0 then ((-2 : Int32), (0 : Int32)) else (if (f_X6_isWhole pl p1) = 0 then ((-4 : Int32), (0 : Int32)) else (if (f_X6_isOnEdge xs ys pl p1 p2) = 0 then (f_X6_polygon_L52 xs ys pl v0 v1 v2 p1 p2  25 (0 : Int32) (0 : Int32)) else ((2 : Int32), (0 : Int32))))))
abbrev rm_X6_polygon : Room := { frames := 4, cells := 0, slots := 0, locals := 91 }
set_option maxHeartbeats 8000000 in
set_option maxRecDepth 100000 in
theorem c_X6_polygon (l : Launch) (dC : Nat → ClassId) (dI : Nat → Nat → Nat) (a : Nat → Nat) (cI cJ : ClassId) (xs : Nat → Int32) (ys : Nat → Int32) (pl : Nat → Int32) (lp : Nat → Int64) (lq : Nat → Int64) (lr : Nat → Int64) (v0 : Int32) (v1 : Int32) (v2 : Int32) (v3 : Int32) (v4 : Int32) (v5 : Int32) (v6 : Int32) (v7 : Int32) (p1 : Int32) (p2 : Int32) (hv1 : v1 ≤ 60) (hh : v2 ≤ 24) (hpl : ∀ j : Nat, pl j = -1 ∨ vp_in (pl j) 60) : Met l yX6_polygon (Cond.code yX6_polygon cX6_polygon 5 (some .int) :: lw_G) rm_X6_polygon (wPc (dC, dI) (tIJ cI cJ) (wM a cI cJ xs ys pl lp lq lr v0 v1 v2 v3 v4 v5 v6 v7) [.ref (a 0), .int p1, .int p2]) (wQi (dC, dI) (wA (wM a cI cJ xs ys pl lp lq lr v0 v1 v2 v3 v4 v5 v6 v7)) (wM a cI cJ xs ys pl lp lq lr ((f_X6_polygon xs ys pl v0 v1 v2 p1 p2).2) v1 v2 v3 v4 v5 v6 v7) (f_X6_polygon xs ys pl v0 v1 v2 p1 p2).1) 0 0 (wA (wM a cI cJ xs ys pl lp lq lr v0 v1 v2 v3 v4 v5 v6 v7)) := by
  refine wm_of (by decide) (Nat.le_of_ble_eq_true rfl) ?_
  intro p e s m args below meth c Q ls hQ hx hb hr hlk hml hown hts hP hK hD hS hl
  have hown : s.vm.findClass RX6 = some m.cls := hown
  have hl : lv_has ls 5 [(0, .ref (a 0)), (1, .int p1), (2, .int p2)] := hl
  generalize hAe : wA (wM a cI cJ xs ys pl lp lq lr v0 v1 v2 v3 v4 v5 v6 v7) = A at hQ hD hS
  obtain ⟨F, eF⟩ : ∃ F, F = (f_X6_polygon xs ys pl v0 v1 v2 p1 p2) := ⟨_, rfl⟩
  refine lv_aload_n hx hb dX6_polygon_0 rfl (lv_at hl 0 rfl) ?_
  refine lv_iconst (v := (0 : Int32)) hx hb dX6_polygon_1 (by decide) ?_
  refine va_put (D := (dC, dI)) (ci := 10) (v := .int (0 : Int32)) (ty := .int) (C := RX6) (T := TX6) (N := 14) hx hb hts (fun _ h => gI_wsX60 h) tyX6 tyX6_ok nmX6 hown hK.1 hP hD hS 0 rfl rfl 0 (by decide) (hts _ mG_5_12) (fun _ h9 => h9) rfl (by decide +kernel) rfl rfl (Nat.le_of_ble_eq_true rfl) dX6_polygon_2 (fun H locs hP hD hS => ?_)
  have hP : va_P (dC, dI) vwCl (wM a cI cJ xs ys pl lp lq lr (0 : Int32) v1 v2 v3 v4 v5 v6 v7) H := hP
  have hD : va_D A (wM a cI cJ xs ys pl lp lq lr (0 : Int32) v1 v2 v3 v4 v5 v6 v7) := hD
  refine lv_aload_n hx hb dX6_polygon_5 rfl (lv_at hl 0 rfl) ?_
  refine lv_iload_n hx hb dX6_polygon_6 rfl (lv_at hl 1 rfl) ?_
  refine lv_iconst (v := (1 : Int32)) hx hb dX6_polygon_7 (by decide) ?_
  refine cp_i (va_runV (As := [.int p1, .int (1 : Int32)]) (rest := []) ⟨hx, hb, hml, hown, hts⟩ (c_X6_isMany l dC dI a cI cJ xs ys pl lp lq lr (0 : Int32) v1 v2 v3 v4 v5 v6 v7 p1 (1 : Int32) ) (cwV 2 hts (gG_V mG_21_0 mG_21_1 mG_21_2 mG_1_5 (gG_c mG_21_3 gG_G)) rfl rfl rfl hd_X6_isMany ⟨Nat.le_of_ble_eq_true rfl, Nat.le_of_ble_eq_true rfl⟩) (pPcV (ci := 10) (q0 := 0) hK hP rfl rfl) rfl rfl hl.1 rfl (lv_room (Nat.le_of_ble_eq_true rfl)) dX6_polygon_8 ⟨Nat.le_of_ble_eq_true rfl, Nat.le_of_ble_eq_true rfl⟩) hP hS (fun H hP hS => ?_)
  refine lv_if_eq (tgt := 22) hx hb dX6_polygon_11 (by decide) (fun c1 => ?_) (fun c1 => ?_)
  · skip
    refine lv_bipush (v := (-2 : Int32)) hx hb dX6_polygon_22 (by decide) ?_
    have hE : (f_X6_polygon xs ys pl v0 v1 v2 p1 p2) = ((-2 : Int32), (0 : Int32)) := (by simp only [f_X6_polygon, if_pos c1])
    exact rw_i hQ hx hb hr hlk (by rw [hE]; exact hP) hS (by rw [hE]) dX6_polygon_24
  · skip
    obtain ⟨hm1, hm2⟩ := in_many c1
    have hn : p1 ≤ 24 := Int32.le_trans hm2 hh
    refine lv_aload_n hx hb dX6_polygon_14 rfl (lv_at hl 0 rfl) ?_
    refine lv_iload_n hx hb dX6_polygon_15 rfl (lv_at hl 2 rfl) ?_
    refine cp_i (va_runV (As := [.int p2]) (rest := []) ⟨hx, hb, hml, hown, hts⟩ (c_X6_isPoint l dC dI a cI cJ xs ys pl lp lq lr (0 : Int32) v1 v2 v3 v4 v5 v6 v7 p2 ) (cwV 1 hts (gG_V mG_8_5 mG_8_6 mG_8_7 mG_1_5 (gG_c mG_8_8 gG_G)) rfl rfl rfl hd_X6_isPoint ⟨Nat.le_of_ble_eq_true rfl, Nat.le_of_ble_eq_true rfl⟩) (pPcV (ci := 10) (q0 := 0) hK hP rfl rfl) rfl rfl hl.1 rfl (lv_room (Nat.le_of_ble_eq_true rfl)) dX6_polygon_16 ⟨Nat.le_of_ble_eq_true rfl, Nat.le_of_ble_eq_true rfl⟩) hP hS (fun H hP hS => ?_)
    refine lv_if_ne (tgt := 25) hx hb dX6_polygon_19 (by decide) (fun c2 => ?_) (fun c2 => ?_)
    · skip
      have hp : vp_in p2 60 := in_isPoint hv1 c2
      refine lv_aload_n hx hb dX6_polygon_25 rfl (lv_at hl 0 rfl) ?_
      refine lv_iload_n hx hb dX6_polygon_26 rfl (lv_at hl 1 rfl) ?_
      refine cp_i (va_runV (As := [.int p1]) (rest := []) ⟨hx, hb, hml, hown, hts⟩ (c_X6_isWhole l dC dI a cI cJ xs ys pl lp lq lr (0 : Int32) v1 v2 v3 v4 v5 v6 v7 p1 (by first | with_reducible assumption | exact in0_24 | exact in0_60 | decide)) (cwV 1 hts (gG_V mG_21_4 mG_21_5 mG_21_6 mG_1_5 (gG_c mG_21_7 gG_G)) rfl rfl rfl hd_X6_isWhole ⟨Nat.le_of_ble_eq_true rfl, Nat.le_of_ble_eq_true rfl⟩) (pPcV (ci := 10) (q0 := 0) hK hP rfl rfl) rfl rfl hl.1 rfl (lv_room (Nat.le_of_ble_eq_true rfl)) dX6_polygon_27 ⟨Nat.le_of_ble_eq_true rfl, Nat.le_of_ble_eq_true rfl⟩) hP hS (fun H hP hS => ?_)
      refine lv_if_ne (tgt := 36) hx hb dX6_polygon_30 (by decide) (fun c3 => ?_) (fun c3 => ?_)
      · skip
        have hv := mw_spec hn hpl c3
        refine lv_aload_n hx hb dX6_polygon_36 rfl (lv_at hl 0 rfl) ?_
        refine lv_iload_n hx hb dX6_polygon_37 rfl (lv_at hl 1 rfl) ?_
        refine lv_iload_n hx hb dX6_polygon_38 rfl (lv_at hl 2 rfl) ?_
        refine cp_i (va_runV (As := [.int p1, .int p2]) (rest := []) ⟨hx, hb, hml, hown, hts⟩ (c_X6_isOnEdge l dC dI a cI cJ xs ys pl lp lq lr (0 : Int32) v1 v2 v3 v4 v5 v6 v7 p1 p2 (by first | with_reducible assumption | exact in0_24 | exact in0_60 | decide) (by first | with_reducible assumption | exact in0_24 | exact in0_60 | decide) (by first | with_reducible assumption | exact in0_24 | exact in0_60 | decide)) (cwV 2 hts (gG_V mG_22_14 mG_22_15 mG_22_16 mG_1_5 (gG_c mG_22_17 gG_G)) rfl rfl rfl hd_X6_isOnEdge ⟨Nat.le_of_ble_eq_true rfl, Nat.le_of_ble_eq_true rfl⟩) (pPcV (ci := 10) (q0 := 0) hK hP rfl rfl) rfl rfl hl.1 rfl (lv_room (Nat.le_of_ble_eq_true rfl)) dX6_polygon_39 ⟨Nat.le_of_ble_eq_true rfl, Nat.le_of_ble_eq_true rfl⟩) hP hS (fun H hP hS => ?_)
        refine lv_if_eq (tgt := 47) hx hb dX6_polygon_42 (by decide) (fun c4 => ?_) (fun c4 => ?_)
        · skip
          refine lv_iconst (v := (0 : Int32)) hx hb dX6_polygon_47 (by decide) ?_
          refine lv_istore_n (lv' := [(3, .int (0 : Int32)), (0, .ref (a 0)), (1, .int p1), (2, .int p2)]) hx hb dX6_polygon_48 rfl hl (by decide) rfl (fun ls hl => ?_)
          refine lv_iconst (v := (0 : Int32)) hx hb dX6_polygon_49 (by decide) ?_
          refine lv_istore (lv' := [(4, .int (0 : Int32)), (3, .int (0 : Int32)), (0, .ref (a 0)), (1, .int p1), (2, .int p2)]) hx hb dX6_polygon_50 hl (by decide) rfl (fun ls hl => ?_)
          have K52 : ∀ (n52 : Nat) (x3_52 : Int32) (x4_52 : Int32), 0 ≤ x4_52 → ((p1).toInt - x4_52.toInt).toNat < n52 → F = f_X6_polygon_L52 xs ys pl v0 v1 v2 p1 p2  n52 x3_52 x4_52 → ∀ (H : Heap) (locs : List Loc), va_P (dC, dI) vwCl (wM a cI cJ xs ys pl lp lq lr (0 : Int32) v1 v2 v3 v4 v5 v6 v7) H → va_D A (wM a cI cJ xs ys pl lp lq lr (0 : Int32) v1 v2 v3 v4 v5 v6 v7) → va_S A s.heap H locs → ∀ (ls : Array Slot), lv_has ls 5 [(0, .ref (a 0)), (1, .int p1), (2, .int p2), (3, .int x3_52), (4, .int x4_52)] → W p l e rm_X6_polygon s m args below meth c H locs 0 0 Q (F0 m 52 ls []) := by
            intro n52
            induction n52 with
            | zero => intro x3_52 x4_52 h0_52 hf_52 hF H locs hP hD hS ls hl; exact absurd hf_52 (Nat.not_lt_zero _)
            | succ n52 ih52 =>
              intro x3_52 x4_52 h0_52 hf_52 hF H locs hP hD hS ls hl
              refine lv_iload hx hb dX6_polygon_52 (lv_at hl 4 rfl) ?_
              refine lv_iload_n hx hb dX6_polygon_54 rfl (lv_at hl 1 rfl) ?_
              refine lv_icmp_ge (tgt := 83) hx hb dX6_polygon_55 (by decide) (fun c5 => ?_) (fun c5 => ?_)
              · skip
                refine lv_iload_n hx hb dX6_polygon_83 rfl (lv_at hl 3 rfl) ?_
                refine lv_iconst (v := (2 : Int32)) hx hb dX6_polygon_84 (by decide) ?_
                refine lv_irem hx hb dX6_polygon_85 (by first | with_reducible assumption | exact in0_24 | exact in0_60 | decide) ?_
                have hE : F = ((x3_52 - x3_52 / (2 : Int32) * (2 : Int32)), (0 : Int32)) := (by rw [hF]; simp only [f_X6_polygon_L52, if_pos c5])
                rw [eF] at hE
                exact rw_i hQ hx hb hr hlk (by rw [hE]; exact hP) hS (by rw [hE]) dX6_polygon_86
              · skip
                refine lv_iload_n hx hb dX6_polygon_58 rfl (lv_at hl 3 rfl) ?_
                refine lv_aload_n hx hb dX6_polygon_59 rfl (lv_at hl 0 rfl) ?_
                refine lv_iload hx hb dX6_polygon_60 (lv_at hl 4 rfl) ?_
                refine lv_iload_n hx hb dX6_polygon_62 rfl (lv_at hl 1 rfl) ?_
                refine lv_iload_n hx hb dX6_polygon_63 rfl (lv_at hl 2 rfl) ?_
                refine cp_i (va_runV (As := [.int x4_52, .int p1, .int p2]) (rest := [.int x3_52]) ⟨hx, hb, hml, hown, hts⟩ (c_X6_rises l dC dI a cI cJ xs ys pl lp lq lr (0 : Int32) v1 v2 v3 v4 v5 v6 v7 x4_52 p1 p2 (by first | with_reducible assumption | exact in0_24 | exact in0_60 | decide) (by first | with_reducible assumption | exact in0_24 | exact in0_60 | decide) (by first | with_reducible assumption | exact in0_24 | exact in0_60 | decide) (by first | with_reducible assumption | exact in0_24 | exact in0_60 | decide) (by first | with_reducible assumption | exact in0_24 | exact in0_60 | decide)) (cwV 3 hts (gG_V mG_22_18 mG_22_19 mG_22_20 mG_1_5 (gG_c mG_22_21 gG_G)) rfl rfl rfl hd_X6_rises ⟨Nat.le_of_ble_eq_true rfl, Nat.le_of_ble_eq_true rfl⟩) (pPcV (ci := 10) (q0 := 0) hK hP rfl rfl) rfl rfl hl.1 rfl (lv_room (Nat.le_of_ble_eq_true rfl)) dX6_polygon_64 ⟨Nat.le_of_ble_eq_true rfl, Nat.le_of_ble_eq_true rfl⟩) hP hS (fun H hP hS => ?_)
                refine lv_if_ne (tgt := 74) hx hb dX6_polygon_67 (by decide) (fun c6 => ?_) (fun c6 => ?_)
                · skip
                  refine lv_iconst (v := (1 : Int32)) hx hb dX6_polygon_74 (by decide) ?_
                  refine lv_iadd hx hb dX6_polygon_75 ?_
                  refine lv_topi (fun y7 ey7 => ?_)
                  refine lv_istore_n (lv' := [(3, .int y7), (0, .ref (a 0)), (1, .int p1), (2, .int p2), (4, .int x4_52)]) hx hb dX6_polygon_76 rfl hl (by decide) rfl (fun ls hl => ?_)
                  refine lv_iinc (v := (x4_52 + 1)) (lv' := [(4, .int (x4_52 + 1)), (3, .int y7), (0, .ref (a 0)), (1, .int p1), (2, .int p2)]) hx hb dX6_polygon_77 hl (k := 4) rfl rfl (by decide) rfl (fun ls hl => ?_)
                  refine lv_goto (tgt := 52) hx hb dX6_polygon_80 (by decide) ?_
                  exact ih52 y7 (x4_52 + 1) (lp_pos h0_52 c5) (lp_dec c5 hf_52) (by subst ey7; rw [hF]; simp only [f_X6_polygon_L52, if_neg c5, if_neg c6]) _ _ hP hD hS ls (lv_sub hl [2, 3, 4, 1, 0] rfl)
                · skip
                  refine lv_iconst (v := (0 : Int32)) hx hb dX6_polygon_70 (by decide) ?_
                  refine lv_goto (tgt := 75) hx hb dX6_polygon_71 (by decide) ?_
                  refine lv_iadd hx hb dX6_polygon_75 ?_
                  refine lv_topi (fun y8 ey8 => ?_)
                  refine lv_istore_n (lv' := [(3, .int y8), (0, .ref (a 0)), (1, .int p1), (2, .int p2), (4, .int x4_52)]) hx hb dX6_polygon_76 rfl hl (by decide) rfl (fun ls hl => ?_)
                  refine lv_iinc (v := (x4_52 + 1)) (lv' := [(4, .int (x4_52 + 1)), (3, .int y8), (0, .ref (a 0)), (1, .int p1), (2, .int p2)]) hx hb dX6_polygon_77 hl (k := 4) rfl rfl (by decide) rfl (fun ls hl => ?_)
                  refine lv_goto (tgt := 52) hx hb dX6_polygon_80 (by decide) ?_
                  exact ih52 y8 (x4_52 + 1) (lp_pos h0_52 c5) (lp_dec c5 hf_52) (by subst ey8; rw [hF]; simp only [f_X6_polygon_L52, if_neg c5, if_pos c6]) _ _ hP hD hS ls (lv_sub hl [2, 3, 4, 1, 0] rfl)
          exact K52 25 (0 : Int32) (0 : Int32) (by decide) (lp_fuel (by decide) hn) (by rw [eF]; simp only [f_X6_polygon, if_neg c1, if_neg c2, if_neg c3, if_pos c4]) _ _ hP hD hS ls (lv_sub hl [2, 3, 4, 1, 0] rfl)
        · skip
          refine lv_iconst (v := (2 : Int32)) hx hb dX6_polygon_45 (by decide) ?_
          have hE : (f_X6_polygon xs ys pl v0 v1 v2 p1 p2) = ((2 : Int32), (0 : Int32)) := (by simp only [f_X6_polygon, if_neg c1, if_neg c2, if_neg c3, if_neg c4])
          exact rw_i hQ hx hb hr hlk (by rw [hE]; exact hP) hS (by rw [hE]) dX6_polygon_46
      · skip
        refine lv_bipush (v := (-4 : Int32)) hx hb dX6_polygon_33 (by decide) ?_
        have hE : (f_X6_polygon xs ys pl v0 v1 v2 p1 p2) = ((-4 : Int32), (0 : Int32)) := (by simp only [f_X6_polygon, if_neg c1, if_neg c2, if_pos c3])
        exact rw_i hQ hx hb hr hlk (by rw [hE]; exact hP) hS (by rw [hE]) dX6_polygon_35
    · skip
      refine lv_bipush (v := (-2 : Int32)) hx hb dX6_polygon_22 (by decide) ?_
      have hE : (f_X6_polygon xs ys pl v0 v1 v2 p1 p2) = ((-2 : Int32), (0 : Int32)) := (by simp only [f_X6_polygon, if_neg c1, if_pos c2])
      exact rw_i hQ hx hb hr hlk (by rw [hE]; exact hP) hS (by rw [hE]) dX6_polygon_24
/-! X6_winding -/
theorem hs_X6_winding : yX6_winding.cls ≠ "java/lang/invoke/MethodHandle" ∧ yX6_winding.cls ≠ "java/lang/invoke/VarHandle" ∧ (parseMethodDescriptor yX6_winding.desc).map (fun d => d.parameters.length) = some 2 := by decide +kernel
theorem hd_X6_winding : yX6_winding.cls = RX6 ∧ yX6_winding.cls ≠ "java/lang/invoke/MethodHandle" ∧ yX6_winding.cls ≠ "java/lang/invoke/VarHandle" ∧ (parseMethodDescriptor yX6_winding.desc).map (fun d => d.parameters.length) = some 2 := ⟨rfl, hs_X6_winding⟩
def f_X6_winding_L50 (xs : Nat → Int32) (ys : Nat → Int32) (pl : Nat → Int32) (v0 : Int32) (v1 : Int32) (v2 : Int32) (p1 : Int32) (p2 : Int32)  : Nat → Int32 → Int32 → (Int32 × Int32)
  | 0, _, _ => (0, 0)
  | n + 1, x3_50, x4_50 => (if p1 ≤ x4_50 then (x3_50, (0 : Int32)) else (f_X6_winding_L50 xs ys pl v0 v1 v2 p1 p2  n (x3_50 + (f_X6_rises xs ys pl x4_50 p1 p2)) (x4_50 + 1)))
def f_X6_winding (xs : Nat → Int32) (ys : Nat → Int32) (pl : Nat → Int32) (v0 : Int32) (v1 : Int32) (v2 : Int32) (p1 : Int32) (p2 : Int32) : Int32 × Int32 := (if (f_X6_isMany v2 p1 (1 : Int32)) = 0 then ((-100 : Int32), (0 : Int32)) else (if (f_X6_isPoint v1 p2) = 0 then ((-100 : Int32), (0 : Int32)) else (if (f_X6_isWhole pl p1) = 0 then ((-100 : Int32), (0 : Int32)) else (if (f_X6_isOnEdge xs ys pl p1 p2) = 0 then (f_X6_winding_L50 xs ys pl v0 v1 v2 p1 p2  25 (0 : Int32) (0 : Int32)) else ((100 : Int32), (0 : Int32))))))
abbrev rm_X6_winding : Room := { frames := 4, cells := 0, slots := 0, locals := 91 }
set_option maxHeartbeats 8000000 in
set_option maxRecDepth 100000 in
theorem c_X6_winding (l : Launch) (dC : Nat → ClassId) (dI : Nat → Nat → Nat) (a : Nat → Nat) (cI cJ : ClassId) (xs : Nat → Int32) (ys : Nat → Int32) (pl : Nat → Int32) (lp : Nat → Int64) (lq : Nat → Int64) (lr : Nat → Int64) (v0 : Int32) (v1 : Int32) (v2 : Int32) (v3 : Int32) (v4 : Int32) (v5 : Int32) (v6 : Int32) (v7 : Int32) (p1 : Int32) (p2 : Int32) (hv1 : v1 ≤ 60) (hh : v2 ≤ 24) (hpl : ∀ j : Nat, pl j = -1 ∨ vp_in (pl j) 60) : Met l yX6_winding (Cond.code yX6_winding cX6_winding 5 (some .int) :: lw_G) rm_X6_winding (wPc (dC, dI) (tIJ cI cJ) (wM a cI cJ xs ys pl lp lq lr v0 v1 v2 v3 v4 v5 v6 v7) [.ref (a 0), .int p1, .int p2]) (wQi (dC, dI) (wA (wM a cI cJ xs ys pl lp lq lr v0 v1 v2 v3 v4 v5 v6 v7)) (wM a cI cJ xs ys pl lp lq lr ((f_X6_winding xs ys pl v0 v1 v2 p1 p2).2) v1 v2 v3 v4 v5 v6 v7) (f_X6_winding xs ys pl v0 v1 v2 p1 p2).1) 0 0 (wA (wM a cI cJ xs ys pl lp lq lr v0 v1 v2 v3 v4 v5 v6 v7)) := by
  refine wm_of (by decide) (Nat.le_of_ble_eq_true rfl) ?_
  intro p e s m args below meth c Q ls hQ hx hb hr hlk hml hown hts hP hK hD hS hl
  have hown : s.vm.findClass RX6 = some m.cls := hown
  have hl : lv_has ls 5 [(0, .ref (a 0)), (1, .int p1), (2, .int p2)] := hl
  generalize hAe : wA (wM a cI cJ xs ys pl lp lq lr v0 v1 v2 v3 v4 v5 v6 v7) = A at hQ hD hS
  obtain ⟨F, eF⟩ : ∃ F, F = (f_X6_winding xs ys pl v0 v1 v2 p1 p2) := ⟨_, rfl⟩
  refine lv_aload_n hx hb dX6_winding_0 rfl (lv_at hl 0 rfl) ?_
  refine lv_iconst (v := (0 : Int32)) hx hb dX6_winding_1 (by decide) ?_
  refine va_put (D := (dC, dI)) (ci := 10) (v := .int (0 : Int32)) (ty := .int) (C := RX6) (T := TX6) (N := 14) hx hb hts (fun _ h => gI_wsX60 h) tyX6 tyX6_ok nmX6 hown hK.1 hP hD hS 0 rfl rfl 0 (by decide) (hts _ mG_5_12) (fun _ h9 => h9) rfl (by decide +kernel) rfl rfl (Nat.le_of_ble_eq_true rfl) dX6_winding_2 (fun H locs hP hD hS => ?_)
  have hP : va_P (dC, dI) vwCl (wM a cI cJ xs ys pl lp lq lr (0 : Int32) v1 v2 v3 v4 v5 v6 v7) H := hP
  have hD : va_D A (wM a cI cJ xs ys pl lp lq lr (0 : Int32) v1 v2 v3 v4 v5 v6 v7) := hD
  refine lv_aload_n hx hb dX6_winding_5 rfl (lv_at hl 0 rfl) ?_
  refine lv_iload_n hx hb dX6_winding_6 rfl (lv_at hl 1 rfl) ?_
  refine lv_iconst (v := (1 : Int32)) hx hb dX6_winding_7 (by decide) ?_
  refine cp_i (va_runV (As := [.int p1, .int (1 : Int32)]) (rest := []) ⟨hx, hb, hml, hown, hts⟩ (c_X6_isMany l dC dI a cI cJ xs ys pl lp lq lr (0 : Int32) v1 v2 v3 v4 v5 v6 v7 p1 (1 : Int32) ) (cwV 2 hts (gG_V mG_21_0 mG_21_1 mG_21_2 mG_1_5 (gG_c mG_21_3 gG_G)) rfl rfl rfl hd_X6_isMany ⟨Nat.le_of_ble_eq_true rfl, Nat.le_of_ble_eq_true rfl⟩) (pPcV (ci := 10) (q0 := 0) hK hP rfl rfl) rfl rfl hl.1 rfl (lv_room (Nat.le_of_ble_eq_true rfl)) dX6_winding_8 ⟨Nat.le_of_ble_eq_true rfl, Nat.le_of_ble_eq_true rfl⟩) hP hS (fun H hP hS => ?_)
  refine lv_if_eq (tgt := 30) hx hb dX6_winding_11 (by decide) (fun c1 => ?_) (fun c1 => ?_)
  · skip
    refine lv_bipush (v := (-100 : Int32)) hx hb dX6_winding_30 (by decide) ?_
    have hE : (f_X6_winding xs ys pl v0 v1 v2 p1 p2) = ((-100 : Int32), (0 : Int32)) := (by simp only [f_X6_winding, if_pos c1])
    exact rw_i hQ hx hb hr hlk (by rw [hE]; exact hP) hS (by rw [hE]) dX6_winding_32
  · skip
    obtain ⟨hm1, hm2⟩ := in_many c1
    have hn : p1 ≤ 24 := Int32.le_trans hm2 hh
    refine lv_aload_n hx hb dX6_winding_14 rfl (lv_at hl 0 rfl) ?_
    refine lv_iload_n hx hb dX6_winding_15 rfl (lv_at hl 2 rfl) ?_
    refine cp_i (va_runV (As := [.int p2]) (rest := []) ⟨hx, hb, hml, hown, hts⟩ (c_X6_isPoint l dC dI a cI cJ xs ys pl lp lq lr (0 : Int32) v1 v2 v3 v4 v5 v6 v7 p2 ) (cwV 1 hts (gG_V mG_8_5 mG_8_6 mG_8_7 mG_1_5 (gG_c mG_8_8 gG_G)) rfl rfl rfl hd_X6_isPoint ⟨Nat.le_of_ble_eq_true rfl, Nat.le_of_ble_eq_true rfl⟩) (pPcV (ci := 10) (q0 := 0) hK hP rfl rfl) rfl rfl hl.1 rfl (lv_room (Nat.le_of_ble_eq_true rfl)) dX6_winding_16 ⟨Nat.le_of_ble_eq_true rfl, Nat.le_of_ble_eq_true rfl⟩) hP hS (fun H hP hS => ?_)
    refine lv_if_eq (tgt := 30) hx hb dX6_winding_19 (by decide) (fun c2 => ?_) (fun c2 => ?_)
    · skip
      refine lv_bipush (v := (-100 : Int32)) hx hb dX6_winding_30 (by decide) ?_
      have hE : (f_X6_winding xs ys pl v0 v1 v2 p1 p2) = ((-100 : Int32), (0 : Int32)) := (by simp only [f_X6_winding, if_neg c1, if_pos c2])
      exact rw_i hQ hx hb hr hlk (by rw [hE]; exact hP) hS (by rw [hE]) dX6_winding_32
    · skip
      have hp : vp_in p2 60 := in_isPoint hv1 c2
      refine lv_aload_n hx hb dX6_winding_22 rfl (lv_at hl 0 rfl) ?_
      refine lv_iload_n hx hb dX6_winding_23 rfl (lv_at hl 1 rfl) ?_
      refine cp_i (va_runV (As := [.int p1]) (rest := []) ⟨hx, hb, hml, hown, hts⟩ (c_X6_isWhole l dC dI a cI cJ xs ys pl lp lq lr (0 : Int32) v1 v2 v3 v4 v5 v6 v7 p1 (by first | with_reducible assumption | exact in0_24 | exact in0_60 | decide)) (cwV 1 hts (gG_V mG_21_4 mG_21_5 mG_21_6 mG_1_5 (gG_c mG_21_7 gG_G)) rfl rfl rfl hd_X6_isWhole ⟨Nat.le_of_ble_eq_true rfl, Nat.le_of_ble_eq_true rfl⟩) (pPcV (ci := 10) (q0 := 0) hK hP rfl rfl) rfl rfl hl.1 rfl (lv_room (Nat.le_of_ble_eq_true rfl)) dX6_winding_24 ⟨Nat.le_of_ble_eq_true rfl, Nat.le_of_ble_eq_true rfl⟩) hP hS (fun H hP hS => ?_)
      refine lv_if_ne (tgt := 33) hx hb dX6_winding_27 (by decide) (fun c3 => ?_) (fun c3 => ?_)
      · skip
        have hv := mw_spec hn hpl c3
        refine lv_aload_n hx hb dX6_winding_33 rfl (lv_at hl 0 rfl) ?_
        refine lv_iload_n hx hb dX6_winding_34 rfl (lv_at hl 1 rfl) ?_
        refine lv_iload_n hx hb dX6_winding_35 rfl (lv_at hl 2 rfl) ?_
        refine cp_i (va_runV (As := [.int p1, .int p2]) (rest := []) ⟨hx, hb, hml, hown, hts⟩ (c_X6_isOnEdge l dC dI a cI cJ xs ys pl lp lq lr (0 : Int32) v1 v2 v3 v4 v5 v6 v7 p1 p2 (by first | with_reducible assumption | exact in0_24 | exact in0_60 | decide) (by first | with_reducible assumption | exact in0_24 | exact in0_60 | decide) (by first | with_reducible assumption | exact in0_24 | exact in0_60 | decide)) (cwV 2 hts (gG_V mG_22_14 mG_22_15 mG_22_16 mG_1_5 (gG_c mG_22_17 gG_G)) rfl rfl rfl hd_X6_isOnEdge ⟨Nat.le_of_ble_eq_true rfl, Nat.le_of_ble_eq_true rfl⟩) (pPcV (ci := 10) (q0 := 0) hK hP rfl rfl) rfl rfl hl.1 rfl (lv_room (Nat.le_of_ble_eq_true rfl)) dX6_winding_36 ⟨Nat.le_of_ble_eq_true rfl, Nat.le_of_ble_eq_true rfl⟩) hP hS (fun H hP hS => ?_)
        refine lv_if_eq (tgt := 45) hx hb dX6_winding_39 (by decide) (fun c4 => ?_) (fun c4 => ?_)
        · skip
          refine lv_iconst (v := (0 : Int32)) hx hb dX6_winding_45 (by decide) ?_
          refine lv_istore_n (lv' := [(3, .int (0 : Int32)), (0, .ref (a 0)), (1, .int p1), (2, .int p2)]) hx hb dX6_winding_46 rfl hl (by decide) rfl (fun ls hl => ?_)
          refine lv_iconst (v := (0 : Int32)) hx hb dX6_winding_47 (by decide) ?_
          refine lv_istore (lv' := [(4, .int (0 : Int32)), (3, .int (0 : Int32)), (0, .ref (a 0)), (1, .int p1), (2, .int p2)]) hx hb dX6_winding_48 hl (by decide) rfl (fun ls hl => ?_)
          have K50 : ∀ (n50 : Nat) (x3_50 : Int32) (x4_50 : Int32), 0 ≤ x4_50 → ((p1).toInt - x4_50.toInt).toNat < n50 → F = f_X6_winding_L50 xs ys pl v0 v1 v2 p1 p2  n50 x3_50 x4_50 → ∀ (H : Heap) (locs : List Loc), va_P (dC, dI) vwCl (wM a cI cJ xs ys pl lp lq lr (0 : Int32) v1 v2 v3 v4 v5 v6 v7) H → va_D A (wM a cI cJ xs ys pl lp lq lr (0 : Int32) v1 v2 v3 v4 v5 v6 v7) → va_S A s.heap H locs → ∀ (ls : Array Slot), lv_has ls 5 [(0, .ref (a 0)), (1, .int p1), (2, .int p2), (3, .int x3_50), (4, .int x4_50)] → W p l e rm_X6_winding s m args below meth c H locs 0 0 Q (F0 m 50 ls []) := by
            intro n50
            induction n50 with
            | zero => intro x3_50 x4_50 h0_50 hf_50 hF H locs hP hD hS ls hl; exact absurd hf_50 (Nat.not_lt_zero _)
            | succ n50 ih50 =>
              intro x3_50 x4_50 h0_50 hf_50 hF H locs hP hD hS ls hl
              refine lv_iload hx hb dX6_winding_50 (lv_at hl 4 rfl) ?_
              refine lv_iload_n hx hb dX6_winding_52 rfl (lv_at hl 1 rfl) ?_
              refine lv_icmp_ge (tgt := 73) hx hb dX6_winding_53 (by decide) (fun c5 => ?_) (fun c5 => ?_)
              · skip
                refine lv_iload_n hx hb dX6_winding_73 rfl (lv_at hl 3 rfl) ?_
                have hE : F = (x3_50, (0 : Int32)) := (by rw [hF]; simp only [f_X6_winding_L50, if_pos c5])
                rw [eF] at hE
                exact rw_i hQ hx hb hr hlk (by rw [hE]; exact hP) hS (by rw [hE]) dX6_winding_74
              · skip
                refine lv_iload_n hx hb dX6_winding_56 rfl (lv_at hl 3 rfl) ?_
                refine lv_aload_n hx hb dX6_winding_57 rfl (lv_at hl 0 rfl) ?_
                refine lv_iload hx hb dX6_winding_58 (lv_at hl 4 rfl) ?_
                refine lv_iload_n hx hb dX6_winding_60 rfl (lv_at hl 1 rfl) ?_
                refine lv_iload_n hx hb dX6_winding_61 rfl (lv_at hl 2 rfl) ?_
                refine cp_i (va_runV (As := [.int x4_50, .int p1, .int p2]) (rest := [.int x3_50]) ⟨hx, hb, hml, hown, hts⟩ (c_X6_rises l dC dI a cI cJ xs ys pl lp lq lr (0 : Int32) v1 v2 v3 v4 v5 v6 v7 x4_50 p1 p2 (by first | with_reducible assumption | exact in0_24 | exact in0_60 | decide) (by first | with_reducible assumption | exact in0_24 | exact in0_60 | decide) (by first | with_reducible assumption | exact in0_24 | exact in0_60 | decide) (by first | with_reducible assumption | exact in0_24 | exact in0_60 | decide) (by first | with_reducible assumption | exact in0_24 | exact in0_60 | decide)) (cwV 3 hts (gG_V mG_22_18 mG_22_19 mG_22_20 mG_1_5 (gG_c mG_22_21 gG_G)) rfl rfl rfl hd_X6_rises ⟨Nat.le_of_ble_eq_true rfl, Nat.le_of_ble_eq_true rfl⟩) (pPcV (ci := 10) (q0 := 0) hK hP rfl rfl) rfl rfl hl.1 rfl (lv_room (Nat.le_of_ble_eq_true rfl)) dX6_winding_62 ⟨Nat.le_of_ble_eq_true rfl, Nat.le_of_ble_eq_true rfl⟩) hP hS (fun H hP hS => ?_)
                refine lv_iadd hx hb dX6_winding_65 ?_
                refine lv_topi (fun y6 ey6 => ?_)
                refine lv_istore_n (lv' := [(3, .int y6), (0, .ref (a 0)), (1, .int p1), (2, .int p2), (4, .int x4_50)]) hx hb dX6_winding_66 rfl hl (by decide) rfl (fun ls hl => ?_)
                refine lv_iinc (v := (x4_50 + 1)) (lv' := [(4, .int (x4_50 + 1)), (3, .int y6), (0, .ref (a 0)), (1, .int p1), (2, .int p2)]) hx hb dX6_winding_67 hl (k := 4) rfl rfl (by decide) rfl (fun ls hl => ?_)
                refine lv_goto (tgt := 50) hx hb dX6_winding_70 (by decide) ?_
                exact ih50 y6 (x4_50 + 1) (lp_pos h0_50 c5) (lp_dec c5 hf_50) (by subst ey6; rw [hF]; simp only [f_X6_winding_L50, if_neg c5]) _ _ hP hD hS ls (lv_sub hl [2, 3, 4, 1, 0] rfl)
          exact K50 25 (0 : Int32) (0 : Int32) (by decide) (lp_fuel (by decide) hn) (by rw [eF]; simp only [f_X6_winding, if_neg c1, if_neg c2, if_neg c3, if_pos c4]) _ _ hP hD hS ls (lv_sub hl [2, 3, 4, 1, 0] rfl)
        · skip
          refine lv_bipush (v := (100 : Int32)) hx hb dX6_winding_42 (by decide) ?_
          have hE : (f_X6_winding xs ys pl v0 v1 v2 p1 p2) = ((100 : Int32), (0 : Int32)) := (by simp only [f_X6_winding, if_neg c1, if_neg c2, if_neg c3, if_neg c4])
          exact rw_i hQ hx hb hr hlk (by rw [hE]; exact hP) hS (by rw [hE]) dX6_winding_44
      · skip
        refine lv_bipush (v := (-100 : Int32)) hx hb dX6_winding_30 (by decide) ?_
        have hE : (f_X6_winding xs ys pl v0 v1 v2 p1 p2) = ((-100 : Int32), (0 : Int32)) := (by simp only [f_X6_winding, if_neg c1, if_neg c2, if_pos c3])
        exact rw_i hQ hx hb hr hlk (by rw [hE]; exact hP) hS (by rw [hE]) dX6_winding_32
/-! X6_nearest -/
theorem hs_X6_nearest : yX6_nearest.cls ≠ "java/lang/invoke/MethodHandle" ∧ yX6_nearest.cls ≠ "java/lang/invoke/VarHandle" ∧ (parseMethodDescriptor yX6_nearest.desc).map (fun d => d.parameters.length) = some 2 := by decide +kernel
theorem hd_X6_nearest : yX6_nearest.cls = RX6 ∧ yX6_nearest.cls ≠ "java/lang/invoke/MethodHandle" ∧ yX6_nearest.cls ≠ "java/lang/invoke/VarHandle" ∧ (parseMethodDescriptor yX6_nearest.desc).map (fun d => d.parameters.length) = some 2 := ⟨rfl, hs_X6_nearest⟩
def f_X6_nearest_L54 (xs : Nat → Int32) (ys : Nat → Int32) (pl : Nat → Int32) (v0 : Int32) (v1 : Int32) (v2 : Int32) (p1 : Int32) (p2 : Int32)  : Nat → Int32 → Int64 → Int32 → (Int32 × Int32)
  | 0, _, _, _ => (0, 0)
  | n + 1, x3_54, x4_54, x6_54 => (if p2 ≤ x6_54 then (x3_54, (0 : Int32)) else (if 0 ≤ (lg_cmp (f_X6_far xs ys p1 (pl (Int32.toNatClampNeg x6_54))) x4_54) then (if (lg_cmp (f_X6_far xs ys p1 (pl (Int32.toNatClampNeg x6_54))) x4_54) = 0 then (f_X6_nearest_L54 xs ys pl v0 v1 v2 p1 p2  n (x3_54 ||| ((1 : Int32) <<< (x6_54 &&& 31))) x4_54 (x6_54 + 1)) else (f_X6_nearest_L54 xs ys pl v0 v1 v2 p1 p2  n x3_54 x4_54 (x6_54 + 1))) else (f_X6_nearest_L54 xs ys pl v0 v1 v2 p1 p2  n ((1 : Int32) <<< (x6_54 &&& 31)) (f_X6_far xs ys p1 (pl (Int32.toNatClampNeg x6_54))) (x6_54 + 1))))
def f_X6_nearest (xs : Nat → Int32) (ys : Nat → Int32) (pl : Nat → Int32) (v0 : Int32) (v1 : Int32) (v2 : Int32) (p1 : Int32) (p2 : Int32) : Int32 × Int32 := (if (f_X6_isPoint v1 p1) = 0 then ((-2 : Int32), (0 : Int32)) else (if (f_X6_isMany v2 p2 (1 : Int32)) = 0 then ((-2 : Int32), (0 : Int32)) else (if (f_X6_isWhole pl p2) = 0 then ((-4 : Int32), (0 : Int32)) else (f_X6_nearest_L54 xs ys pl v0 v1 v2 p1 p2  25 (0 : Int32) (f_X6_far xs ys p1 (pl (Int32.toNatClampNeg (0 : Int32)))) (0 : Int32)))))
abbrev rm_X6_nearest : Room := { frames := 2, cells := 0, slots := 0, locals := 45 }
set_option maxHeartbeats 8000000 in
set_option maxRecDepth 100000 in
theorem c_X6_nearest (l : Launch) (dC : Nat → ClassId) (dI : Nat → Nat → Nat) (a : Nat → Nat) (cI cJ : ClassId) (xs : Nat → Int32) (ys : Nat → Int32) (pl : Nat → Int32) (lp : Nat → Int64) (lq : Nat → Int64) (lr : Nat → Int64) (v0 : Int32) (v1 : Int32) (v2 : Int32) (v3 : Int32) (v4 : Int32) (v5 : Int32) (v6 : Int32) (v7 : Int32) (p1 : Int32) (p2 : Int32) (hv1 : v1 ≤ 60) (hh : v2 ≤ 24) (hpl : ∀ j : Nat, pl j = -1 ∨ vp_in (pl j) 60) : Met l yX6_nearest (Cond.code yX6_nearest cX6_nearest 9 (some .int) :: lw_G) rm_X6_nearest (wPc (dC, dI) (tIJ cI cJ) (wM a cI cJ xs ys pl lp lq lr v0 v1 v2 v3 v4 v5 v6 v7) [.ref (a 0), .int p1, .int p2]) (wQi (dC, dI) (wA (wM a cI cJ xs ys pl lp lq lr v0 v1 v2 v3 v4 v5 v6 v7)) (wM a cI cJ xs ys pl lp lq lr ((f_X6_nearest xs ys pl v0 v1 v2 p1 p2).2) v1 v2 v3 v4 v5 v6 v7) (f_X6_nearest xs ys pl v0 v1 v2 p1 p2).1) 0 0 (wA (wM a cI cJ xs ys pl lp lq lr v0 v1 v2 v3 v4 v5 v6 v7)) := by
  refine wm_of (by decide) (Nat.le_of_ble_eq_true rfl) ?_
  intro p e s m args below meth c Q ls hQ hx hb hr hlk hml hown hts hP hK hD hS hl
  have hown : s.vm.findClass RX6 = some m.cls := hown
  have hl : lv_has ls 9 [(0, .ref (a 0)), (1, .int p1), (2, .int p2)] := hl
  generalize hAe : wA (wM a cI cJ xs ys pl lp lq lr v0 v1 v2 v3 v4 v5 v6 v7) = A at hQ hD hS
  obtain ⟨F, eF⟩ : ∃ F, F = (f_X6_nearest xs ys pl v0 v1 v2 p1 p2) := ⟨_, rfl⟩
  refine lv_aload_n hx hb dX6_nearest_0 rfl (lv_at hl 0 rfl) ?_
  refine lv_iconst (v := (0 : Int32)) hx hb dX6_nearest_1 (by decide) ?_
  refine va_put (D := (dC, dI)) (ci := 10) (v := .int (0 : Int32)) (ty := .int) (C := RX6) (T := TX6) (N := 14) hx hb hts (fun _ h => gI_wsX60 h) tyX6 tyX6_ok nmX6 hown hK.1 hP hD hS 0 rfl rfl 0 (by decide) (hts _ mG_5_12) (fun _ h9 => h9) rfl (by decide +kernel) rfl rfl (Nat.le_of_ble_eq_true rfl) dX6_nearest_2 (fun H locs hP hD hS => ?_)
  have hP : va_P (dC, dI) vwCl (wM a cI cJ xs ys pl lp lq lr (0 : Int32) v1 v2 v3 v4 v5 v6 v7) H := hP
  have hD : va_D A (wM a cI cJ xs ys pl lp lq lr (0 : Int32) v1 v2 v3 v4 v5 v6 v7) := hD
  refine lv_aload_n hx hb dX6_nearest_5 rfl (lv_at hl 0 rfl) ?_
  refine lv_iload_n hx hb dX6_nearest_6 rfl (lv_at hl 1 rfl) ?_
  refine cp_i (va_runV (As := [.int p1]) (rest := []) ⟨hx, hb, hml, hown, hts⟩ (c_X6_isPoint l dC dI a cI cJ xs ys pl lp lq lr (0 : Int32) v1 v2 v3 v4 v5 v6 v7 p1 ) (cwV 1 hts (gG_V mG_8_5 mG_8_6 mG_8_7 mG_1_5 (gG_c mG_8_8 gG_G)) rfl rfl rfl hd_X6_isPoint ⟨Nat.le_of_ble_eq_true rfl, Nat.le_of_ble_eq_true rfl⟩) (pPcV (ci := 10) (q0 := 0) hK hP rfl rfl) rfl rfl hl.1 rfl (lv_room (Nat.le_of_ble_eq_true rfl)) dX6_nearest_7 ⟨Nat.le_of_ble_eq_true rfl, Nat.le_of_ble_eq_true rfl⟩) hP hS (fun H hP hS => ?_)
  refine lv_if_eq (tgt := 22) hx hb dX6_nearest_10 (by decide) (fun c1 => ?_) (fun c1 => ?_)
  · skip
    refine lv_bipush (v := (-2 : Int32)) hx hb dX6_nearest_22 (by decide) ?_
    have hE : (f_X6_nearest xs ys pl v0 v1 v2 p1 p2) = ((-2 : Int32), (0 : Int32)) := (by simp only [f_X6_nearest, if_pos c1])
    exact rw_i hQ hx hb hr hlk (by rw [hE]; exact hP) hS (by rw [hE]) dX6_nearest_24
  · skip
    have hp : vp_in p1 60 := in_isPoint hv1 c1
    refine lv_aload_n hx hb dX6_nearest_13 rfl (lv_at hl 0 rfl) ?_
    refine lv_iload_n hx hb dX6_nearest_14 rfl (lv_at hl 2 rfl) ?_
    refine lv_iconst (v := (1 : Int32)) hx hb dX6_nearest_15 (by decide) ?_
    refine cp_i (va_runV (As := [.int p2, .int (1 : Int32)]) (rest := []) ⟨hx, hb, hml, hown, hts⟩ (c_X6_isMany l dC dI a cI cJ xs ys pl lp lq lr (0 : Int32) v1 v2 v3 v4 v5 v6 v7 p2 (1 : Int32) ) (cwV 2 hts (gG_V mG_21_0 mG_21_1 mG_21_2 mG_1_5 (gG_c mG_21_3 gG_G)) rfl rfl rfl hd_X6_isMany ⟨Nat.le_of_ble_eq_true rfl, Nat.le_of_ble_eq_true rfl⟩) (pPcV (ci := 10) (q0 := 0) hK hP rfl rfl) rfl rfl hl.1 rfl (lv_room (Nat.le_of_ble_eq_true rfl)) dX6_nearest_16 ⟨Nat.le_of_ble_eq_true rfl, Nat.le_of_ble_eq_true rfl⟩) hP hS (fun H hP hS => ?_)
    refine lv_if_ne (tgt := 25) hx hb dX6_nearest_19 (by decide) (fun c2 => ?_) (fun c2 => ?_)
    · skip
      obtain ⟨hm1, hm2⟩ := in_many c2
      have hn : p2 ≤ 24 := Int32.le_trans hm2 hh
      refine lv_aload_n hx hb dX6_nearest_25 rfl (lv_at hl 0 rfl) ?_
      refine lv_iload_n hx hb dX6_nearest_26 rfl (lv_at hl 2 rfl) ?_
      refine cp_i (va_runV (As := [.int p2]) (rest := []) ⟨hx, hb, hml, hown, hts⟩ (c_X6_isWhole l dC dI a cI cJ xs ys pl lp lq lr (0 : Int32) v1 v2 v3 v4 v5 v6 v7 p2 (by first | with_reducible assumption | exact in0_24 | exact in0_60 | decide)) (cwV 1 hts (gG_V mG_21_4 mG_21_5 mG_21_6 mG_1_5 (gG_c mG_21_7 gG_G)) rfl rfl rfl hd_X6_isWhole ⟨Nat.le_of_ble_eq_true rfl, Nat.le_of_ble_eq_true rfl⟩) (pPcV (ci := 10) (q0 := 0) hK hP rfl rfl) rfl rfl hl.1 rfl (lv_room (Nat.le_of_ble_eq_true rfl)) dX6_nearest_27 ⟨Nat.le_of_ble_eq_true rfl, Nat.le_of_ble_eq_true rfl⟩) hP hS (fun H hP hS => ?_)
      refine lv_if_ne (tgt := 36) hx hb dX6_nearest_30 (by decide) (fun c3 => ?_) (fun c3 => ?_)
      · skip
        have hv := mw_spec hn hpl c3
        have hv0 := hv_at hv (Int32.le_refl 0) (n1 hm1)
        refine lv_iconst (v := (0 : Int32)) hx hb dX6_nearest_36 (by decide) ?_
        refine lv_istore_n (lv' := [(3, .int (0 : Int32)), (0, .ref (a 0)), (1, .int p1), (2, .int p2)]) hx hb dX6_nearest_37 rfl hl (by decide) rfl (fun ls hl => ?_)
        refine lv_aload_n hx hb dX6_nearest_38 rfl (lv_at hl 1 rfl) ?_
        refine lv_iload_n hx hb dX6_nearest_39 rfl (lv_at hl 2 rfl) ?_
        refine lv_aload_n hx hb dX6_nearest_40 rfl (lv_at hl 1 rfl) ?_
        refine va_get (D := (dC, dI)) (ci := 10) (v := .ref (a 3)) (C := RX6) (T := TX6) (N := 14) hx hb hts (fun _ h => gI_wsX60 h) hown hK.1 hP 0 rfl rfl 5 (by decide) (hts _ mG_4_10) (fun _ h9 => h9) rfl dX6_nearest_41 ?_
        refine lv_iconst (v := (0 : Int32)) hx hb dX6_nearest_44 (by decide) ?_
        refine va_iald hx hb hK.1 hP 3 0 rfl rfl (by first | with_reducible assumption | exact in0_24 | exact in0_60 | decide) dX6_nearest_45 ?_
        refine cp_l (va_runV (As := [.int p1, .int (pl (Int32.toNatClampNeg (0 : Int32)))]) (rest := []) ⟨hx, hb, hml, hown, hts⟩ (c_X6_far l dC dI a cI cJ xs ys pl lp lq lr (0 : Int32) v1 v2 v3 v4 v5 v6 v7 p1 (pl (Int32.toNatClampNeg (0 : Int32))) (by first | with_reducible assumption | exact in0_24 | exact in0_60 | decide) (by first | with_reducible assumption | exact in0_24 | exact in0_60 | decide)) (cwV 2 hts (gG_V mG_23_22 mG_23_23 mG_24_0 mG_1_5 (gG_c mG_24_1 gG_G)) rfl rfl rfl hd_X6_far ⟨Nat.le_of_ble_eq_true rfl, Nat.le_of_ble_eq_true rfl⟩) (pPcV (ci := 10) (q0 := 0) hK hP rfl rfl) rfl rfl hl.1 rfl (lv_room (Nat.le_of_ble_eq_true rfl)) dX6_nearest_46 ⟨Nat.le_of_ble_eq_true rfl, Nat.le_of_ble_eq_true rfl⟩) hP hS (fun H hP hS => ?_)
        refine lv_topl (fun y4 ey4 => ?_)
        refine lv_lstore (lv' := [(4, .long y4), (3, .int (0 : Int32)), (0, .ref (a 0)), (1, .int p1), (2, .int p2)]) hx hb dX6_nearest_49 hl (by decide) rfl (fun ls hl => ?_)
        refine lv_iconst (v := (0 : Int32)) hx hb dX6_nearest_51 (by decide) ?_
        refine lv_istore (lv' := [(6, .int (0 : Int32)), (4, .long y4), (3, .int (0 : Int32)), (0, .ref (a 0)), (1, .int p1), (2, .int p2)]) hx hb dX6_nearest_52 hl (by decide) rfl (fun ls hl => ?_)
        have K54 : ∀ (n54 : Nat) (x3_54 : Int32) (x4_54 : Int64) (x6_54 : Int32), 0 ≤ x6_54 → ((p2).toInt - x6_54.toInt).toNat < n54 → F = f_X6_nearest_L54 xs ys pl v0 v1 v2 p1 p2  n54 x3_54 x4_54 x6_54 → ∀ (H : Heap) (locs : List Loc), va_P (dC, dI) vwCl (wM a cI cJ xs ys pl lp lq lr (0 : Int32) v1 v2 v3 v4 v5 v6 v7) H → va_D A (wM a cI cJ xs ys pl lp lq lr (0 : Int32) v1 v2 v3 v4 v5 v6 v7) → va_S A s.heap H locs → ∀ (ls : Array Slot), lv_has ls 9 [(0, .ref (a 0)), (1, .int p1), (2, .int p2), (3, .int x3_54), (4, .long x4_54), (6, .int x6_54)] → W p l e rm_X6_nearest s m args below meth c H locs 0 0 Q (F0 m 54 ls []) := by
          intro n54
          induction n54 with
          | zero => intro x3_54 x4_54 x6_54 h0_54 hf_54 hF H locs hP hD hS ls hl; exact absurd hf_54 (Nat.not_lt_zero _)
          | succ n54 ih54 =>
            intro x3_54 x4_54 x6_54 h0_54 hf_54 hF H locs hP hD hS ls hl
            refine lv_iload hx hb dX6_nearest_54 (lv_at hl 5 rfl) ?_
            refine lv_iload_n hx hb dX6_nearest_56 rfl (lv_at hl 2 rfl) ?_
            refine lv_icmp_ge (tgt := 131) hx hb dX6_nearest_57 (by decide) (fun c5 => ?_) (fun c5 => ?_)
            · skip
              refine lv_iload_n hx hb dX6_nearest_131 rfl (lv_at hl 3 rfl) ?_
              have hE : F = (x3_54, (0 : Int32)) := (by rw [hF]; simp only [f_X6_nearest_L54, if_pos c5])
              rw [eF] at hE
              exact rw_i hQ hx hb hr hlk (by rw [hE]; exact hP) hS (by rw [hE]) dX6_nearest_132
            · skip
              have hI : vp_in x6_54 24 := ix_lt h0_54 c5 hn
              have hr1 := hv_at hv h0_54 c5
              refine lv_aload_n hx hb dX6_nearest_60 rfl (lv_at hl 0 rfl) ?_
              refine lv_iload_n hx hb dX6_nearest_61 rfl (lv_at hl 1 rfl) ?_
              refine lv_aload_n hx hb dX6_nearest_62 rfl (lv_at hl 0 rfl) ?_
              refine va_get (D := (dC, dI)) (ci := 10) (v := .ref (a 3)) (C := RX6) (T := TX6) (N := 14) hx hb hts (fun _ h => gI_wsX60 h) hown hK.1 hP 0 rfl rfl 5 (by decide) (hts _ mG_4_10) (fun _ h9 => h9) rfl dX6_nearest_63 ?_
              refine lv_iload hx hb dX6_nearest_66 (lv_at hl 5 rfl) ?_
              refine va_iald hx hb hK.1 hP 3 0 rfl rfl (by first | with_reducible assumption | exact in0_24 | exact in0_60 | decide) dX6_nearest_68 ?_
              refine cp_l (va_runV (As := [.int p1, .int (pl (Int32.toNatClampNeg x6_54))]) (rest := []) ⟨hx, hb, hml, hown, hts⟩ (c_X6_far l dC dI a cI cJ xs ys pl lp lq lr (0 : Int32) v1 v2 v3 v4 v5 v6 v7 p1 (pl (Int32.toNatClampNeg x6_54)) (by first | with_reducible assumption | exact in0_24 | exact in0_60 | decide) (by first | with_reducible assumption | exact in0_24 | exact in0_60 | decide)) (cwV 2 hts (gG_V mG_23_22 mG_23_23 mG_24_0 mG_1_5 (gG_c mG_24_1 gG_G)) rfl rfl rfl hd_X6_far ⟨Nat.le_of_ble_eq_true rfl, Nat.le_of_ble_eq_true rfl⟩) (pPcV (ci := 10) (q0 := 0) hK hP rfl rfl) rfl rfl hl.1 rfl (lv_room (Nat.le_of_ble_eq_true rfl)) dX6_nearest_69 ⟨Nat.le_of_ble_eq_true rfl, Nat.le_of_ble_eq_true rfl⟩) hP hS (fun H hP hS => ?_)
              refine lv_topl (fun y6 ey6 => ?_)
              refine lv_lstore (lv' := [(7, .long y6), (0, .ref (a 0)), (1, .int p1), (2, .int p2), (3, .int x3_54), (4, .long x4_54), (6, .int x6_54)]) hx hb dX6_nearest_72 hl (by decide) rfl (fun ls hl => ?_)
              refine lv_lload hx hb dX6_nearest_74 (lv_at hl 0 rfl) ?_
              refine lv_lload hx hb dX6_nearest_76 (lv_at hl 5 rfl) ?_
              refine W.lcmp hx hb dX6_nearest_78 ?_
              refine lv_if_ge (tgt := 89) hx hb dX6_nearest_79 (by decide) (fun c7 => ?_) (fun c7 => ?_)
              · skip
                refine lv_lload hx hb dX6_nearest_89 (lv_at hl 0 rfl) ?_
                refine lv_lload hx hb dX6_nearest_91 (lv_at hl 5 rfl) ?_
                refine W.lcmp hx hb dX6_nearest_93 ?_
                refine lv_if_ne (tgt := 106) hx hb dX6_nearest_94 (by decide) (fun c8 => ?_) (fun c8 => ?_)
                · skip
                  refine lv_iload_n hx hb dX6_nearest_106 rfl (lv_at hl 4 rfl) ?_
                  refine lv_istore_n (lv' := [(3, .int x3_54), (7, .long y6), (0, .ref (a 0)), (1, .int p1), (2, .int p2), (4, .long x4_54), (6, .int x6_54)]) hx hb dX6_nearest_107 rfl hl (by decide) rfl (fun ls hl => ?_)
                  refine lv_lload hx hb dX6_nearest_108 (lv_at hl 1 rfl) ?_
                  refine lv_lload hx hb dX6_nearest_110 (lv_at hl 5 rfl) ?_
                  refine W.lcmp hx hb dX6_nearest_112 ?_
                  refine lv_if_ge (tgt := 121) hx hb dX6_nearest_113 (by decide) (fun _ => ?_) (fun c9 => by subst ey6; exact absurd c7 c9)
                  refine lv_lload hx hb dX6_nearest_121 (lv_at hl 5 rfl) ?_
                  refine lv_lstore (lv' := [(4, .long x4_54), (3, .int x3_54), (7, .long y6), (0, .ref (a 0)), (1, .int p1), (2, .int p2), (6, .int x6_54)]) hx hb dX6_nearest_123 hl (by decide) rfl (fun ls hl => ?_)
                  refine lv_iinc (v := (x6_54 + 1)) (lv' := [(6, .int (x6_54 + 1)), (4, .long x4_54), (3, .int x3_54), (7, .long y6), (0, .ref (a 0)), (1, .int p1), (2, .int p2)]) hx hb dX6_nearest_125 hl (k := 6) rfl rfl (by decide) rfl (fun ls hl => ?_)
                  refine lv_goto (tgt := 54) hx hb dX6_nearest_128 (by decide) ?_
                  exact ih54 x3_54 x4_54 (x6_54 + 1) (lp_pos h0_54 c5) (lp_dec c5 hf_54) (by subst ey6; rw [hF]; simp only [f_X6_nearest_L54, if_neg c5, if_pos c7, if_neg c8]) _ _ hP hD hS ls (lv_sub hl [4, 5, 6, 2, 1, 0] rfl)
                · skip
                  refine lv_iload_n hx hb dX6_nearest_97 rfl (lv_at hl 4 rfl) ?_
                  refine lv_iconst (v := (1 : Int32)) hx hb dX6_nearest_98 (by decide) ?_
                  refine lv_iload hx hb dX6_nearest_99 (lv_at hl 6 rfl) ?_
                  refine lv_ishl hx hb dX6_nearest_101 ?_
                  refine lv_ior hx hb dX6_nearest_102 ?_
                  refine lv_goto (tgt := 107) hx hb dX6_nearest_103 (by decide) ?_
                  refine lv_topi (fun y10 ey10 => ?_)
                  refine lv_istore_n (lv' := [(3, .int y10), (7, .long y6), (0, .ref (a 0)), (1, .int p1), (2, .int p2), (4, .long x4_54), (6, .int x6_54)]) hx hb dX6_nearest_107 rfl hl (by decide) rfl (fun ls hl => ?_)
                  refine lv_lload hx hb dX6_nearest_108 (lv_at hl 1 rfl) ?_
                  refine lv_lload hx hb dX6_nearest_110 (lv_at hl 5 rfl) ?_
                  refine W.lcmp hx hb dX6_nearest_112 ?_
                  refine lv_if_ge (tgt := 121) hx hb dX6_nearest_113 (by decide) (fun _ => ?_) (fun c11 => by subst ey6; subst ey10; exact absurd c7 c11)
                  refine lv_lload hx hb dX6_nearest_121 (lv_at hl 5 rfl) ?_
                  refine lv_lstore (lv' := [(4, .long x4_54), (3, .int y10), (7, .long y6), (0, .ref (a 0)), (1, .int p1), (2, .int p2), (6, .int x6_54)]) hx hb dX6_nearest_123 hl (by decide) rfl (fun ls hl => ?_)
                  refine lv_iinc (v := (x6_54 + 1)) (lv' := [(6, .int (x6_54 + 1)), (4, .long x4_54), (3, .int y10), (7, .long y6), (0, .ref (a 0)), (1, .int p1), (2, .int p2)]) hx hb dX6_nearest_125 hl (k := 6) rfl rfl (by decide) rfl (fun ls hl => ?_)
                  refine lv_goto (tgt := 54) hx hb dX6_nearest_128 (by decide) ?_
                  exact ih54 y10 x4_54 (x6_54 + 1) (lp_pos h0_54 c5) (lp_dec c5 hf_54) (by subst ey6; subst ey10; rw [hF]; simp only [f_X6_nearest_L54, if_neg c5, if_pos c7, if_pos c8]) _ _ hP hD hS ls (lv_sub hl [4, 5, 6, 2, 1, 0] rfl)
              · skip
                refine lv_iconst (v := (1 : Int32)) hx hb dX6_nearest_82 (by decide) ?_
                refine lv_iload hx hb dX6_nearest_83 (lv_at hl 6 rfl) ?_
                refine lv_ishl hx hb dX6_nearest_85 ?_
                refine lv_goto (tgt := 107) hx hb dX6_nearest_86 (by decide) ?_
                refine lv_topi (fun y12 ey12 => ?_)
                refine lv_istore_n (lv' := [(3, .int y12), (7, .long y6), (0, .ref (a 0)), (1, .int p1), (2, .int p2), (4, .long x4_54), (6, .int x6_54)]) hx hb dX6_nearest_107 rfl hl (by decide) rfl (fun ls hl => ?_)
                refine lv_lload hx hb dX6_nearest_108 (lv_at hl 1 rfl) ?_
                refine lv_lload hx hb dX6_nearest_110 (lv_at hl 5 rfl) ?_
                refine W.lcmp hx hb dX6_nearest_112 ?_
                refine lv_if_ge (tgt := 121) hx hb dX6_nearest_113 (by decide) (fun c13 => by subst ey6; subst ey12; exact absurd c13 c7) (fun _ => ?_)
                refine lv_lload hx hb dX6_nearest_116 (lv_at hl 1 rfl) ?_
                refine lv_goto (tgt := 123) hx hb dX6_nearest_118 (by decide) ?_
                refine lv_lstore (lv' := [(4, .long y6), (3, .int y12), (7, .long y6), (0, .ref (a 0)), (1, .int p1), (2, .int p2), (6, .int x6_54)]) hx hb dX6_nearest_123 hl (by decide) rfl (fun ls hl => ?_)
                refine lv_iinc (v := (x6_54 + 1)) (lv' := [(6, .int (x6_54 + 1)), (4, .long y6), (3, .int y12), (7, .long y6), (0, .ref (a 0)), (1, .int p1), (2, .int p2)]) hx hb dX6_nearest_125 hl (k := 6) rfl rfl (by decide) rfl (fun ls hl => ?_)
                refine lv_goto (tgt := 54) hx hb dX6_nearest_128 (by decide) ?_
                exact ih54 y12 y6 (x6_54 + 1) (lp_pos h0_54 c5) (lp_dec c5 hf_54) (by subst ey6; subst ey12; rw [hF]; simp only [f_X6_nearest_L54, if_neg c5, if_neg c7]) _ _ hP hD hS ls (lv_sub hl [4, 5, 6, 2, 1, 0] rfl)
        exact K54 25 (0 : Int32) y4 (0 : Int32) (by decide) (lp_fuel (by decide) hn) (by subst ey4; rw [eF]; simp only [f_X6_nearest, if_neg c1, if_neg c2, if_neg c3]) _ _ hP hD hS ls (lv_sub hl [3, 4, 5, 2, 1, 0] rfl)
      · skip
        refine lv_bipush (v := (-4 : Int32)) hx hb dX6_nearest_33 (by decide) ?_
        have hE : (f_X6_nearest xs ys pl v0 v1 v2 p1 p2) = ((-4 : Int32), (0 : Int32)) := (by simp only [f_X6_nearest, if_neg c1, if_neg c2, if_pos c3])
        exact rw_i hQ hx hb hr hlk (by rw [hE]; exact hP) hS (by rw [hE]) dX6_nearest_35
    · skip
      refine lv_bipush (v := (-2 : Int32)) hx hb dX6_nearest_22 (by decide) ?_
      have hE : (f_X6_nearest xs ys pl v0 v1 v2 p1 p2) = ((-2 : Int32), (0 : Int32)) := (by simp only [f_X6_nearest, if_neg c1, if_pos c2])
      exact rw_i hQ hx hb hr hlk (by rw [hE]; exact hP) hS (by rw [hE]) dX6_nearest_24
/-! X6_around -/
theorem hs_X6_around : yX6_around.cls ≠ "java/lang/invoke/MethodHandle" ∧ yX6_around.cls ≠ "java/lang/invoke/VarHandle" ∧ (parseMethodDescriptor yX6_around.desc).map (fun d => d.parameters.length) = some 3 := by decide +kernel
theorem hd_X6_around : yX6_around.cls = RX6 ∧ yX6_around.cls ≠ "java/lang/invoke/MethodHandle" ∧ yX6_around.cls ≠ "java/lang/invoke/VarHandle" ∧ (parseMethodDescriptor yX6_around.desc).map (fun d => d.parameters.length) = some 3 := ⟨rfl, hs_X6_around⟩
def f_X6_around_L63 (xs : Nat → Int32) (ys : Nat → Int32) (pl : Nat → Int32) (v0 : Int32) (v1 : Int32) (v2 : Int32) (p1 : Int32) (p2 : Int32) (p3 : Int32) (k : Int32 → Int32 → (Int32 × Int32)) (x4_51 : Int32) (x5_51 : Int32) : Nat → Int32 → Int32 → (Int32 × Int32)
  | 0, _, _ => (0, 0)
  | n + 1, x6_63, x7_63 => (if p2 ≤ x7_63 then (if x6_63 = p3 then (k x5_51 (x5_51 + 1)) else (k x4_51 (x5_51 + 1))) else (if x7_63 = x5_51 then (f_X6_around_L63 xs ys pl v0 v1 v2 p1 p2 p3 k x4_51 x5_51 n (x6_63 + (0 : Int32)) (x7_63 + 1)) else (if (f_X6_isAhead xs ys pl p1 x7_63 x5_51) = 0 then (f_X6_around_L63 xs ys pl v0 v1 v2 p1 p2 p3 k x4_51 x5_51 n (x6_63 + (0 : Int32)) (x7_63 + 1)) else (f_X6_around_L63 xs ys pl v0 v1 v2 p1 p2 p3 k x4_51 x5_51 n (x6_63 + (1 : Int32)) (x7_63 + 1)))))
def f_X6_around_L51 (xs : Nat → Int32) (ys : Nat → Int32) (pl : Nat → Int32) (v0 : Int32) (v1 : Int32) (v2 : Int32) (p1 : Int32) (p2 : Int32) (p3 : Int32)  : Nat → Int32 → Int32 → (Int32 × Int32)
  | 0, _, _ => (0, 0)
  | n + 1, x4_51, x5_51 => (if p2 ≤ x5_51 then (x4_51, (0 : Int32)) else (f_X6_around_L63 xs ys pl v0 v1 v2 p1 p2 p3 (fun x4_51 x5_51 => f_X6_around_L51 xs ys pl v0 v1 v2 p1 p2 p3  n x4_51 x5_51) x4_51 x5_51 25 (0 : Int32) (0 : Int32)))
def f_X6_around (xs : Nat → Int32) (ys : Nat → Int32) (pl : Nat → Int32) (v0 : Int32) (v1 : Int32) (v2 : Int32) (p1 : Int32) (p2 : Int32) (p3 : Int32) : Int32 × Int32 := (if (f_X6_isPoint v1 p1) = 0 then ((-2 : Int32), (0 : Int32)) else (if (f_X6_isMany v2 p2 (1 : Int32)) = 0 then ((-2 : Int32), (0 : Int32)) else (if p3 < 0 then ((-2 : Int32), (0 : Int32)) else (if p3 < p2 then (if (f_X6_isWhole pl p2) = 0 then ((-4 : Int32), (0 : Int32)) else (f_X6_around_L51 xs ys pl v0 v1 v2 p1 p2 p3  25 (-1 : Int32) (0 : Int32))) else ((-2 : Int32), (0 : Int32))))))
abbrev rm_X6_around : Room := { frames := 3, cells := 0, slots := 0, locals := 73 }
set_option maxHeartbeats 8000000 in
set_option maxRecDepth 100000 in
theorem c_X6_around (l : Launch) (dC : Nat → ClassId) (dI : Nat → Nat → Nat) (a : Nat → Nat) (cI cJ : ClassId) (xs : Nat → Int32) (ys : Nat → Int32) (pl : Nat → Int32) (lp : Nat → Int64) (lq : Nat → Int64) (lr : Nat → Int64) (v0 : Int32) (v1 : Int32) (v2 : Int32) (v3 : Int32) (v4 : Int32) (v5 : Int32) (v6 : Int32) (v7 : Int32) (p1 : Int32) (p2 : Int32) (p3 : Int32) (hv1 : v1 ≤ 60) (hh : v2 ≤ 24) (hpl : ∀ j : Nat, pl j = -1 ∨ vp_in (pl j) 60) : Met l yX6_around (Cond.code yX6_around cX6_around 8 (some .int) :: lw_G) rm_X6_around (wPc (dC, dI) (tIJ cI cJ) (wM a cI cJ xs ys pl lp lq lr v0 v1 v2 v3 v4 v5 v6 v7) [.ref (a 0), .int p1, .int p2, .int p3]) (wQi (dC, dI) (wA (wM a cI cJ xs ys pl lp lq lr v0 v1 v2 v3 v4 v5 v6 v7)) (wM a cI cJ xs ys pl lp lq lr ((f_X6_around xs ys pl v0 v1 v2 p1 p2 p3).2) v1 v2 v3 v4 v5 v6 v7) (f_X6_around xs ys pl v0 v1 v2 p1 p2 p3).1) 0 0 (wA (wM a cI cJ xs ys pl lp lq lr v0 v1 v2 v3 v4 v5 v6 v7)) := by
  refine wm_of (by decide) (Nat.le_of_ble_eq_true rfl) ?_
  intro p e s m args below meth c Q ls hQ hx hb hr hlk hml hown hts hP hK hD hS hl
  have hown : s.vm.findClass RX6 = some m.cls := hown
  have hl : lv_has ls 8 [(0, .ref (a 0)), (1, .int p1), (2, .int p2), (3, .int p3)] := hl
  generalize hAe : wA (wM a cI cJ xs ys pl lp lq lr v0 v1 v2 v3 v4 v5 v6 v7) = A at hQ hD hS
  obtain ⟨F, eF⟩ : ∃ F, F = (f_X6_around xs ys pl v0 v1 v2 p1 p2 p3) := ⟨_, rfl⟩
  refine lv_aload_n hx hb dX6_around_0 rfl (lv_at hl 0 rfl) ?_
  refine lv_iconst (v := (0 : Int32)) hx hb dX6_around_1 (by decide) ?_
  refine va_put (D := (dC, dI)) (ci := 10) (v := .int (0 : Int32)) (ty := .int) (C := RX6) (T := TX6) (N := 14) hx hb hts (fun _ h => gI_wsX60 h) tyX6 tyX6_ok nmX6 hown hK.1 hP hD hS 0 rfl rfl 0 (by decide) (hts _ mG_5_12) (fun _ h9 => h9) rfl (by decide +kernel) rfl rfl (Nat.le_of_ble_eq_true rfl) dX6_around_2 (fun H locs hP hD hS => ?_)
  have hP : va_P (dC, dI) vwCl (wM a cI cJ xs ys pl lp lq lr (0 : Int32) v1 v2 v3 v4 v5 v6 v7) H := hP
  have hD : va_D A (wM a cI cJ xs ys pl lp lq lr (0 : Int32) v1 v2 v3 v4 v5 v6 v7) := hD
  refine lv_aload_n hx hb dX6_around_5 rfl (lv_at hl 0 rfl) ?_
  refine lv_iload_n hx hb dX6_around_6 rfl (lv_at hl 1 rfl) ?_
  refine cp_i (va_runV (As := [.int p1]) (rest := []) ⟨hx, hb, hml, hown, hts⟩ (c_X6_isPoint l dC dI a cI cJ xs ys pl lp lq lr (0 : Int32) v1 v2 v3 v4 v5 v6 v7 p1 ) (cwV 1 hts (gG_V mG_8_5 mG_8_6 mG_8_7 mG_1_5 (gG_c mG_8_8 gG_G)) rfl rfl rfl hd_X6_isPoint ⟨Nat.le_of_ble_eq_true rfl, Nat.le_of_ble_eq_true rfl⟩) (pPcV (ci := 10) (q0 := 0) hK hP rfl rfl) rfl rfl hl.1 rfl (lv_room (Nat.le_of_ble_eq_true rfl)) dX6_around_7 ⟨Nat.le_of_ble_eq_true rfl, Nat.le_of_ble_eq_true rfl⟩) hP hS (fun H hP hS => ?_)
  refine lv_if_eq (tgt := 31) hx hb dX6_around_10 (by decide) (fun c1 => ?_) (fun c1 => ?_)
  · skip
    refine lv_bipush (v := (-2 : Int32)) hx hb dX6_around_31 (by decide) ?_
    have hE : (f_X6_around xs ys pl v0 v1 v2 p1 p2 p3) = ((-2 : Int32), (0 : Int32)) := (by simp only [f_X6_around, if_pos c1])
    exact rw_i hQ hx hb hr hlk (by rw [hE]; exact hP) hS (by rw [hE]) dX6_around_33
  · skip
    have hc : vp_in p1 60 := in_isPoint hv1 c1
    refine lv_aload_n hx hb dX6_around_13 rfl (lv_at hl 0 rfl) ?_
    refine lv_iload_n hx hb dX6_around_14 rfl (lv_at hl 2 rfl) ?_
    refine lv_iconst (v := (1 : Int32)) hx hb dX6_around_15 (by decide) ?_
    refine cp_i (va_runV (As := [.int p2, .int (1 : Int32)]) (rest := []) ⟨hx, hb, hml, hown, hts⟩ (c_X6_isMany l dC dI a cI cJ xs ys pl lp lq lr (0 : Int32) v1 v2 v3 v4 v5 v6 v7 p2 (1 : Int32) ) (cwV 2 hts (gG_V mG_21_0 mG_21_1 mG_21_2 mG_1_5 (gG_c mG_21_3 gG_G)) rfl rfl rfl hd_X6_isMany ⟨Nat.le_of_ble_eq_true rfl, Nat.le_of_ble_eq_true rfl⟩) (pPcV (ci := 10) (q0 := 0) hK hP rfl rfl) rfl rfl hl.1 rfl (lv_room (Nat.le_of_ble_eq_true rfl)) dX6_around_16 ⟨Nat.le_of_ble_eq_true rfl, Nat.le_of_ble_eq_true rfl⟩) hP hS (fun H hP hS => ?_)
    refine lv_if_eq (tgt := 31) hx hb dX6_around_19 (by decide) (fun c2 => ?_) (fun c2 => ?_)
    · skip
      refine lv_bipush (v := (-2 : Int32)) hx hb dX6_around_31 (by decide) ?_
      have hE : (f_X6_around xs ys pl v0 v1 v2 p1 p2 p3) = ((-2 : Int32), (0 : Int32)) := (by simp only [f_X6_around, if_neg c1, if_pos c2])
      exact rw_i hQ hx hb hr hlk (by rw [hE]; exact hP) hS (by rw [hE]) dX6_around_33
    · skip
      obtain ⟨hm1, hm2⟩ := in_many c2
      have hn : p2 ≤ 24 := Int32.le_trans hm2 hh
      refine lv_iload_n hx hb dX6_around_22 rfl (lv_at hl 3 rfl) ?_
      refine lv_if_lt (tgt := 31) hx hb dX6_around_23 (by decide) (fun c3 => ?_) (fun c3 => ?_)
      · skip
        refine lv_bipush (v := (-2 : Int32)) hx hb dX6_around_31 (by decide) ?_
        have hE : (f_X6_around xs ys pl v0 v1 v2 p1 p2 p3) = ((-2 : Int32), (0 : Int32)) := (by simp only [f_X6_around, if_neg c1, if_neg c2, if_pos c3])
        exact rw_i hQ hx hb hr hlk (by rw [hE]; exact hP) hS (by rw [hE]) dX6_around_33
      · skip
        refine lv_iload_n hx hb dX6_around_26 rfl (lv_at hl 3 rfl) ?_
        refine lv_iload_n hx hb dX6_around_27 rfl (lv_at hl 2 rfl) ?_
        refine lv_icmp_lt (tgt := 34) hx hb dX6_around_28 (by decide) (fun c4 => ?_) (fun c4 => ?_)
        · skip
          refine lv_aload_n hx hb dX6_around_34 rfl (lv_at hl 0 rfl) ?_
          refine lv_iload_n hx hb dX6_around_35 rfl (lv_at hl 2 rfl) ?_
          refine cp_i (va_runV (As := [.int p2]) (rest := []) ⟨hx, hb, hml, hown, hts⟩ (c_X6_isWhole l dC dI a cI cJ xs ys pl lp lq lr (0 : Int32) v1 v2 v3 v4 v5 v6 v7 p2 (by first | with_reducible assumption | exact in0_24 | exact in0_60 | decide)) (cwV 1 hts (gG_V mG_21_4 mG_21_5 mG_21_6 mG_1_5 (gG_c mG_21_7 gG_G)) rfl rfl rfl hd_X6_isWhole ⟨Nat.le_of_ble_eq_true rfl, Nat.le_of_ble_eq_true rfl⟩) (pPcV (ci := 10) (q0 := 0) hK hP rfl rfl) rfl rfl hl.1 rfl (lv_room (Nat.le_of_ble_eq_true rfl)) dX6_around_36 ⟨Nat.le_of_ble_eq_true rfl, Nat.le_of_ble_eq_true rfl⟩) hP hS (fun H hP hS => ?_)
          refine lv_if_ne (tgt := 45) hx hb dX6_around_39 (by decide) (fun c5 => ?_) (fun c5 => ?_)
          · skip
            have hv := mw_spec hn hpl c5
            refine lv_iconst (v := (-1 : Int32)) hx hb dX6_around_45 (by decide) ?_
            refine lv_istore (lv' := [(4, .int (-1 : Int32)), (0, .ref (a 0)), (1, .int p1), (2, .int p2), (3, .int p3)]) hx hb dX6_around_46 hl (by decide) rfl (fun ls hl => ?_)
            refine lv_iconst (v := (0 : Int32)) hx hb dX6_around_48 (by decide) ?_
            refine lv_istore (lv' := [(5, .int (0 : Int32)), (4, .int (-1 : Int32)), (0, .ref (a 0)), (1, .int p1), (2, .int p2), (3, .int p3)]) hx hb dX6_around_49 hl (by decide) rfl (fun ls hl => ?_)
            have K51 : ∀ (n51 : Nat) (x4_51 : Int32) (x5_51 : Int32), 0 ≤ x5_51 → ((p2).toInt - x5_51.toInt).toNat < n51 → F = f_X6_around_L51 xs ys pl v0 v1 v2 p1 p2 p3  n51 x4_51 x5_51 → ∀ (H : Heap) (locs : List Loc), va_P (dC, dI) vwCl (wM a cI cJ xs ys pl lp lq lr (0 : Int32) v1 v2 v3 v4 v5 v6 v7) H → va_D A (wM a cI cJ xs ys pl lp lq lr (0 : Int32) v1 v2 v3 v4 v5 v6 v7) → va_S A s.heap H locs → ∀ (ls : Array Slot), lv_has ls 8 [(0, .ref (a 0)), (1, .int p1), (2, .int p2), (3, .int p3), (4, .int x4_51), (5, .int x5_51)] → W p l e rm_X6_around s m args below meth c H locs 0 0 Q (F0 m 51 ls []) := by
              intro n51
              induction n51 with
              | zero => intro x4_51 x5_51 h0_51 hf_51 hF H locs hP hD hS ls hl; exact absurd hf_51 (Nat.not_lt_zero _)
              | succ n51 ih51 =>
                intro x4_51 x5_51 h0_51 hf_51 hF H locs hP hD hS ls hl
                refine lv_iload hx hb dX6_around_51 (lv_at hl 5 rfl) ?_
                refine lv_iload_n hx hb dX6_around_53 rfl (lv_at hl 2 rfl) ?_
                refine lv_icmp_ge (tgt := 125) hx hb dX6_around_54 (by decide) (fun c6 => ?_) (fun c6 => ?_)
                · skip
                  refine lv_iload hx hb dX6_around_125 (lv_at hl 4 rfl) ?_
                  have hE : F = (x4_51, (0 : Int32)) := (by rw [hF]; simp only [f_X6_around_L51, if_pos c6])
                  rw [eF] at hE
                  exact rw_i hQ hx hb hr hlk (by rw [hE]; exact hP) hS (by rw [hE]) dX6_around_127
                · skip
                  have hI : vp_in x5_51 24 := ix_lt h0_51 c6 hn
                  have hr1 := hv_at hv h0_51 c6
                  refine lv_iconst (v := (0 : Int32)) hx hb dX6_around_57 (by decide) ?_
                  refine lv_istore (lv' := [(6, .int (0 : Int32)), (0, .ref (a 0)), (1, .int p1), (2, .int p2), (3, .int p3), (4, .int x4_51), (5, .int x5_51)]) hx hb dX6_around_58 hl (by decide) rfl (fun ls hl => ?_)
                  refine lv_iconst (v := (0 : Int32)) hx hb dX6_around_60 (by decide) ?_
                  refine lv_istore (lv' := [(7, .int (0 : Int32)), (6, .int (0 : Int32)), (0, .ref (a 0)), (1, .int p1), (2, .int p2), (3, .int p3), (4, .int x4_51), (5, .int x5_51)]) hx hb dX6_around_61 hl (by decide) rfl (fun ls hl => ?_)
                  have K63 : ∀ (n63 : Nat) (x6_63 : Int32) (x7_63 : Int32), 0 ≤ x7_63 → ((p2).toInt - x7_63.toInt).toNat < n63 → F = f_X6_around_L63 xs ys pl v0 v1 v2 p1 p2 p3 (fun x4_51 x5_51 => f_X6_around_L51 xs ys pl v0 v1 v2 p1 p2 p3  n51 x4_51 x5_51) x4_51 x5_51 n63 x6_63 x7_63 → ∀ (H : Heap) (locs : List Loc), va_P (dC, dI) vwCl (wM a cI cJ xs ys pl lp lq lr (0 : Int32) v1 v2 v3 v4 v5 v6 v7) H → va_D A (wM a cI cJ xs ys pl lp lq lr (0 : Int32) v1 v2 v3 v4 v5 v6 v7) → va_S A s.heap H locs → ∀ (ls : Array Slot), lv_has ls 8 [(0, .ref (a 0)), (1, .int p1), (2, .int p2), (3, .int p3), (4, .int x4_51), (5, .int x5_51), (6, .int x6_63), (7, .int x7_63)] → W p l e rm_X6_around s m args below meth c H locs 0 0 Q (F0 m 63 ls []) := by
                    intro n63
                    induction n63 with
                    | zero => intro x6_63 x7_63 h0_63 hf_63 hF H locs hP hD hS ls hl; exact absurd hf_63 (Nat.not_lt_zero _)
                    | succ n63 ih63 =>
                      intro x6_63 x7_63 h0_63 hf_63 hF H locs hP hD hS ls hl
                      refine lv_iload hx hb dX6_around_63 (lv_at hl 7 rfl) ?_
                      refine lv_iload_n hx hb dX6_around_65 rfl (lv_at hl 2 rfl) ?_
                      refine lv_icmp_ge (tgt := 104) hx hb dX6_around_66 (by decide) (fun c7 => ?_) (fun c7 => ?_)
                      · skip
                        refine lv_iload hx hb dX6_around_104 (lv_at hl 6 rfl) ?_
                        refine lv_iload_n hx hb dX6_around_106 rfl (lv_at hl 3 rfl) ?_
                        refine lv_icmp_ne (tgt := 115) hx hb dX6_around_107 (by decide) (fun c8 => ?_) (fun c8 => ?_)
                        · skip
                          refine lv_iload hx hb dX6_around_115 (lv_at hl 4 rfl) ?_
                          refine lv_istore (lv' := [(4, .int x4_51), (0, .ref (a 0)), (1, .int p1), (2, .int p2), (3, .int p3), (5, .int x5_51), (6, .int x6_63), (7, .int x7_63)]) hx hb dX6_around_117 hl (by decide) rfl (fun ls hl => ?_)
                          refine lv_iinc (v := (x5_51 + 1)) (lv' := [(5, .int (x5_51 + 1)), (4, .int x4_51), (0, .ref (a 0)), (1, .int p1), (2, .int p2), (3, .int p3), (6, .int x6_63), (7, .int x7_63)]) hx hb dX6_around_119 hl (k := 5) rfl rfl (by decide) rfl (fun ls hl => ?_)
                          refine lv_goto (tgt := 51) hx hb dX6_around_122 (by decide) ?_
                          exact ih51 x4_51 (x5_51 + 1) (lp_pos h0_51 c6) (lp_dec c6 hf_51) (by rw [hF]; simp only [f_X6_around_L63, if_pos c7, if_neg c8]) _ _ hP hD hS ls (lv_sub hl [2, 3, 4, 5, 1, 0] rfl)
                        · skip
                          refine lv_iload hx hb dX6_around_110 (lv_at hl 5 rfl) ?_
                          refine lv_goto (tgt := 117) hx hb dX6_around_112 (by decide) ?_
                          refine lv_istore (lv' := [(4, .int x5_51), (0, .ref (a 0)), (1, .int p1), (2, .int p2), (3, .int p3), (5, .int x5_51), (6, .int x6_63), (7, .int x7_63)]) hx hb dX6_around_117 hl (by decide) rfl (fun ls hl => ?_)
                          refine lv_iinc (v := (x5_51 + 1)) (lv' := [(5, .int (x5_51 + 1)), (4, .int x5_51), (0, .ref (a 0)), (1, .int p1), (2, .int p2), (3, .int p3), (6, .int x6_63), (7, .int x7_63)]) hx hb dX6_around_119 hl (k := 5) rfl rfl (by decide) rfl (fun ls hl => ?_)
                          refine lv_goto (tgt := 51) hx hb dX6_around_122 (by decide) ?_
                          exact ih51 x5_51 (x5_51 + 1) (lp_pos h0_51 c6) (lp_dec c6 hf_51) (by rw [hF]; simp only [f_X6_around_L63, if_pos c7, if_pos c8]) _ _ hP hD hS ls (lv_sub hl [2, 3, 4, 5, 1, 0] rfl)
                      · skip
                        have hI7 : vp_in x7_63 24 := ix_lt h0_63 c7 hn
                        have hr7 := hv_at hv h0_63 c7
                        refine lv_iload hx hb dX6_around_69 (lv_at hl 6 rfl) ?_
                        refine lv_iload hx hb dX6_around_71 (lv_at hl 7 rfl) ?_
                        refine lv_iload hx hb dX6_around_73 (lv_at hl 5 rfl) ?_
                        refine lv_icmp_eq (tgt := 94) hx hb dX6_around_75 (by decide) (fun c9 => ?_) (fun c9 => ?_)
                        · skip
                          refine lv_iconst (v := (0 : Int32)) hx hb dX6_around_94 (by decide) ?_
                          refine lv_iadd hx hb dX6_around_95 ?_
                          refine lv_topi (fun y10 ey10 => ?_)
                          refine lv_istore (lv' := [(6, .int y10), (0, .ref (a 0)), (1, .int p1), (2, .int p2), (3, .int p3), (4, .int x4_51), (5, .int x5_51), (7, .int x7_63)]) hx hb dX6_around_96 hl (by decide) rfl (fun ls hl => ?_)
                          refine lv_iinc (v := (x7_63 + 1)) (lv' := [(7, .int (x7_63 + 1)), (6, .int y10), (0, .ref (a 0)), (1, .int p1), (2, .int p2), (3, .int p3), (4, .int x4_51), (5, .int x5_51)]) hx hb dX6_around_98 hl (k := 7) rfl rfl (by decide) rfl (fun ls hl => ?_)
                          refine lv_goto (tgt := 63) hx hb dX6_around_101 (by decide) ?_
                          exact ih63 y10 (x7_63 + 1) (lp_pos h0_63 c7) (lp_dec c7 hf_63) (by subst ey10; rw [hF]; simp only [f_X6_around_L63, if_neg c7, if_pos c9]) _ _ hP hD hS ls (lv_sub hl [2, 3, 4, 5, 6, 7, 1, 0] rfl)
                        · skip
                          refine lv_aload_n hx hb dX6_around_78 rfl (lv_at hl 0 rfl) ?_
                          refine lv_iload_n hx hb dX6_around_79 rfl (lv_at hl 1 rfl) ?_
                          refine lv_iload hx hb dX6_around_80 (lv_at hl 7 rfl) ?_
                          refine lv_iload hx hb dX6_around_82 (lv_at hl 5 rfl) ?_
                          refine cp_i (va_runV (As := [.int p1, .int x7_63, .int x5_51]) (rest := [.int x6_63]) ⟨hx, hb, hml, hown, hts⟩ (c_X6_isAhead l dC dI a cI cJ xs ys pl lp lq lr (0 : Int32) v1 v2 v3 v4 v5 v6 v7 p1 x7_63 x5_51 (by first | with_reducible assumption | exact in0_24 | exact in0_60 | decide) (by first | with_reducible assumption | exact in0_24 | exact in0_60 | decide) (by first | with_reducible assumption | exact in0_24 | exact in0_60 | decide) (by first | with_reducible assumption | exact in0_24 | exact in0_60 | decide) (by first | with_reducible assumption | exact in0_24 | exact in0_60 | decide)) (cwV 3 hts (gG_V mG_25_5 mG_25_6 mG_25_7 mG_1_5 (gG_c mG_25_8 gG_G)) rfl rfl rfl hd_X6_isAhead ⟨Nat.le_of_ble_eq_true rfl, Nat.le_of_ble_eq_true rfl⟩) (pPcV (ci := 10) (q0 := 0) hK hP rfl rfl) rfl rfl hl.1 rfl (lv_room (Nat.le_of_ble_eq_true rfl)) dX6_around_84 ⟨Nat.le_of_ble_eq_true rfl, Nat.le_of_ble_eq_true rfl⟩) hP hS (fun H hP hS => ?_)
                          refine lv_if_eq (tgt := 94) hx hb dX6_around_87 (by decide) (fun c11 => ?_) (fun c11 => ?_)
                          · skip
                            refine lv_iconst (v := (0 : Int32)) hx hb dX6_around_94 (by decide) ?_
                            refine lv_iadd hx hb dX6_around_95 ?_
                            refine lv_topi (fun y12 ey12 => ?_)
                            refine lv_istore (lv' := [(6, .int y12), (0, .ref (a 0)), (1, .int p1), (2, .int p2), (3, .int p3), (4, .int x4_51), (5, .int x5_51), (7, .int x7_63)]) hx hb dX6_around_96 hl (by decide) rfl (fun ls hl => ?_)
                            refine lv_iinc (v := (x7_63 + 1)) (lv' := [(7, .int (x7_63 + 1)), (6, .int y12), (0, .ref (a 0)), (1, .int p1), (2, .int p2), (3, .int p3), (4, .int x4_51), (5, .int x5_51)]) hx hb dX6_around_98 hl (k := 7) rfl rfl (by decide) rfl (fun ls hl => ?_)
                            refine lv_goto (tgt := 63) hx hb dX6_around_101 (by decide) ?_
                            exact ih63 y12 (x7_63 + 1) (lp_pos h0_63 c7) (lp_dec c7 hf_63) (by subst ey12; rw [hF]; simp only [f_X6_around_L63, if_neg c7, if_neg c9, if_pos c11]) _ _ hP hD hS ls (lv_sub hl [2, 3, 4, 5, 6, 7, 1, 0] rfl)
                          · skip
                            refine lv_iconst (v := (1 : Int32)) hx hb dX6_around_90 (by decide) ?_
                            refine lv_goto (tgt := 95) hx hb dX6_around_91 (by decide) ?_
                            refine lv_iadd hx hb dX6_around_95 ?_
                            refine lv_topi (fun y13 ey13 => ?_)
                            refine lv_istore (lv' := [(6, .int y13), (0, .ref (a 0)), (1, .int p1), (2, .int p2), (3, .int p3), (4, .int x4_51), (5, .int x5_51), (7, .int x7_63)]) hx hb dX6_around_96 hl (by decide) rfl (fun ls hl => ?_)
                            refine lv_iinc (v := (x7_63 + 1)) (lv' := [(7, .int (x7_63 + 1)), (6, .int y13), (0, .ref (a 0)), (1, .int p1), (2, .int p2), (3, .int p3), (4, .int x4_51), (5, .int x5_51)]) hx hb dX6_around_98 hl (k := 7) rfl rfl (by decide) rfl (fun ls hl => ?_)
                            refine lv_goto (tgt := 63) hx hb dX6_around_101 (by decide) ?_
                            exact ih63 y13 (x7_63 + 1) (lp_pos h0_63 c7) (lp_dec c7 hf_63) (by subst ey13; rw [hF]; simp only [f_X6_around_L63, if_neg c7, if_neg c9, if_neg c11]) _ _ hP hD hS ls (lv_sub hl [2, 3, 4, 5, 6, 7, 1, 0] rfl)
                  exact K63 25 (0 : Int32) (0 : Int32) (by decide) (lp_fuel (by decide) hn) (by rw [hF]; simp only [f_X6_around_L51, if_neg c6]) _ _ hP hD hS ls (lv_sub hl [2, 3, 4, 5, 6, 7, 1, 0] rfl)
            exact K51 25 (-1 : Int32) (0 : Int32) (by decide) (lp_fuel (by decide) hn) (by rw [eF]; simp only [f_X6_around, if_neg c1, if_neg c2, if_neg c3, if_pos c4, if_neg c5]) _ _ hP hD hS ls (lv_sub hl [2, 3, 4, 5, 1, 0] rfl)
          · skip
            refine lv_bipush (v := (-4 : Int32)) hx hb dX6_around_42 (by decide) ?_
            have hE : (f_X6_around xs ys pl v0 v1 v2 p1 p2 p3) = ((-4 : Int32), (0 : Int32)) := (by simp only [f_X6_around, if_neg c1, if_neg c2, if_neg c3, if_pos c4, if_pos c5])
            exact rw_i hQ hx hb hr hlk (by rw [hE]; exact hP) hS (by rw [hE]) dX6_around_44
        · skip
          refine lv_bipush (v := (-2 : Int32)) hx hb dX6_around_31 (by decide) ?_
          have hE : (f_X6_around xs ys pl v0 v1 v2 p1 p2 p3) = ((-2 : Int32), (0 : Int32)) := (by simp only [f_X6_around, if_neg c1, if_neg c2, if_neg c3, if_neg c4])
          exact rw_i hQ hx hb hr hlk (by rw [hE]; exact hP) hS (by rw [hE]) dX6_around_33
/-! X6_order -/
theorem hs_X6_order : yX6_order.cls ≠ "java/lang/invoke/MethodHandle" ∧ yX6_order.cls ≠ "java/lang/invoke/VarHandle" ∧ (parseMethodDescriptor yX6_order.desc).map (fun d => d.parameters.length) = some 2 := by decide +kernel
theorem hd_X6_order : yX6_order.cls = RX6 ∧ yX6_order.cls ≠ "java/lang/invoke/MethodHandle" ∧ yX6_order.cls ≠ "java/lang/invoke/VarHandle" ∧ (parseMethodDescriptor yX6_order.desc).map (fun d => d.parameters.length) = some 2 := ⟨rfl, hs_X6_order⟩
def f_X6_order_L54 (xs : Nat → Int32) (ys : Nat → Int32) (pl : Nat → Int32) (v0 : Int32) (v2 : Int32) (p1 : Int32) (p2 : Int32) (k : Int32 → Int32 → (Int32 × Int32)) (x3_42 : Int32) (x4_42 : Int32) : Nat → Int32 → Int32 → (Int32 × Int32)
  | 0, _, _ => (0, 0)
  | n + 1, x5_54, x6_54 => (if p1 ≤ x6_54 then (if x5_54 = p2 then (k x4_42 (x4_42 + 1)) else (k x3_42 (x4_42 + 1))) else (if x6_54 = x4_42 then (f_X6_order_L54 xs ys pl v0 v2 p1 p2 k x3_42 x4_42 n (x5_54 + (0 : Int32)) (x6_54 + 1)) else (if (f_X6_isLess xs ys pl x6_54 x4_42) = 0 then (f_X6_order_L54 xs ys pl v0 v2 p1 p2 k x3_42 x4_42 n (x5_54 + (0 : Int32)) (x6_54 + 1)) else (f_X6_order_L54 xs ys pl v0 v2 p1 p2 k x3_42 x4_42 n (x5_54 + (1 : Int32)) (x6_54 + 1)))))
def f_X6_order_L42 (xs : Nat → Int32) (ys : Nat → Int32) (pl : Nat → Int32) (v0 : Int32) (v2 : Int32) (p1 : Int32) (p2 : Int32)  : Nat → Int32 → Int32 → (Int32 × Int32)
  | 0, _, _ => (0, 0)
  | n + 1, x3_42, x4_42 => (if p1 ≤ x4_42 then (x3_42, (0 : Int32)) else (f_X6_order_L54 xs ys pl v0 v2 p1 p2 (fun x3_42 x4_42 => f_X6_order_L42 xs ys pl v0 v2 p1 p2  n x3_42 x4_42) x3_42 x4_42 25 (0 : Int32) (0 : Int32)))
def f_X6_order (xs : Nat → Int32) (ys : Nat → Int32) (pl : Nat → Int32) (v0 : Int32) (v2 : Int32) (p1 : Int32) (p2 : Int32) : Int32 × Int32 := (if (f_X6_isMany v2 p1 (1 : Int32)) = 0 then ((-2 : Int32), (0 : Int32)) else (if p2 < 0 then ((-2 : Int32), (0 : Int32)) else (if p2 < p1 then (if (f_X6_isWhole pl p1) = 0 then ((-4 : Int32), (0 : Int32)) else (f_X6_order_L42 xs ys pl v0 v2 p1 p2  25 (-1 : Int32) (0 : Int32))) else ((-2 : Int32), (0 : Int32)))))
abbrev rm_X6_order : Room := { frames := 1, cells := 0, slots := 0, locals := 24 }
set_option maxHeartbeats 8000000 in
set_option maxRecDepth 100000 in
theorem c_X6_order (l : Launch) (dC : Nat → ClassId) (dI : Nat → Nat → Nat) (a : Nat → Nat) (cI cJ : ClassId) (xs : Nat → Int32) (ys : Nat → Int32) (pl : Nat → Int32) (lp : Nat → Int64) (lq : Nat → Int64) (lr : Nat → Int64) (v0 : Int32) (v1 : Int32) (v2 : Int32) (v3 : Int32) (v4 : Int32) (v5 : Int32) (v6 : Int32) (v7 : Int32) (p1 : Int32) (p2 : Int32) (hh : v2 ≤ 24) (hpl : ∀ j : Nat, pl j = -1 ∨ vp_in (pl j) 60) : Met l yX6_order (Cond.code yX6_order cX6_order 7 (some .int) :: lw_G) rm_X6_order (wPc (dC, dI) (tIJ cI cJ) (wM a cI cJ xs ys pl lp lq lr v0 v1 v2 v3 v4 v5 v6 v7) [.ref (a 0), .int p1, .int p2]) (wQi (dC, dI) (wA (wM a cI cJ xs ys pl lp lq lr v0 v1 v2 v3 v4 v5 v6 v7)) (wM a cI cJ xs ys pl lp lq lr ((f_X6_order xs ys pl v0 v2 p1 p2).2) v1 v2 v3 v4 v5 v6 v7) (f_X6_order xs ys pl v0 v2 p1 p2).1) 0 0 (wA (wM a cI cJ xs ys pl lp lq lr v0 v1 v2 v3 v4 v5 v6 v7)) := by
  refine wm_of (by decide) (Nat.le_of_ble_eq_true rfl) ?_
  intro p e s m args below meth c Q ls hQ hx hb hr hlk hml hown hts hP hK hD hS hl
  have hown : s.vm.findClass RX6 = some m.cls := hown
  have hl : lv_has ls 7 [(0, .ref (a 0)), (1, .int p1), (2, .int p2)] := hl
  generalize hAe : wA (wM a cI cJ xs ys pl lp lq lr v0 v1 v2 v3 v4 v5 v6 v7) = A at hQ hD hS
  obtain ⟨F, eF⟩ : ∃ F, F = (f_X6_order xs ys pl v0 v2 p1 p2) := ⟨_, rfl⟩
  refine lv_aload_n hx hb dX6_order_0 rfl (lv_at hl 0 rfl) ?_
  refine lv_iconst (v := (0 : Int32)) hx hb dX6_order_1 (by decide) ?_
  refine va_put (D := (dC, dI)) (ci := 10) (v := .int (0 : Int32)) (ty := .int) (C := RX6) (T := TX6) (N := 14) hx hb hts (fun _ h => gI_wsX60 h) tyX6 tyX6_ok nmX6 hown hK.1 hP hD hS 0 rfl rfl 0 (by decide) (hts _ mG_5_12) (fun _ h9 => h9) rfl (by decide +kernel) rfl rfl (Nat.le_of_ble_eq_true rfl) dX6_order_2 (fun H locs hP hD hS => ?_)
  have hP : va_P (dC, dI) vwCl (wM a cI cJ xs ys pl lp lq lr (0 : Int32) v1 v2 v3 v4 v5 v6 v7) H := hP
  have hD : va_D A (wM a cI cJ xs ys pl lp lq lr (0 : Int32) v1 v2 v3 v4 v5 v6 v7) := hD
  refine lv_aload_n hx hb dX6_order_5 rfl (lv_at hl 0 rfl) ?_
  refine lv_iload_n hx hb dX6_order_6 rfl (lv_at hl 1 rfl) ?_
  refine lv_iconst (v := (1 : Int32)) hx hb dX6_order_7 (by decide) ?_
  refine cp_i (va_runV (As := [.int p1, .int (1 : Int32)]) (rest := []) ⟨hx, hb, hml, hown, hts⟩ (c_X6_isMany l dC dI a cI cJ xs ys pl lp lq lr (0 : Int32) v1 v2 v3 v4 v5 v6 v7 p1 (1 : Int32) ) (cwV 2 hts (gG_V mG_21_0 mG_21_1 mG_21_2 mG_1_5 (gG_c mG_21_3 gG_G)) rfl rfl rfl hd_X6_isMany ⟨Nat.le_of_ble_eq_true rfl, Nat.le_of_ble_eq_true rfl⟩) (pPcV (ci := 10) (q0 := 0) hK hP rfl rfl) rfl rfl hl.1 rfl (lv_room (Nat.le_of_ble_eq_true rfl)) dX6_order_8 ⟨Nat.le_of_ble_eq_true rfl, Nat.le_of_ble_eq_true rfl⟩) hP hS (fun H hP hS => ?_)
  refine lv_if_eq (tgt := 23) hx hb dX6_order_11 (by decide) (fun c1 => ?_) (fun c1 => ?_)
  · skip
    refine lv_bipush (v := (-2 : Int32)) hx hb dX6_order_23 (by decide) ?_
    have hE : (f_X6_order xs ys pl v0 v2 p1 p2) = ((-2 : Int32), (0 : Int32)) := (by simp only [f_X6_order, if_pos c1])
    exact rw_i hQ hx hb hr hlk (by rw [hE]; exact hP) hS (by rw [hE]) dX6_order_25
  · skip
    obtain ⟨hm1, hm2⟩ := in_many c1
    have hn : p1 ≤ 24 := Int32.le_trans hm2 hh
    refine lv_iload_n hx hb dX6_order_14 rfl (lv_at hl 2 rfl) ?_
    refine lv_if_lt (tgt := 23) hx hb dX6_order_15 (by decide) (fun c2 => ?_) (fun c2 => ?_)
    · skip
      refine lv_bipush (v := (-2 : Int32)) hx hb dX6_order_23 (by decide) ?_
      have hE : (f_X6_order xs ys pl v0 v2 p1 p2) = ((-2 : Int32), (0 : Int32)) := (by simp only [f_X6_order, if_neg c1, if_pos c2])
      exact rw_i hQ hx hb hr hlk (by rw [hE]; exact hP) hS (by rw [hE]) dX6_order_25
    · skip
      refine lv_iload_n hx hb dX6_order_18 rfl (lv_at hl 2 rfl) ?_
      refine lv_iload_n hx hb dX6_order_19 rfl (lv_at hl 1 rfl) ?_
      refine lv_icmp_lt (tgt := 26) hx hb dX6_order_20 (by decide) (fun c3 => ?_) (fun c3 => ?_)
      · skip
        refine lv_aload_n hx hb dX6_order_26 rfl (lv_at hl 0 rfl) ?_
        refine lv_iload_n hx hb dX6_order_27 rfl (lv_at hl 1 rfl) ?_
        refine cp_i (va_runV (As := [.int p1]) (rest := []) ⟨hx, hb, hml, hown, hts⟩ (c_X6_isWhole l dC dI a cI cJ xs ys pl lp lq lr (0 : Int32) v1 v2 v3 v4 v5 v6 v7 p1 (by first | with_reducible assumption | exact in0_24 | exact in0_60 | decide)) (cwV 1 hts (gG_V mG_21_4 mG_21_5 mG_21_6 mG_1_5 (gG_c mG_21_7 gG_G)) rfl rfl rfl hd_X6_isWhole ⟨Nat.le_of_ble_eq_true rfl, Nat.le_of_ble_eq_true rfl⟩) (pPcV (ci := 10) (q0 := 0) hK hP rfl rfl) rfl rfl hl.1 rfl (lv_room (Nat.le_of_ble_eq_true rfl)) dX6_order_28 ⟨Nat.le_of_ble_eq_true rfl, Nat.le_of_ble_eq_true rfl⟩) hP hS (fun H hP hS => ?_)
        refine lv_if_ne (tgt := 37) hx hb dX6_order_31 (by decide) (fun c4 => ?_) (fun c4 => ?_)
        · skip
          have hv := mw_spec hn hpl c4
          refine lv_iconst (v := (-1 : Int32)) hx hb dX6_order_37 (by decide) ?_
          refine lv_istore_n (lv' := [(3, .int (-1 : Int32)), (0, .ref (a 0)), (1, .int p1), (2, .int p2)]) hx hb dX6_order_38 rfl hl (by decide) rfl (fun ls hl => ?_)
          refine lv_iconst (v := (0 : Int32)) hx hb dX6_order_39 (by decide) ?_
          refine lv_istore (lv' := [(4, .int (0 : Int32)), (3, .int (-1 : Int32)), (0, .ref (a 0)), (1, .int p1), (2, .int p2)]) hx hb dX6_order_40 hl (by decide) rfl (fun ls hl => ?_)
          have K42 : ∀ (n42 : Nat) (x3_42 : Int32) (x4_42 : Int32), 0 ≤ x4_42 → ((p1).toInt - x4_42.toInt).toNat < n42 → F = f_X6_order_L42 xs ys pl v0 v2 p1 p2  n42 x3_42 x4_42 → ∀ (H : Heap) (locs : List Loc), va_P (dC, dI) vwCl (wM a cI cJ xs ys pl lp lq lr (0 : Int32) v1 v2 v3 v4 v5 v6 v7) H → va_D A (wM a cI cJ xs ys pl lp lq lr (0 : Int32) v1 v2 v3 v4 v5 v6 v7) → va_S A s.heap H locs → ∀ (ls : Array Slot), lv_has ls 7 [(0, .ref (a 0)), (1, .int p1), (2, .int p2), (3, .int x3_42), (4, .int x4_42)] → W p l e rm_X6_order s m args below meth c H locs 0 0 Q (F0 m 42 ls []) := by
            intro n42
            induction n42 with
            | zero => intro x3_42 x4_42 h0_42 hf_42 hF H locs hP hD hS ls hl; exact absurd hf_42 (Nat.not_lt_zero _)
            | succ n42 ih42 =>
              intro x3_42 x4_42 h0_42 hf_42 hF H locs hP hD hS ls hl
              refine lv_iload hx hb dX6_order_42 (lv_at hl 4 rfl) ?_
              refine lv_iload_n hx hb dX6_order_44 rfl (lv_at hl 1 rfl) ?_
              refine lv_icmp_ge (tgt := 113) hx hb dX6_order_45 (by decide) (fun c5 => ?_) (fun c5 => ?_)
              · skip
                refine lv_iload_n hx hb dX6_order_113 rfl (lv_at hl 3 rfl) ?_
                have hE : F = (x3_42, (0 : Int32)) := (by rw [hF]; simp only [f_X6_order_L42, if_pos c5])
                rw [eF] at hE
                exact rw_i hQ hx hb hr hlk (by rw [hE]; exact hP) hS (by rw [hE]) dX6_order_114
              · skip
                have hI : vp_in x4_42 24 := ix_lt h0_42 c5 hn
                have hr1 := hv_at hv h0_42 c5
                refine lv_iconst (v := (0 : Int32)) hx hb dX6_order_48 (by decide) ?_
                refine lv_istore (lv' := [(5, .int (0 : Int32)), (0, .ref (a 0)), (1, .int p1), (2, .int p2), (3, .int x3_42), (4, .int x4_42)]) hx hb dX6_order_49 hl (by decide) rfl (fun ls hl => ?_)
                refine lv_iconst (v := (0 : Int32)) hx hb dX6_order_51 (by decide) ?_
                refine lv_istore (lv' := [(6, .int (0 : Int32)), (5, .int (0 : Int32)), (0, .ref (a 0)), (1, .int p1), (2, .int p2), (3, .int x3_42), (4, .int x4_42)]) hx hb dX6_order_52 hl (by decide) rfl (fun ls hl => ?_)
                have K54 : ∀ (n54 : Nat) (x5_54 : Int32) (x6_54 : Int32), 0 ≤ x6_54 → ((p1).toInt - x6_54.toInt).toNat < n54 → F = f_X6_order_L54 xs ys pl v0 v2 p1 p2 (fun x3_42 x4_42 => f_X6_order_L42 xs ys pl v0 v2 p1 p2  n42 x3_42 x4_42) x3_42 x4_42 n54 x5_54 x6_54 → ∀ (H : Heap) (locs : List Loc), va_P (dC, dI) vwCl (wM a cI cJ xs ys pl lp lq lr (0 : Int32) v1 v2 v3 v4 v5 v6 v7) H → va_D A (wM a cI cJ xs ys pl lp lq lr (0 : Int32) v1 v2 v3 v4 v5 v6 v7) → va_S A s.heap H locs → ∀ (ls : Array Slot), lv_has ls 7 [(0, .ref (a 0)), (1, .int p1), (2, .int p2), (3, .int x3_42), (4, .int x4_42), (5, .int x5_54), (6, .int x6_54)] → W p l e rm_X6_order s m args below meth c H locs 0 0 Q (F0 m 54 ls []) := by
                  intro n54
                  induction n54 with
                  | zero => intro x5_54 x6_54 h0_54 hf_54 hF H locs hP hD hS ls hl; exact absurd hf_54 (Nat.not_lt_zero _)
                  | succ n54 ih54 =>
                    intro x5_54 x6_54 h0_54 hf_54 hF H locs hP hD hS ls hl
                    refine lv_iload hx hb dX6_order_54 (lv_at hl 6 rfl) ?_
                    refine lv_iload_n hx hb dX6_order_56 rfl (lv_at hl 1 rfl) ?_
                    refine lv_icmp_ge (tgt := 94) hx hb dX6_order_57 (by decide) (fun c6 => ?_) (fun c6 => ?_)
                    · skip
                      refine lv_iload hx hb dX6_order_94 (lv_at hl 5 rfl) ?_
                      refine lv_iload_n hx hb dX6_order_96 rfl (lv_at hl 2 rfl) ?_
                      refine lv_icmp_ne (tgt := 105) hx hb dX6_order_97 (by decide) (fun c7 => ?_) (fun c7 => ?_)
                      · skip
                        refine lv_iload_n hx hb dX6_order_105 rfl (lv_at hl 3 rfl) ?_
                        refine lv_istore_n (lv' := [(3, .int x3_42), (0, .ref (a 0)), (1, .int p1), (2, .int p2), (4, .int x4_42), (5, .int x5_54), (6, .int x6_54)]) hx hb dX6_order_106 rfl hl (by decide) rfl (fun ls hl => ?_)
                        refine lv_iinc (v := (x4_42 + 1)) (lv' := [(4, .int (x4_42 + 1)), (3, .int x3_42), (0, .ref (a 0)), (1, .int p1), (2, .int p2), (5, .int x5_54), (6, .int x6_54)]) hx hb dX6_order_107 hl (k := 4) rfl rfl (by decide) rfl (fun ls hl => ?_)
                        refine lv_goto (tgt := 42) hx hb dX6_order_110 (by decide) ?_
                        exact ih42 x3_42 (x4_42 + 1) (lp_pos h0_42 c5) (lp_dec c5 hf_42) (by rw [hF]; simp only [f_X6_order_L54, if_pos c6, if_neg c7]) _ _ hP hD hS ls (lv_sub hl [2, 3, 4, 1, 0] rfl)
                      · skip
                        refine lv_iload hx hb dX6_order_100 (lv_at hl 4 rfl) ?_
                        refine lv_goto (tgt := 106) hx hb dX6_order_102 (by decide) ?_
                        refine lv_istore_n (lv' := [(3, .int x4_42), (0, .ref (a 0)), (1, .int p1), (2, .int p2), (4, .int x4_42), (5, .int x5_54), (6, .int x6_54)]) hx hb dX6_order_106 rfl hl (by decide) rfl (fun ls hl => ?_)
                        refine lv_iinc (v := (x4_42 + 1)) (lv' := [(4, .int (x4_42 + 1)), (3, .int x4_42), (0, .ref (a 0)), (1, .int p1), (2, .int p2), (5, .int x5_54), (6, .int x6_54)]) hx hb dX6_order_107 hl (k := 4) rfl rfl (by decide) rfl (fun ls hl => ?_)
                        refine lv_goto (tgt := 42) hx hb dX6_order_110 (by decide) ?_
                        exact ih42 x4_42 (x4_42 + 1) (lp_pos h0_42 c5) (lp_dec c5 hf_42) (by rw [hF]; simp only [f_X6_order_L54, if_pos c6, if_pos c7]) _ _ hP hD hS ls (lv_sub hl [2, 3, 4, 1, 0] rfl)
                    · skip
                      have hI6 : vp_in x6_54 24 := ix_lt h0_54 c6 hn
                      have hr6 := hv_at hv h0_54 c6
                      refine lv_iload hx hb dX6_order_60 (lv_at hl 5 rfl) ?_
                      refine lv_iload hx hb dX6_order_62 (lv_at hl 6 rfl) ?_
                      refine lv_iload hx hb dX6_order_64 (lv_at hl 4 rfl) ?_
                      refine lv_icmp_eq (tgt := 84) hx hb dX6_order_66 (by decide) (fun c8 => ?_) (fun c8 => ?_)
                      · skip
                        refine lv_iconst (v := (0 : Int32)) hx hb dX6_order_84 (by decide) ?_
                        refine lv_iadd hx hb dX6_order_85 ?_
                        refine lv_topi (fun y9 ey9 => ?_)
                        refine lv_istore (lv' := [(5, .int y9), (0, .ref (a 0)), (1, .int p1), (2, .int p2), (3, .int x3_42), (4, .int x4_42), (6, .int x6_54)]) hx hb dX6_order_86 hl (by decide) rfl (fun ls hl => ?_)
                        refine lv_iinc (v := (x6_54 + 1)) (lv' := [(6, .int (x6_54 + 1)), (5, .int y9), (0, .ref (a 0)), (1, .int p1), (2, .int p2), (3, .int x3_42), (4, .int x4_42)]) hx hb dX6_order_88 hl (k := 6) rfl rfl (by decide) rfl (fun ls hl => ?_)
                        refine lv_goto (tgt := 54) hx hb dX6_order_91 (by decide) ?_
                        exact ih54 y9 (x6_54 + 1) (lp_pos h0_54 c6) (lp_dec c6 hf_54) (by subst ey9; rw [hF]; simp only [f_X6_order_L54, if_neg c6, if_pos c8]) _ _ hP hD hS ls (lv_sub hl [2, 3, 4, 5, 6, 1, 0] rfl)
                      · skip
                        refine lv_aload_n hx hb dX6_order_69 rfl (lv_at hl 0 rfl) ?_
                        refine lv_iload hx hb dX6_order_70 (lv_at hl 6 rfl) ?_
                        refine lv_iload hx hb dX6_order_72 (lv_at hl 4 rfl) ?_
                        refine cp_i (va_runV (As := [.int x6_54, .int x4_42]) (rest := [.int x5_54]) ⟨hx, hb, hml, hown, hts⟩ (c_X6_isLess l dC dI a cI cJ xs ys pl lp lq lr (0 : Int32) v1 v2 v3 v4 v5 v6 v7 x6_54 x4_42 (by first | with_reducible assumption | exact in0_24 | exact in0_60 | decide) (by first | with_reducible assumption | exact in0_24 | exact in0_60 | decide) (by first | with_reducible assumption | exact in0_24 | exact in0_60 | decide) (by first | with_reducible assumption | exact in0_24 | exact in0_60 | decide)) (cwV 2 hts (gG_V mG_26_10 mG_26_11 mG_26_12 mG_1_5 (gG_c mG_26_13 gG_G)) rfl rfl rfl hd_X6_isLess ⟨Nat.le_of_ble_eq_true rfl, Nat.le_of_ble_eq_true rfl⟩) (pPcV (ci := 10) (q0 := 0) hK hP rfl rfl) rfl rfl hl.1 rfl (lv_room (Nat.le_of_ble_eq_true rfl)) dX6_order_74 ⟨Nat.le_of_ble_eq_true rfl, Nat.le_of_ble_eq_true rfl⟩) hP hS (fun H hP hS => ?_)
                        refine lv_if_eq (tgt := 84) hx hb dX6_order_77 (by decide) (fun c10 => ?_) (fun c10 => ?_)
                        · skip
                          refine lv_iconst (v := (0 : Int32)) hx hb dX6_order_84 (by decide) ?_
                          refine lv_iadd hx hb dX6_order_85 ?_
                          refine lv_topi (fun y11 ey11 => ?_)
                          refine lv_istore (lv' := [(5, .int y11), (0, .ref (a 0)), (1, .int p1), (2, .int p2), (3, .int x3_42), (4, .int x4_42), (6, .int x6_54)]) hx hb dX6_order_86 hl (by decide) rfl (fun ls hl => ?_)
                          refine lv_iinc (v := (x6_54 + 1)) (lv' := [(6, .int (x6_54 + 1)), (5, .int y11), (0, .ref (a 0)), (1, .int p1), (2, .int p2), (3, .int x3_42), (4, .int x4_42)]) hx hb dX6_order_88 hl (k := 6) rfl rfl (by decide) rfl (fun ls hl => ?_)
                          refine lv_goto (tgt := 54) hx hb dX6_order_91 (by decide) ?_
                          exact ih54 y11 (x6_54 + 1) (lp_pos h0_54 c6) (lp_dec c6 hf_54) (by subst ey11; rw [hF]; simp only [f_X6_order_L54, if_neg c6, if_neg c8, if_pos c10]) _ _ hP hD hS ls (lv_sub hl [2, 3, 4, 5, 6, 1, 0] rfl)
                        · skip
                          refine lv_iconst (v := (1 : Int32)) hx hb dX6_order_80 (by decide) ?_
                          refine lv_goto (tgt := 85) hx hb dX6_order_81 (by decide) ?_
                          refine lv_iadd hx hb dX6_order_85 ?_
                          refine lv_topi (fun y12 ey12 => ?_)
                          refine lv_istore (lv' := [(5, .int y12), (0, .ref (a 0)), (1, .int p1), (2, .int p2), (3, .int x3_42), (4, .int x4_42), (6, .int x6_54)]) hx hb dX6_order_86 hl (by decide) rfl (fun ls hl => ?_)
                          refine lv_iinc (v := (x6_54 + 1)) (lv' := [(6, .int (x6_54 + 1)), (5, .int y12), (0, .ref (a 0)), (1, .int p1), (2, .int p2), (3, .int x3_42), (4, .int x4_42)]) hx hb dX6_order_88 hl (k := 6) rfl rfl (by decide) rfl (fun ls hl => ?_)
                          refine lv_goto (tgt := 54) hx hb dX6_order_91 (by decide) ?_
                          exact ih54 y12 (x6_54 + 1) (lp_pos h0_54 c6) (lp_dec c6 hf_54) (by subst ey12; rw [hF]; simp only [f_X6_order_L54, if_neg c6, if_neg c8, if_neg c10]) _ _ hP hD hS ls (lv_sub hl [2, 3, 4, 5, 6, 1, 0] rfl)
                exact K54 25 (0 : Int32) (0 : Int32) (by decide) (lp_fuel (by decide) hn) (by rw [hF]; simp only [f_X6_order_L42, if_neg c5]) _ _ hP hD hS ls (lv_sub hl [2, 3, 4, 5, 6, 1, 0] rfl)
          exact K42 25 (-1 : Int32) (0 : Int32) (by decide) (lp_fuel (by decide) hn) (by rw [eF]; simp only [f_X6_order, if_neg c1, if_neg c2, if_pos c3, if_neg c4]) _ _ hP hD hS ls (lv_sub hl [2, 3, 4, 1, 0] rfl)
        · skip
          refine lv_bipush (v := (-4 : Int32)) hx hb dX6_order_34 (by decide) ?_
          have hE : (f_X6_order xs ys pl v0 v2 p1 p2) = ((-4 : Int32), (0 : Int32)) := (by simp only [f_X6_order, if_neg c1, if_neg c2, if_pos c3, if_pos c4])
          exact rw_i hQ hx hb hr hlk (by rw [hE]; exact hP) hS (by rw [hE]) dX6_order_36
      · skip
        refine lv_bipush (v := (-2 : Int32)) hx hb dX6_order_23 (by decide) ?_
        have hE : (f_X6_order xs ys pl v0 v2 p1 p2) = ((-2 : Int32), (0 : Int32)) := (by simp only [f_X6_order, if_neg c1, if_neg c2, if_neg c3])
        exact rw_i hQ hx hb hr hlk (by rw [hE]; exact hP) hS (by rw [hE]) dX6_order_25
/-! X6_area -/
theorem hs_X6_area : yX6_area.cls ≠ "java/lang/invoke/MethodHandle" ∧ yX6_area.cls ≠ "java/lang/invoke/VarHandle" ∧ (parseMethodDescriptor yX6_area.desc).map (fun d => d.parameters.length) = some 2 := by decide +kernel
theorem hd_X6_area : yX6_area.cls = RX6 ∧ yX6_area.cls ≠ "java/lang/invoke/MethodHandle" ∧ yX6_area.cls ≠ "java/lang/invoke/VarHandle" ∧ (parseMethodDescriptor yX6_area.desc).map (fun d => d.parameters.length) = some 2 := ⟨rfl, hs_X6_area⟩
def f_X6_area_L43 (xs : Nat → Int32) (ys : Nat → Int32) (pl : Nat → Int32) (v0 : Int32) (v2 : Int32) (p1 : Int32) (p2 : Int64)  : Nat → Int64 → Int32 → (Int64 × Int32)
  | 0, _, _ => (0, 0)
  | n + 1, x4_43, x6_43 => (if p1 ≤ x6_43 then ((x4_43 / p2), (0 : Int32)) else (f_X6_area_L43 xs ys pl v0 v2 p1 p2  n (x4_43 + (((Int32.toInt64 (xs (Int32.toNatClampNeg (pl (Int32.toNatClampNeg x6_43))))) * (Int32.toInt64 (ys (Int32.toNatClampNeg (f_X6_next pl x6_43 p1))))) - ((Int32.toInt64 (xs (Int32.toNatClampNeg (f_X6_next pl x6_43 p1)))) * (Int32.toInt64 (ys (Int32.toNatClampNeg (pl (Int32.toNatClampNeg x6_43)))))))) (x6_43 + 1)))
def f_X6_area (xs : Nat → Int32) (ys : Nat → Int32) (pl : Nat → Int32) (v0 : Int32) (v2 : Int32) (p1 : Int32) (p2 : Int64) : Int64 × Int32 := (if (f_X6_isMany v2 p1 (1 : Int32)) = 0 then ((0 : Int64), (0 : Int32)) else (if (f_X6_isWhole pl p1) = 0 then ((0 : Int64), (0 : Int32)) else (if (lg_cmp p2 (0 : Int64)) = 0 then ((Int32.toInt64 ((f_X6_fail (0 : Int32) (1 : Int32)).1)), ((f_X6_fail (0 : Int32) (1 : Int32)).2)) else (f_X6_area_L43 xs ys pl v0 v2 p1 p2  25 (0 : Int64) (0 : Int32)))))
abbrev rm_X6_area : Room := { frames := 1, cells := 0, slots := 0, locals := 23 }
set_option maxHeartbeats 8000000 in
set_option maxRecDepth 100000 in
theorem c_X6_area (l : Launch) (dC : Nat → ClassId) (dI : Nat → Nat → Nat) (a : Nat → Nat) (cI cJ : ClassId) (xs : Nat → Int32) (ys : Nat → Int32) (pl : Nat → Int32) (lp : Nat → Int64) (lq : Nat → Int64) (lr : Nat → Int64) (v0 : Int32) (v1 : Int32) (v2 : Int32) (v3 : Int32) (v4 : Int32) (v5 : Int32) (v6 : Int32) (v7 : Int32) (p1 : Int32) (p2 : Int64) (hh : v2 ≤ 24) (hpl : ∀ j : Nat, pl j = -1 ∨ vp_in (pl j) 60) : Met l yX6_area (Cond.code yX6_area cX6_area 9 (some .long) :: lw_G) rm_X6_area (wPc (dC, dI) (tIJ cI cJ) (wM a cI cJ xs ys pl lp lq lr v0 v1 v2 v3 v4 v5 v6 v7) [.ref (a 0), .int p1, .long p2]) (wQl (dC, dI) (wA (wM a cI cJ xs ys pl lp lq lr v0 v1 v2 v3 v4 v5 v6 v7)) (wM a cI cJ xs ys pl lp lq lr ((f_X6_area xs ys pl v0 v2 p1 p2).2) v1 v2 v3 v4 v5 v6 v7) (f_X6_area xs ys pl v0 v2 p1 p2).1) 0 0 (wA (wM a cI cJ xs ys pl lp lq lr v0 v1 v2 v3 v4 v5 v6 v7)) := by
  refine wm_of (by decide) (Nat.le_of_ble_eq_true rfl) ?_
  intro p e s m args below meth c Q ls hQ hx hb hr hlk hml hown hts hP hK hD hS hl
  have hown : s.vm.findClass RX6 = some m.cls := hown
  have hl : lv_has ls 9 [(0, .ref (a 0)), (1, .int p1), (2, .long p2)] := hl
  generalize hAe : wA (wM a cI cJ xs ys pl lp lq lr v0 v1 v2 v3 v4 v5 v6 v7) = A at hQ hD hS
  obtain ⟨F, eF⟩ : ∃ F, F = (f_X6_area xs ys pl v0 v2 p1 p2) := ⟨_, rfl⟩
  refine lv_aload_n hx hb dX6_area_0 rfl (lv_at hl 0 rfl) ?_
  refine lv_iconst (v := (0 : Int32)) hx hb dX6_area_1 (by decide) ?_
  refine va_put (D := (dC, dI)) (ci := 10) (v := .int (0 : Int32)) (ty := .int) (C := RX6) (T := TX6) (N := 14) hx hb hts (fun _ h => gI_wsX60 h) tyX6 tyX6_ok nmX6 hown hK.1 hP hD hS 0 rfl rfl 0 (by decide) (hts _ mG_5_12) (fun _ h9 => h9) rfl (by decide +kernel) rfl rfl (Nat.le_of_ble_eq_true rfl) dX6_area_2 (fun H locs hP hD hS => ?_)
  have hP : va_P (dC, dI) vwCl (wM a cI cJ xs ys pl lp lq lr (0 : Int32) v1 v2 v3 v4 v5 v6 v7) H := hP
  have hD : va_D A (wM a cI cJ xs ys pl lp lq lr (0 : Int32) v1 v2 v3 v4 v5 v6 v7) := hD
  refine lv_aload_n hx hb dX6_area_5 rfl (lv_at hl 0 rfl) ?_
  refine lv_iload_n hx hb dX6_area_6 rfl (lv_at hl 1 rfl) ?_
  refine lv_iconst (v := (1 : Int32)) hx hb dX6_area_7 (by decide) ?_
  refine cp_i (va_runV (As := [.int p1, .int (1 : Int32)]) (rest := []) ⟨hx, hb, hml, hown, hts⟩ (c_X6_isMany l dC dI a cI cJ xs ys pl lp lq lr (0 : Int32) v1 v2 v3 v4 v5 v6 v7 p1 (1 : Int32) ) (cwV 2 hts (gG_V mG_21_0 mG_21_1 mG_21_2 mG_1_5 (gG_c mG_21_3 gG_G)) rfl rfl rfl hd_X6_isMany ⟨Nat.le_of_ble_eq_true rfl, Nat.le_of_ble_eq_true rfl⟩) (pPcV (ci := 10) (q0 := 0) hK hP rfl rfl) rfl rfl hl.1 rfl (lv_room (Nat.le_of_ble_eq_true rfl)) dX6_area_8 ⟨Nat.le_of_ble_eq_true rfl, Nat.le_of_ble_eq_true rfl⟩) hP hS (fun H hP hS => ?_)
  refine lv_if_eq (tgt := 22) hx hb dX6_area_11 (by decide) (fun c1 => ?_) (fun c1 => ?_)
  · skip
    refine lv_lconst (v := (0 : Int64)) hx hb dX6_area_22 (by decide) ?_
    have hE : (f_X6_area xs ys pl v0 v2 p1 p2) = ((0 : Int64), (0 : Int32)) := (by simp only [f_X6_area, if_pos c1])
    exact rw_l hQ hx hb hr hlk (by rw [hE]; exact hP) hS (by rw [hE]) dX6_area_23
  · skip
    obtain ⟨hm1, hm2⟩ := in_many c1
    have hn : p1 ≤ 24 := Int32.le_trans hm2 hh
    refine lv_aload_n hx hb dX6_area_14 rfl (lv_at hl 0 rfl) ?_
    refine lv_iload_n hx hb dX6_area_15 rfl (lv_at hl 1 rfl) ?_
    refine cp_i (va_runV (As := [.int p1]) (rest := []) ⟨hx, hb, hml, hown, hts⟩ (c_X6_isWhole l dC dI a cI cJ xs ys pl lp lq lr (0 : Int32) v1 v2 v3 v4 v5 v6 v7 p1 (by first | with_reducible assumption | exact in0_24 | exact in0_60 | decide)) (cwV 1 hts (gG_V mG_21_4 mG_21_5 mG_21_6 mG_1_5 (gG_c mG_21_7 gG_G)) rfl rfl rfl hd_X6_isWhole ⟨Nat.le_of_ble_eq_true rfl, Nat.le_of_ble_eq_true rfl⟩) (pPcV (ci := 10) (q0 := 0) hK hP rfl rfl) rfl rfl hl.1 rfl (lv_room (Nat.le_of_ble_eq_true rfl)) dX6_area_16 ⟨Nat.le_of_ble_eq_true rfl, Nat.le_of_ble_eq_true rfl⟩) hP hS (fun H hP hS => ?_)
    refine lv_if_ne (tgt := 24) hx hb dX6_area_19 (by decide) (fun c2 => ?_) (fun c2 => ?_)
    · skip
      have hv := mw_spec hn hpl c2
      refine lv_lload_n hx hb dX6_area_24 rfl (lv_at hl 2 rfl) ?_
      refine lv_lconst (v := (0 : Int64)) hx hb dX6_area_25 (by decide) ?_
      refine W.lcmp hx hb dX6_area_26 ?_
      refine lv_if_ne (tgt := 37) hx hb dX6_area_27 (by decide) (fun c3 => ?_) (fun c3 => ?_)
      · skip
        have hz : ¬ p2 = 0 := fun h => c3 (by rw [h]; decide)
        refine lv_lconst (v := (0 : Int64)) hx hb dX6_area_37 (by decide) ?_
        refine lv_lstore (lv' := [(4, .long (0 : Int64)), (0, .ref (a 0)), (1, .int p1), (2, .long p2)]) hx hb dX6_area_38 hl (by decide) rfl (fun ls hl => ?_)
        refine lv_iconst (v := (0 : Int32)) hx hb dX6_area_40 (by decide) ?_
        refine lv_istore (lv' := [(6, .int (0 : Int32)), (4, .long (0 : Int64)), (0, .ref (a 0)), (1, .int p1), (2, .long p2)]) hx hb dX6_area_41 hl (by decide) rfl (fun ls hl => ?_)
        have K43 : ∀ (n43 : Nat) (x4_43 : Int64) (x6_43 : Int32), 0 ≤ x6_43 → ((p1).toInt - x6_43.toInt).toNat < n43 → F = f_X6_area_L43 xs ys pl v0 v2 p1 p2  n43 x4_43 x6_43 → ∀ (H : Heap) (locs : List Loc), va_P (dC, dI) vwCl (wM a cI cJ xs ys pl lp lq lr (0 : Int32) v1 v2 v3 v4 v5 v6 v7) H → va_D A (wM a cI cJ xs ys pl lp lq lr (0 : Int32) v1 v2 v3 v4 v5 v6 v7) → va_S A s.heap H locs → ∀ (ls : Array Slot), lv_has ls 9 [(0, .ref (a 0)), (1, .int p1), (2, .long p2), (4, .long x4_43), (6, .int x6_43)] → W p l e rm_X6_area s m args below meth c H locs 0 0 Q (F0 m 43 ls []) := by
          intro n43
          induction n43 with
          | zero => intro x4_43 x6_43 h0_43 hf_43 hF H locs hP hD hS ls hl; exact absurd hf_43 (Nat.not_lt_zero _)
          | succ n43 ih43 =>
            intro x4_43 x6_43 h0_43 hf_43 hF H locs hP hD hS ls hl
            refine lv_iload hx hb dX6_area_43 (lv_at hl 4 rfl) ?_
            refine lv_iload_n hx hb dX6_area_45 rfl (lv_at hl 1 rfl) ?_
            refine lv_icmp_ge (tgt := 113) hx hb dX6_area_46 (by decide) (fun c4 => ?_) (fun c4 => ?_)
            · skip
              refine lv_lload hx hb dX6_area_113 (lv_at hl 3 rfl) ?_
              refine lv_lload_n hx hb dX6_area_115 rfl (lv_at hl 2 rfl) ?_
              refine lv_ldiv hx hb dX6_area_116 (by first | with_reducible assumption | exact in0_24 | exact in0_60 | decide) ?_
              have hE : F = ((x4_43 / p2), (0 : Int32)) := (by rw [hF]; simp only [f_X6_area_L43, if_pos c4])
              rw [eF] at hE
              exact rw_l hQ hx hb hr hlk (by rw [hE]; exact hP) hS (by rw [hE]) dX6_area_117
            · skip
              have hI : vp_in x6_43 24 := ix_lt h0_43 c4 hn
              have hr1 := hv_at hv h0_43 c4
              have hE := in_next hv h0_43 c4
              refine lv_aload_n hx hb dX6_area_49 rfl (lv_at hl 0 rfl) ?_
              refine va_get (D := (dC, dI)) (ci := 10) (v := .ref (a 3)) (C := RX6) (T := TX6) (N := 14) hx hb hts (fun _ h => gI_wsX60 h) hown hK.1 hP 0 rfl rfl 5 (by decide) (hts _ mG_4_10) (fun _ h9 => h9) rfl dX6_area_50 ?_
              refine lv_iload hx hb dX6_area_53 (lv_at hl 4 rfl) ?_
              refine va_iald hx hb hK.1 hP 3 0 rfl rfl (by first | with_reducible assumption | exact in0_24 | exact in0_60 | decide) dX6_area_55 ?_
              refine lv_topi (fun y5 ey5 => ?_)
              refine lv_istore (lv' := [(7, .int y5), (0, .ref (a 0)), (1, .int p1), (2, .long p2), (4, .long x4_43), (6, .int x6_43)]) hx hb dX6_area_56 hl (by decide) rfl (fun ls hl => ?_)
              refine lv_aload_n hx hb dX6_area_58 rfl (lv_at hl 1 rfl) ?_
              refine lv_iload hx hb dX6_area_59 (lv_at hl 5 rfl) ?_
              refine lv_iload_n hx hb dX6_area_61 rfl (lv_at hl 2 rfl) ?_
              refine cp_i (va_runV (As := [.int x6_43, .int p1]) (rest := []) ⟨hx, hb, hml, hown, hts⟩ (c_X6_next l dC dI a cI cJ xs ys pl lp lq lr (0 : Int32) v1 v2 v3 v4 v5 v6 v7 x6_43 p1 (by first | with_reducible assumption | exact in0_24 | exact in0_60 | decide) (by first | with_reducible assumption | exact in0_24 | exact in0_60 | decide) (by first | with_reducible assumption | exact in0_24 | exact in0_60 | decide)) (cwV 2 hts (gG_V mG_21_8 mG_21_9 mG_21_10 mG_1_5 (gG_c mG_21_11 gG_G)) rfl rfl rfl hd_X6_next ⟨Nat.le_of_ble_eq_true rfl, Nat.le_of_ble_eq_true rfl⟩) (pPcV (ci := 10) (q0 := 0) hK hP rfl rfl) rfl rfl hl.1 rfl (lv_room (Nat.le_of_ble_eq_true rfl)) dX6_area_62 ⟨Nat.le_of_ble_eq_true rfl, Nat.le_of_ble_eq_true rfl⟩) hP hS (fun H hP hS => ?_)
              refine lv_topi (fun y6 ey6 => ?_)
              refine lv_istore (lv' := [(8, .int y6), (7, .int y5), (0, .ref (a 0)), (1, .int p1), (2, .long p2), (4, .long x4_43), (6, .int x6_43)]) hx hb dX6_area_65 hl (by decide) rfl (fun ls hl => ?_)
              have hy7 : vp_in y5 60 := by rw [ey5]; exact hr1
              have hy8 : vp_in y6 60 := by rw [ey6]; exact hE
              refine lv_lload hx hb dX6_area_67 (lv_at hl 5 rfl) ?_
              refine lv_aload_n hx hb dX6_area_69 rfl (lv_at hl 2 rfl) ?_
              refine va_get (D := (dC, dI)) (ci := 10) (v := .ref (a 1)) (C := RX6) (T := TX6) (N := 14) hx hb hts (fun _ h => gI_wsX60 h) hown hK.1 hP 0 rfl rfl 2 (by decide) (hts _ mG_4_8) (fun _ h9 => h9) rfl dX6_area_70 ?_
              refine lv_iload hx hb dX6_area_73 (lv_at hl 1 rfl) ?_
              refine va_iald hx hb hK.1 hP 1 0 rfl rfl (by first | with_reducible assumption | exact in0_24 | exact in0_60 | decide) dX6_area_75 ?_
              refine lv_i2l hx hb dX6_area_76 rfl ?_
              refine lv_aload_n hx hb dX6_area_77 rfl (lv_at hl 2 rfl) ?_
              refine va_get (D := (dC, dI)) (ci := 10) (v := .ref (a 2)) (C := RX6) (T := TX6) (N := 14) hx hb hts (fun _ h => gI_wsX60 h) hown hK.1 hP 0 rfl rfl 3 (by decide) (hts _ mG_4_9) (fun _ h9 => h9) rfl dX6_area_78 ?_
              refine lv_iload hx hb dX6_area_81 (lv_at hl 0 rfl) ?_
              refine va_iald hx hb hK.1 hP 2 0 rfl rfl (by first | with_reducible assumption | exact in0_24 | exact in0_60 | decide) dX6_area_83 ?_
              refine lv_i2l hx hb dX6_area_84 rfl ?_
              refine lv_lmul hx hb dX6_area_85 ?_
              refine lv_aload_n hx hb dX6_area_86 rfl (lv_at hl 2 rfl) ?_
              refine va_get (D := (dC, dI)) (ci := 10) (v := .ref (a 1)) (C := RX6) (T := TX6) (N := 14) hx hb hts (fun _ h => gI_wsX60 h) hown hK.1 hP 0 rfl rfl 2 (by decide) (hts _ mG_4_8) (fun _ h9 => h9) rfl dX6_area_87 ?_
              refine lv_iload hx hb dX6_area_90 (lv_at hl 0 rfl) ?_
              refine va_iald hx hb hK.1 hP 1 0 rfl rfl (by first | with_reducible assumption | exact in0_24 | exact in0_60 | decide) dX6_area_92 ?_
              refine lv_i2l hx hb dX6_area_93 rfl ?_
              refine lv_aload_n hx hb dX6_area_94 rfl (lv_at hl 2 rfl) ?_
              refine va_get (D := (dC, dI)) (ci := 10) (v := .ref (a 2)) (C := RX6) (T := TX6) (N := 14) hx hb hts (fun _ h => gI_wsX60 h) hown hK.1 hP 0 rfl rfl 3 (by decide) (hts _ mG_4_9) (fun _ h9 => h9) rfl dX6_area_95 ?_
              refine lv_iload hx hb dX6_area_98 (lv_at hl 1 rfl) ?_
              refine va_iald hx hb hK.1 hP 2 0 rfl rfl (by first | with_reducible assumption | exact in0_24 | exact in0_60 | decide) dX6_area_100 ?_
              refine lv_i2l hx hb dX6_area_101 rfl ?_
              refine lv_lmul hx hb dX6_area_102 ?_
              refine lv_lsub hx hb dX6_area_103 ?_
              refine lv_ladd hx hb dX6_area_104 ?_
              refine lv_topl (fun y7 ey7 => ?_)
              refine lv_lstore (lv' := [(4, .long y7), (8, .int y6), (7, .int y5), (0, .ref (a 0)), (1, .int p1), (2, .long p2), (6, .int x6_43)]) hx hb dX6_area_105 hl (by decide) rfl (fun ls hl => ?_)
              refine lv_iinc (v := (x6_43 + 1)) (lv' := [(6, .int (x6_43 + 1)), (4, .long y7), (8, .int y6), (7, .int y5), (0, .ref (a 0)), (1, .int p1), (2, .long p2)]) hx hb dX6_area_107 hl (k := 6) rfl rfl (by decide) rfl (fun ls hl => ?_)
              refine lv_goto (tgt := 43) hx hb dX6_area_110 (by decide) ?_
              exact ih43 y7 (x6_43 + 1) (lp_pos h0_43 c4) (lp_dec c4 hf_43) (by subst ey5; subst ey6; subst ey7; rw [hF]; simp only [f_X6_area_L43, if_neg c4]) _ _ hP hD hS ls (lv_sub hl [4, 5, 6, 1, 0] rfl)
        exact K43 25 (0 : Int64) (0 : Int32) (by decide) (lp_fuel (by decide) hn) (by rw [eF]; simp only [f_X6_area, if_neg c1, if_neg c2, if_neg c3]) _ _ hP hD hS ls (lv_sub hl [2, 3, 4, 1, 0] rfl)
      · skip
        refine lv_aload_n hx hb dX6_area_30 rfl (lv_at hl 0 rfl) ?_
        refine lv_iconst (v := (1 : Int32)) hx hb dX6_area_31 (by decide) ?_
        refine cw_i (va_runV (As := [.int (1 : Int32)]) (rest := []) ⟨hx, hb, hml, hown, hts⟩ (c_X6_fail l dC dI a cI cJ xs ys pl lp lq lr (0 : Int32) v1 v2 v3 v4 v5 v6 v7 (1 : Int32) ) (cwV 1 hts (gG_V mG_6_18 mG_6_19 mG_6_20 mG_1_5 (gG_c mG_6_21 gG_G)) rfl rfl rfl hd_X6_fail ⟨Nat.le_of_ble_eq_true rfl, Nat.le_of_ble_eq_true rfl⟩) (wPcV (ci := 10) (q0 := 0) hK hP hD rfl rfl) rfl rfl hl.1 rfl (lv_room (Nat.le_of_ble_eq_true rfl)) dX6_area_32 ⟨Nat.le_of_ble_eq_true rfl, Nat.le_of_ble_eq_true rfl⟩) (wA.sub hD) hS (fun H locs hP hk1 hS => ?_)
        have hD := hD.addr (w1 := (wM a cI cJ xs ys pl lp lq lr ((f_X6_fail (0 : Int32) (1 : Int32)).2) v1 v2 v3 v4 v5 v6 v7)) rfl
        refine lv_i2l hx hb dX6_area_35 rfl ?_
        have hE : (f_X6_area xs ys pl v0 v2 p1 p2) = ((Int32.toInt64 ((f_X6_fail (0 : Int32) (1 : Int32)).1)), ((f_X6_fail (0 : Int32) (1 : Int32)).2)) := (by simp only [f_X6_area, if_neg c1, if_neg c2, if_pos c3])
        exact rw_l hQ hx hb hr hlk (by rw [hE]; exact hP) hS (by rw [hE]) dX6_area_36
    · skip
      refine lv_lconst (v := (0 : Int64)) hx hb dX6_area_22 (by decide) ?_
      have hE : (f_X6_area xs ys pl v0 v2 p1 p2) = ((0 : Int64), (0 : Int32)) := (by simp only [f_X6_area, if_neg c1, if_pos c2])
      exact rw_l hQ hx hb hr hlk (by rw [hE]; exact hP) hS (by rw [hE]) dX6_area_23
/-! X6_line -/
theorem hs_X6_line : yX6_line.cls ≠ "java/lang/invoke/MethodHandle" ∧ yX6_line.cls ≠ "java/lang/invoke/VarHandle" ∧ (parseMethodDescriptor yX6_line.desc).map (fun d => d.parameters.length) = some 2 := by decide +kernel
theorem hd_X6_line : yX6_line.cls = RX6 ∧ yX6_line.cls ≠ "java/lang/invoke/MethodHandle" ∧ yX6_line.cls ≠ "java/lang/invoke/VarHandle" ∧ (parseMethodDescriptor yX6_line.desc).map (fun d => d.parameters.length) = some 2 := ⟨rfl, hs_X6_line⟩
def f_X6_line (xs : Nat → Int32) (ys : Nat → Int32) (lp : Nat → Int64) (lq : Nat → Int64) (lr : Nat → Int64) (v0 : Int32) (v1 : Int32) (v7 : Int32) (p1 : Int32) (p2 : Int32) : Int32 × Int32 × (Nat → Int64) × (Nat → Int64) × (Nat → Int64) × Int32 := (if (f_X6_isPoint v1 p1) = 0 then ((-2 : Int32), (0 : Int32), lp, lq, lr, v7) else (if (f_X6_isPoint v1 p2) = 0 then ((-2 : Int32), (0 : Int32), lp, lq, lr, v7) else (if (f_X6_areEqual xs ys p1 p2) = 0 then (if v7 = (12 : Int32) then ((-3 : Int32), (0 : Int32), lp, lq, lr, v7) else (((v7 + (1 : Int32)) - (1 : Int32)), (0 : Int32), (vp_updL lp (Int32.toNatClampNeg v7) (Int32.toInt64 ((ys (Int32.toNatClampNeg p2)) - (ys (Int32.toNatClampNeg p1))))), (vp_updL lq (Int32.toNatClampNeg v7) (Int32.toInt64 ((xs (Int32.toNatClampNeg p1)) - (xs (Int32.toNatClampNeg p2))))), (vp_updL lr (Int32.toNatClampNeg v7) ((((vp_updL lp (Int32.toNatClampNeg v7) (Int32.toInt64 ((ys (Int32.toNatClampNeg p2)) - (ys (Int32.toNatClampNeg p1))))) (Int32.toNatClampNeg v7)) * (Int32.toInt64 (xs (Int32.toNatClampNeg p1)))) + (((vp_updL lq (Int32.toNatClampNeg v7) (Int32.toInt64 ((xs (Int32.toNatClampNeg p1)) - (xs (Int32.toNatClampNeg p2))))) (Int32.toNatClampNeg v7)) * (Int32.toInt64 (ys (Int32.toNatClampNeg p1)))))), (v7 + (1 : Int32)))) else ((-4 : Int32), (0 : Int32), lp, lq, lr, v7))))
abbrev rm_X6_line : Room := { frames := 1, cells := 0, slots := 0, locals := 22 }
set_option maxHeartbeats 8000000 in
set_option maxRecDepth 100000 in
theorem c_X6_line (l : Launch) (dC : Nat → ClassId) (dI : Nat → Nat → Nat) (a : Nat → Nat) (cI cJ : ClassId) (xs : Nat → Int32) (ys : Nat → Int32) (pl : Nat → Int32) (lp : Nat → Int64) (lq : Nat → Int64) (lr : Nat → Int64) (v0 : Int32) (v1 : Int32) (v2 : Int32) (v3 : Int32) (v4 : Int32) (v5 : Int32) (v6 : Int32) (v7 : Int32) (p1 : Int32) (p2 : Int32) (hv1 : v1 ≤ 60) (hg : 0 ≤ v7) (hl7 : v7 ≤ 12) : Met l yX6_line (Cond.code yX6_line cX6_line 3 (some .int) :: lw_G) rm_X6_line (wPc (dC, dI) (tIJ cI cJ) (wM a cI cJ xs ys pl lp lq lr v0 v1 v2 v3 v4 v5 v6 v7) [.ref (a 0), .int p1, .int p2]) (wQi (dC, dI) (wA (wM a cI cJ xs ys pl lp lq lr v0 v1 v2 v3 v4 v5 v6 v7)) (wM a cI cJ xs ys pl ((f_X6_line xs ys lp lq lr v0 v1 v7 p1 p2).2.2.1) ((f_X6_line xs ys lp lq lr v0 v1 v7 p1 p2).2.2.2.1) ((f_X6_line xs ys lp lq lr v0 v1 v7 p1 p2).2.2.2.2.1) ((f_X6_line xs ys lp lq lr v0 v1 v7 p1 p2).2.1) v1 v2 v3 v4 v5 v6 ((f_X6_line xs ys lp lq lr v0 v1 v7 p1 p2).2.2.2.2.2)) (f_X6_line xs ys lp lq lr v0 v1 v7 p1 p2).1) 0 0 (wA (wM a cI cJ xs ys pl lp lq lr v0 v1 v2 v3 v4 v5 v6 v7)) := by
  refine wm_of (by decide) (Nat.le_of_ble_eq_true rfl) ?_
  intro p e s m args below meth c Q ls hQ hx hb hr hlk hml hown hts hP hK hD hS hl
  have hown : s.vm.findClass RX6 = some m.cls := hown
  have hl : lv_has ls 3 [(0, .ref (a 0)), (1, .int p1), (2, .int p2)] := hl
  generalize hAe : wA (wM a cI cJ xs ys pl lp lq lr v0 v1 v2 v3 v4 v5 v6 v7) = A at hQ hD hS
  refine lv_aload_n hx hb dX6_line_0 rfl (lv_at hl 0 rfl) ?_
  refine lv_iconst (v := (0 : Int32)) hx hb dX6_line_1 (by decide) ?_
  refine va_put (D := (dC, dI)) (ci := 10) (v := .int (0 : Int32)) (ty := .int) (C := RX6) (T := TX6) (N := 14) hx hb hts (fun _ h => gI_wsX60 h) tyX6 tyX6_ok nmX6 hown hK.1 hP hD hS 0 rfl rfl 0 (by decide) (hts _ mG_5_12) (fun _ h9 => h9) rfl (by decide +kernel) rfl rfl (Nat.le_of_ble_eq_true rfl) dX6_line_2 (fun H locs hP hD hS => ?_)
  have hP : va_P (dC, dI) vwCl (wM a cI cJ xs ys pl lp lq lr (0 : Int32) v1 v2 v3 v4 v5 v6 v7) H := hP
  have hD : va_D A (wM a cI cJ xs ys pl lp lq lr (0 : Int32) v1 v2 v3 v4 v5 v6 v7) := hD
  refine lv_aload_n hx hb dX6_line_5 rfl (lv_at hl 0 rfl) ?_
  refine lv_iload_n hx hb dX6_line_6 rfl (lv_at hl 1 rfl) ?_
  refine cp_i (va_runV (As := [.int p1]) (rest := []) ⟨hx, hb, hml, hown, hts⟩ (c_X6_isPoint l dC dI a cI cJ xs ys pl lp lq lr (0 : Int32) v1 v2 v3 v4 v5 v6 v7 p1 ) (cwV 1 hts (gG_V mG_8_5 mG_8_6 mG_8_7 mG_1_5 (gG_c mG_8_8 gG_G)) rfl rfl rfl hd_X6_isPoint ⟨Nat.le_of_ble_eq_true rfl, Nat.le_of_ble_eq_true rfl⟩) (pPcV (ci := 10) (q0 := 0) hK hP rfl rfl) rfl rfl hl.1 rfl (lv_room (Nat.le_of_ble_eq_true rfl)) dX6_line_7 ⟨Nat.le_of_ble_eq_true rfl, Nat.le_of_ble_eq_true rfl⟩) hP hS (fun H hP hS => ?_)
  refine lv_if_eq (tgt := 21) hx hb dX6_line_10 (by decide) (fun c1 => ?_) (fun c1 => ?_)
  · skip
    refine lv_bipush (v := (-2 : Int32)) hx hb dX6_line_21 (by decide) ?_
    have hE : (f_X6_line xs ys lp lq lr v0 v1 v7 p1 p2) = ((-2 : Int32), (0 : Int32), lp, lq, lr, v7) := (by simp only [f_X6_line, if_pos c1])
    exact rw_i hQ hx hb hr hlk (by rw [hE]; exact hP) hS (by rw [hE]) dX6_line_23
  · skip
    have hi1 : vp_in p1 60 := in_isPoint hv1 c1
    refine lv_aload_n hx hb dX6_line_13 rfl (lv_at hl 0 rfl) ?_
    refine lv_iload_n hx hb dX6_line_14 rfl (lv_at hl 2 rfl) ?_
    refine cp_i (va_runV (As := [.int p2]) (rest := []) ⟨hx, hb, hml, hown, hts⟩ (c_X6_isPoint l dC dI a cI cJ xs ys pl lp lq lr (0 : Int32) v1 v2 v3 v4 v5 v6 v7 p2 ) (cwV 1 hts (gG_V mG_8_5 mG_8_6 mG_8_7 mG_1_5 (gG_c mG_8_8 gG_G)) rfl rfl rfl hd_X6_isPoint ⟨Nat.le_of_ble_eq_true rfl, Nat.le_of_ble_eq_true rfl⟩) (pPcV (ci := 10) (q0 := 0) hK hP rfl rfl) rfl rfl hl.1 rfl (lv_room (Nat.le_of_ble_eq_true rfl)) dX6_line_15 ⟨Nat.le_of_ble_eq_true rfl, Nat.le_of_ble_eq_true rfl⟩) hP hS (fun H hP hS => ?_)
    refine lv_if_ne (tgt := 24) hx hb dX6_line_18 (by decide) (fun c2 => ?_) (fun c2 => ?_)
    · skip
      have hi2 : vp_in p2 60 := in_isPoint hv1 c2
      refine lv_aload_n hx hb dX6_line_24 rfl (lv_at hl 0 rfl) ?_
      refine lv_iload_n hx hb dX6_line_25 rfl (lv_at hl 1 rfl) ?_
      refine lv_iload_n hx hb dX6_line_26 rfl (lv_at hl 2 rfl) ?_
      refine cp_i (va_runV (As := [.int p1, .int p2]) (rest := []) ⟨hx, hb, hml, hown, hts⟩ (c_X6_areEqual l dC dI a cI cJ xs ys pl lp lq lr (0 : Int32) v1 v2 v3 v4 v5 v6 v7 p1 p2 (by first | with_reducible assumption | exact in0_24 | exact in0_60 | decide) (by first | with_reducible assumption | exact in0_24 | exact in0_60 | decide)) (cwV 2 hts (gG_V mG_12_0 mG_12_1 mG_12_2 mG_1_5 (gG_c mG_12_3 gG_G)) rfl rfl rfl hd_X6_areEqual ⟨Nat.le_of_ble_eq_true rfl, Nat.le_of_ble_eq_true rfl⟩) (pPcV (ci := 10) (q0 := 0) hK hP rfl rfl) rfl rfl hl.1 rfl (lv_room (Nat.le_of_ble_eq_true rfl)) dX6_line_27 ⟨Nat.le_of_ble_eq_true rfl, Nat.le_of_ble_eq_true rfl⟩) hP hS (fun H hP hS => ?_)
      refine lv_if_eq (tgt := 36) hx hb dX6_line_30 (by decide) (fun c3 => ?_) (fun c3 => ?_)
      · skip
        refine lv_aload_n hx hb dX6_line_36 rfl (lv_at hl 0 rfl) ?_
        refine va_get (D := (dC, dI)) (ci := 10) (v := .int v7) (C := RX6) (T := TX6) (N := 14) hx hb hts (fun _ h => gI_wsX60 h) hown hK.1 hP 0 rfl rfl 10 (by decide) (hts _ mG_27_22) (fun _ h9 => h9) rfl dX6_line_37 ?_
        refine lv_bipush (v := (12 : Int32)) hx hb dX6_line_40 (by decide) ?_
        refine lv_icmp_ne (tgt := 48) hx hb dX6_line_42 (by decide) (fun c4 => ?_) (fun c4 => ?_)
        · skip
          have hJ : vp_in v7 12 := ne_in (by decide) hg hl7 c4
          refine lv_aload_n hx hb dX6_line_48 rfl (lv_at hl 0 rfl) ?_
          refine va_get (D := (dC, dI)) (ci := 10) (v := .ref (a 4)) (C := RX6) (T := TX6) (N := 14) hx hb hts (fun _ h => gI_wsX60 h) hown hK.1 hP 0 rfl rfl 11 (by decide) (hts _ mG_4_12) (fun _ h9 => h9) rfl dX6_line_49 ?_
          refine lv_aload_n hx hb dX6_line_52 rfl (lv_at hl 0 rfl) ?_
          refine va_get (D := (dC, dI)) (ci := 10) (v := .int v7) (C := RX6) (T := TX6) (N := 14) hx hb hts (fun _ h => gI_wsX60 h) hown hK.1 hP 0 rfl rfl 10 (by decide) (hts _ mG_27_22) (fun _ h9 => h9) rfl dX6_line_53 ?_
          refine lv_aload_n hx hb dX6_line_56 rfl (lv_at hl 0 rfl) ?_
          refine va_get (D := (dC, dI)) (ci := 10) (v := .ref (a 2)) (C := RX6) (T := TX6) (N := 14) hx hb hts (fun _ h => gI_wsX60 h) hown hK.1 hP 0 rfl rfl 3 (by decide) (hts _ mG_4_9) (fun _ h9 => h9) rfl dX6_line_57 ?_
          refine lv_iload_n hx hb dX6_line_60 rfl (lv_at hl 2 rfl) ?_
          refine va_iald hx hb hK.1 hP 2 0 rfl rfl (by first | with_reducible assumption | exact in0_24 | exact in0_60 | decide) dX6_line_61 ?_
          refine lv_aload_n hx hb dX6_line_62 rfl (lv_at hl 0 rfl) ?_
          refine va_get (D := (dC, dI)) (ci := 10) (v := .ref (a 2)) (C := RX6) (T := TX6) (N := 14) hx hb hts (fun _ h => gI_wsX60 h) hown hK.1 hP 0 rfl rfl 3 (by decide) (hts _ mG_4_9) (fun _ h9 => h9) rfl dX6_line_63 ?_
          refine lv_iload_n hx hb dX6_line_66 rfl (lv_at hl 1 rfl) ?_
          refine va_iald hx hb hK.1 hP 2 0 rfl rfl (by first | with_reducible assumption | exact in0_24 | exact in0_60 | decide) dX6_line_67 ?_
          refine lv_isub hx hb dX6_line_68 ?_
          refine lv_i2l hx hb dX6_line_69 rfl ?_
          refine lv_topl (fun y5 ey5 => ?_)
          refine va_last hx hb hK.1 hP hD hS 4 1 rfl rfl (by first | with_reducible assumption | exact in0_24 | exact in0_60 | decide) dX6_line_70 (fun H locs hP hD hS => ?_)
          have hP : va_P (dC, dI) vwCl (wM a cI cJ xs ys pl (vp_updL lp (Int32.toNatClampNeg v7) y5) lq lr (0 : Int32) v1 v2 v3 v4 v5 v6 v7) H := hP
          have hD : va_D A (wM a cI cJ xs ys pl (vp_updL lp (Int32.toNatClampNeg v7) y5) lq lr (0 : Int32) v1 v2 v3 v4 v5 v6 v7) := hD
          refine lv_aload_n hx hb dX6_line_71 rfl (lv_at hl 0 rfl) ?_
          refine va_get (D := (dC, dI)) (ci := 10) (v := .ref (a 5)) (C := RX6) (T := TX6) (N := 14) hx hb hts (fun _ h => gI_wsX60 h) hown hK.1 hP 0 rfl rfl 12 (by decide) (hts _ mG_4_13) (fun _ h9 => h9) rfl dX6_line_72 ?_
          refine lv_aload_n hx hb dX6_line_75 rfl (lv_at hl 0 rfl) ?_
          refine va_get (D := (dC, dI)) (ci := 10) (v := .int v7) (C := RX6) (T := TX6) (N := 14) hx hb hts (fun _ h => gI_wsX60 h) hown hK.1 hP 0 rfl rfl 10 (by decide) (hts _ mG_27_22) (fun _ h9 => h9) rfl dX6_line_76 ?_
          refine lv_aload_n hx hb dX6_line_79 rfl (lv_at hl 0 rfl) ?_
          refine va_get (D := (dC, dI)) (ci := 10) (v := .ref (a 1)) (C := RX6) (T := TX6) (N := 14) hx hb hts (fun _ h => gI_wsX60 h) hown hK.1 hP 0 rfl rfl 2 (by decide) (hts _ mG_4_8) (fun _ h9 => h9) rfl dX6_line_80 ?_
          refine lv_iload_n hx hb dX6_line_83 rfl (lv_at hl 1 rfl) ?_
          refine va_iald hx hb hK.1 hP 1 0 rfl rfl (by first | with_reducible assumption | exact in0_24 | exact in0_60 | decide) dX6_line_84 ?_
          refine lv_aload_n hx hb dX6_line_85 rfl (lv_at hl 0 rfl) ?_
          refine va_get (D := (dC, dI)) (ci := 10) (v := .ref (a 1)) (C := RX6) (T := TX6) (N := 14) hx hb hts (fun _ h => gI_wsX60 h) hown hK.1 hP 0 rfl rfl 2 (by decide) (hts _ mG_4_8) (fun _ h9 => h9) rfl dX6_line_86 ?_
          refine lv_iload_n hx hb dX6_line_89 rfl (lv_at hl 2 rfl) ?_
          refine va_iald hx hb hK.1 hP 1 0 rfl rfl (by first | with_reducible assumption | exact in0_24 | exact in0_60 | decide) dX6_line_90 ?_
          refine lv_isub hx hb dX6_line_91 ?_
          refine lv_i2l hx hb dX6_line_92 rfl ?_
          refine lv_topl (fun y6 ey6 => ?_)
          refine va_last hx hb hK.1 hP hD hS 5 1 rfl rfl (by first | with_reducible assumption | exact in0_24 | exact in0_60 | decide) dX6_line_93 (fun H locs hP hD hS => ?_)
          have hP : va_P (dC, dI) vwCl (wM a cI cJ xs ys pl (vp_updL lp (Int32.toNatClampNeg v7) y5) (vp_updL lq (Int32.toNatClampNeg v7) y6) lr (0 : Int32) v1 v2 v3 v4 v5 v6 v7) H := hP
          have hD : va_D A (wM a cI cJ xs ys pl (vp_updL lp (Int32.toNatClampNeg v7) y5) (vp_updL lq (Int32.toNatClampNeg v7) y6) lr (0 : Int32) v1 v2 v3 v4 v5 v6 v7) := hD
          refine lv_aload_n hx hb dX6_line_94 rfl (lv_at hl 0 rfl) ?_
          refine va_get (D := (dC, dI)) (ci := 10) (v := .ref (a 6)) (C := RX6) (T := TX6) (N := 14) hx hb hts (fun _ h => gI_wsX60 h) hown hK.1 hP 0 rfl rfl 13 (by decide) (hts _ mG_4_14) (fun _ h9 => h9) rfl dX6_line_95 ?_
          refine lv_aload_n hx hb dX6_line_98 rfl (lv_at hl 0 rfl) ?_
          refine va_get (D := (dC, dI)) (ci := 10) (v := .int v7) (C := RX6) (T := TX6) (N := 14) hx hb hts (fun _ h => gI_wsX60 h) hown hK.1 hP 0 rfl rfl 10 (by decide) (hts _ mG_27_22) (fun _ h9 => h9) rfl dX6_line_99 ?_
          refine lv_aload_n hx hb dX6_line_102 rfl (lv_at hl 0 rfl) ?_
          refine va_get (D := (dC, dI)) (ci := 10) (v := .ref (a 4)) (C := RX6) (T := TX6) (N := 14) hx hb hts (fun _ h => gI_wsX60 h) hown hK.1 hP 0 rfl rfl 11 (by decide) (hts _ mG_4_12) (fun _ h9 => h9) rfl dX6_line_103 ?_
          refine lv_aload_n hx hb dX6_line_106 rfl (lv_at hl 0 rfl) ?_
          refine va_get (D := (dC, dI)) (ci := 10) (v := .int v7) (C := RX6) (T := TX6) (N := 14) hx hb hts (fun _ h => gI_wsX60 h) hown hK.1 hP 0 rfl rfl 10 (by decide) (hts _ mG_27_22) (fun _ h9 => h9) rfl dX6_line_107 ?_
          refine va_lald hx hb hK.1 hP 4 1 rfl rfl (by first | with_reducible assumption | exact in0_24 | exact in0_60 | decide) dX6_line_110 ?_
          refine lv_aload_n hx hb dX6_line_111 rfl (lv_at hl 0 rfl) ?_
          refine va_get (D := (dC, dI)) (ci := 10) (v := .ref (a 1)) (C := RX6) (T := TX6) (N := 14) hx hb hts (fun _ h => gI_wsX60 h) hown hK.1 hP 0 rfl rfl 2 (by decide) (hts _ mG_4_8) (fun _ h9 => h9) rfl dX6_line_112 ?_
          refine lv_iload_n hx hb dX6_line_115 rfl (lv_at hl 1 rfl) ?_
          refine va_iald hx hb hK.1 hP 1 0 rfl rfl (by first | with_reducible assumption | exact in0_24 | exact in0_60 | decide) dX6_line_116 ?_
          refine lv_i2l hx hb dX6_line_117 rfl ?_
          refine lv_lmul hx hb dX6_line_118 ?_
          refine lv_aload_n hx hb dX6_line_119 rfl (lv_at hl 0 rfl) ?_
          refine va_get (D := (dC, dI)) (ci := 10) (v := .ref (a 5)) (C := RX6) (T := TX6) (N := 14) hx hb hts (fun _ h => gI_wsX60 h) hown hK.1 hP 0 rfl rfl 12 (by decide) (hts _ mG_4_13) (fun _ h9 => h9) rfl dX6_line_120 ?_
          refine lv_aload_n hx hb dX6_line_123 rfl (lv_at hl 0 rfl) ?_
          refine va_get (D := (dC, dI)) (ci := 10) (v := .int v7) (C := RX6) (T := TX6) (N := 14) hx hb hts (fun _ h => gI_wsX60 h) hown hK.1 hP 0 rfl rfl 10 (by decide) (hts _ mG_27_22) (fun _ h9 => h9) rfl dX6_line_124 ?_
          refine va_lald hx hb hK.1 hP 5 1 rfl rfl (by first | with_reducible assumption | exact in0_24 | exact in0_60 | decide) dX6_line_127 ?_
          refine lv_aload_n hx hb dX6_line_128 rfl (lv_at hl 0 rfl) ?_
          refine va_get (D := (dC, dI)) (ci := 10) (v := .ref (a 2)) (C := RX6) (T := TX6) (N := 14) hx hb hts (fun _ h => gI_wsX60 h) hown hK.1 hP 0 rfl rfl 3 (by decide) (hts _ mG_4_9) (fun _ h9 => h9) rfl dX6_line_129 ?_
          refine lv_iload_n hx hb dX6_line_132 rfl (lv_at hl 1 rfl) ?_
          refine va_iald hx hb hK.1 hP 2 0 rfl rfl (by first | with_reducible assumption | exact in0_24 | exact in0_60 | decide) dX6_line_133 ?_
          refine lv_i2l hx hb dX6_line_134 rfl ?_
          refine lv_lmul hx hb dX6_line_135 ?_
          refine lv_ladd hx hb dX6_line_136 ?_
          refine lv_topl (fun y7 ey7 => ?_)
          refine va_last hx hb hK.1 hP hD hS 6 1 rfl rfl (by first | with_reducible assumption | exact in0_24 | exact in0_60 | decide) dX6_line_137 (fun H locs hP hD hS => ?_)
          have hP : va_P (dC, dI) vwCl (wM a cI cJ xs ys pl (vp_updL lp (Int32.toNatClampNeg v7) y5) (vp_updL lq (Int32.toNatClampNeg v7) y6) (vp_updL lr (Int32.toNatClampNeg v7) y7) (0 : Int32) v1 v2 v3 v4 v5 v6 v7) H := hP
          have hD : va_D A (wM a cI cJ xs ys pl (vp_updL lp (Int32.toNatClampNeg v7) y5) (vp_updL lq (Int32.toNatClampNeg v7) y6) (vp_updL lr (Int32.toNatClampNeg v7) y7) (0 : Int32) v1 v2 v3 v4 v5 v6 v7) := hD
          refine lv_aload_n hx hb dX6_line_138 rfl (lv_at hl 0 rfl) ?_
          refine lv_dup hx hb dX6_line_139 rfl ?_
          refine va_get (D := (dC, dI)) (ci := 10) (v := .int v7) (C := RX6) (T := TX6) (N := 14) hx hb hts (fun _ h => gI_wsX60 h) hown hK.1 hP 0 rfl rfl 10 (by decide) (hts _ mG_27_22) (fun _ h9 => h9) rfl dX6_line_140 ?_
          refine lv_iconst (v := (1 : Int32)) hx hb dX6_line_143 (by decide) ?_
          refine lv_iadd hx hb dX6_line_144 ?_
          refine lv_topi (fun y8 ey8 => ?_)
          refine va_put (D := (dC, dI)) (ci := 10) (v := .int y8) (ty := .int) (C := RX6) (T := TX6) (N := 14) hx hb hts (fun _ h => gI_wsX60 h) tyX6 tyX6_ok nmX6 hown hK.1 hP hD hS 0 rfl rfl 10 (by decide) (hts _ mG_27_22) (fun _ h9 => h9) rfl (by decide +kernel) rfl rfl (Nat.le_of_ble_eq_true rfl) dX6_line_145 (fun H locs hP hD hS => ?_)
          have hP : va_P (dC, dI) vwCl (wM a cI cJ xs ys pl (vp_updL lp (Int32.toNatClampNeg v7) y5) (vp_updL lq (Int32.toNatClampNeg v7) y6) (vp_updL lr (Int32.toNatClampNeg v7) y7) (0 : Int32) v1 v2 v3 v4 v5 v6 y8) H := hP
          have hD : va_D A (wM a cI cJ xs ys pl (vp_updL lp (Int32.toNatClampNeg v7) y5) (vp_updL lq (Int32.toNatClampNeg v7) y6) (vp_updL lr (Int32.toNatClampNeg v7) y7) (0 : Int32) v1 v2 v3 v4 v5 v6 y8) := hD
          refine lv_aload_n hx hb dX6_line_148 rfl (lv_at hl 0 rfl) ?_
          refine va_get (D := (dC, dI)) (ci := 10) (v := .int y8) (C := RX6) (T := TX6) (N := 14) hx hb hts (fun _ h => gI_wsX60 h) hown hK.1 hP 0 rfl rfl 10 (by decide) (hts _ mG_27_22) (fun _ h9 => h9) rfl dX6_line_149 ?_
          refine lv_iconst (v := (1 : Int32)) hx hb dX6_line_152 (by decide) ?_
          refine lv_isub hx hb dX6_line_153 ?_
          have hE : (f_X6_line xs ys lp lq lr v0 v1 v7 p1 p2) = ((y8 - (1 : Int32)), (0 : Int32), (vp_updL lp (Int32.toNatClampNeg v7) y5), (vp_updL lq (Int32.toNatClampNeg v7) y6), (vp_updL lr (Int32.toNatClampNeg v7) y7), y8) := (by subst ey5; subst ey6; subst ey7; subst ey8; simp only [f_X6_line, if_neg c1, if_neg c2, if_pos c3, if_neg c4])
          exact rw_i hQ hx hb hr hlk (by rw [hE]; exact hP) hS (by rw [hE]) dX6_line_154
        · skip
          refine lv_bipush (v := (-3 : Int32)) hx hb dX6_line_45 (by decide) ?_
          have hE : (f_X6_line xs ys lp lq lr v0 v1 v7 p1 p2) = ((-3 : Int32), (0 : Int32), lp, lq, lr, v7) := (by simp only [f_X6_line, if_neg c1, if_neg c2, if_pos c3, if_pos c4])
          exact rw_i hQ hx hb hr hlk (by rw [hE]; exact hP) hS (by rw [hE]) dX6_line_47
      · skip
        refine lv_bipush (v := (-4 : Int32)) hx hb dX6_line_33 (by decide) ?_
        have hE : (f_X6_line xs ys lp lq lr v0 v1 v7 p1 p2) = ((-4 : Int32), (0 : Int32), lp, lq, lr, v7) := (by simp only [f_X6_line, if_neg c1, if_neg c2, if_neg c3])
        exact rw_i hQ hx hb hr hlk (by rw [hE]; exact hP) hS (by rw [hE]) dX6_line_35
    · skip
      refine lv_bipush (v := (-2 : Int32)) hx hb dX6_line_21 (by decide) ?_
      have hE : (f_X6_line xs ys lp lq lr v0 v1 v7 p1 p2) = ((-2 : Int32), (0 : Int32), lp, lq, lr, v7) := (by simp only [f_X6_line, if_neg c1, if_pos c2])
      exact rw_i hQ hx hb hr hlk (by rw [hE]; exact hP) hS (by rw [hE]) dX6_line_23
/-! X6_point -/
theorem hs_X6_point : yX6_point.cls ≠ "java/lang/invoke/MethodHandle" ∧ yX6_point.cls ≠ "java/lang/invoke/VarHandle" ∧ (parseMethodDescriptor yX6_point.desc).map (fun d => d.parameters.length) = some 3 := by decide +kernel
theorem hd_X6_point : yX6_point.cls = RX6 ∧ yX6_point.cls ≠ "java/lang/invoke/MethodHandle" ∧ yX6_point.cls ≠ "java/lang/invoke/VarHandle" ∧ (parseMethodDescriptor yX6_point.desc).map (fun d => d.parameters.length) = some 3 := ⟨rfl, hs_X6_point⟩
def f_X6_point_J64 (xs : Nat → Int32) (ys : Nat → Int32) (v0 : Int32) (v1 : Int32) (p1 : Int64) (p2 : Int64) (p3 : Int64) (x7_64 : Int32) : Int32 × Int32 × (Nat → Int32) × (Nat → Int32) × Int32 := (if x7_64 = 0 then ((-2 : Int32), (0 : Int32), xs, ys, v1) else (if (lg_cmp p1 (-800 : Int64)) < 0 then ((-2 : Int32), (0 : Int32), xs, ys, v1) else (if 0 < (lg_cmp p1 (800 : Int64)) then ((-2 : Int32), (0 : Int32), xs, ys, v1) else (if (lg_cmp p2 (-800 : Int64)) < 0 then ((-2 : Int32), (0 : Int32), xs, ys, v1) else (if (lg_cmp p2 (800 : Int64)) ≤ 0 then (if v1 = (60 : Int32) then ((-3 : Int32), (0 : Int32), xs, ys, v1) else (((v1 + (1 : Int32)) - (1 : Int32)), (0 : Int32), (upd xs (Int32.toNatClampNeg v1) (Int64.toInt32 (p1 * ((12 : Int64) / p3)))), (upd ys (Int32.toNatClampNeg v1) (Int64.toInt32 (p2 * ((12 : Int64) / p3)))), (v1 + (1 : Int32)))) else ((-2 : Int32), (0 : Int32), xs, ys, v1))))))
def f_X6_point (xs : Nat → Int32) (ys : Nat → Int32) (v0 : Int32) (v1 : Int32) (p1 : Int64) (p2 : Int64) (p3 : Int64) : Int32 × Int32 × (Nat → Int32) × (Nat → Int32) × Int32 := (if (lg_cmp p3 (1 : Int64)) = 0 then (f_X6_point_J64 xs ys v0 v1 p1 p2 p3  (1 : Int32)) else (if (lg_cmp p3 (2 : Int64)) = 0 then (f_X6_point_J64 xs ys v0 v1 p1 p2 p3  (1 : Int32)) else (if (lg_cmp p3 (3 : Int64)) = 0 then (f_X6_point_J64 xs ys v0 v1 p1 p2 p3  (1 : Int32)) else (if (lg_cmp p3 (4 : Int64)) = 0 then (f_X6_point_J64 xs ys v0 v1 p1 p2 p3  (1 : Int32)) else (if (lg_cmp p3 (6 : Int64)) = 0 then (f_X6_point_J64 xs ys v0 v1 p1 p2 p3  (1 : Int32)) else (if (lg_cmp p3 (12 : Int64)) = 0 then (f_X6_point_J64 xs ys v0 v1 p1 p2 p3  (1 : Int32)) else (f_X6_point_J64 xs ys v0 v1 p1 p2 p3  (0 : Int32))))))))
abbrev rm_X6_point : Room := { frames := 0, cells := 0, slots := 0, locals := 0 }
set_option maxHeartbeats 8000000 in
set_option maxRecDepth 100000 in
theorem c_X6_point (l : Launch) (dC : Nat → ClassId) (dI : Nat → Nat → Nat) (a : Nat → Nat) (cI cJ : ClassId) (xs : Nat → Int32) (ys : Nat → Int32) (pl : Nat → Int32) (lp : Nat → Int64) (lq : Nat → Int64) (lr : Nat → Int64) (v0 : Int32) (v1 : Int32) (v2 : Int32) (v3 : Int32) (v4 : Int32) (v5 : Int32) (v6 : Int32) (v7 : Int32) (p1 : Int64) (p2 : Int64) (p3 : Int64) (hg : 0 ≤ v1) (hv1 : v1 ≤ 60) : Met l yX6_point (Cond.code yX6_point cX6_point 8 (some .int) :: lw_G) rm_X6_point (wPc (dC, dI) (tIJ cI cJ) (wM a cI cJ xs ys pl lp lq lr v0 v1 v2 v3 v4 v5 v6 v7) [.ref (a 0), .long p1, .long p2, .long p3]) (wQi (dC, dI) (wA (wM a cI cJ xs ys pl lp lq lr v0 v1 v2 v3 v4 v5 v6 v7)) (wM a cI cJ ((f_X6_point xs ys v0 v1 p1 p2 p3).2.2.1) ((f_X6_point xs ys v0 v1 p1 p2 p3).2.2.2.1) pl lp lq lr ((f_X6_point xs ys v0 v1 p1 p2 p3).2.1) ((f_X6_point xs ys v0 v1 p1 p2 p3).2.2.2.2) v2 v3 v4 v5 v6 v7) (f_X6_point xs ys v0 v1 p1 p2 p3).1) 0 0 (wA (wM a cI cJ xs ys pl lp lq lr v0 v1 v2 v3 v4 v5 v6 v7)) := by
  refine wm_of (by decide) (Nat.le_of_ble_eq_true rfl) ?_
  intro p e s m args below meth c Q ls hQ hx hb hr hlk hml hown hts hP hK hD hS hl
  have hown : s.vm.findClass RX6 = some m.cls := hown
  have hl : lv_has ls 8 [(0, .ref (a 0)), (1, .long p1), (3, .long p2), (5, .long p3)] := hl
  generalize hAe : wA (wM a cI cJ xs ys pl lp lq lr v0 v1 v2 v3 v4 v5 v6 v7) = A at hQ hD hS
  obtain ⟨F, eF⟩ : ∃ F, F = (f_X6_point xs ys v0 v1 p1 p2 p3) := ⟨_, rfl⟩
  refine lv_aload_n hx hb dX6_point_0 rfl (lv_at hl 0 rfl) ?_
  refine lv_iconst (v := (0 : Int32)) hx hb dX6_point_1 (by decide) ?_
  refine va_put (D := (dC, dI)) (ci := 10) (v := .int (0 : Int32)) (ty := .int) (C := RX6) (T := TX6) (N := 14) hx hb hts (fun _ h => gI_wsX60 h) tyX6 tyX6_ok nmX6 hown hK.1 hP hD hS 0 rfl rfl 0 (by decide) (hts _ mG_5_12) (fun _ h9 => h9) rfl (by decide +kernel) rfl rfl (Nat.le_of_ble_eq_true rfl) dX6_point_2 (fun H locs hP hD hS => ?_)
  have hP : va_P (dC, dI) vwCl (wM a cI cJ xs ys pl lp lq lr (0 : Int32) v1 v2 v3 v4 v5 v6 v7) H := hP
  have hD : va_D A (wM a cI cJ xs ys pl lp lq lr (0 : Int32) v1 v2 v3 v4 v5 v6 v7) := hD
  have K64 : ∀ (x7_64 : Int32), (x7_64 = 0 ∨ ¬ p3 = 0) → F = f_X6_point_J64 xs ys v0 v1 p1 p2 p3  x7_64 → ∀ (H : Heap) (locs : List Loc), va_P (dC, dI) vwCl (wM a cI cJ xs ys pl lp lq lr (0 : Int32) v1 v2 v3 v4 v5 v6 v7) H → va_D A (wM a cI cJ xs ys pl lp lq lr (0 : Int32) v1 v2 v3 v4 v5 v6 v7) → va_S A s.heap H locs → ∀ (ls : Array Slot), lv_has ls 8 [(0, .ref (a 0)), (1, .long p1), (3, .long p2), (5, .long p3), (7, .int x7_64)] → W p l e rm_X6_point s m args below meth c H locs 0 0 Q (F0 m 64 ls []) := by
    intro x7_64 hz7 hF H locs hP hD hS ls hl
    refine lv_iload hx hb dX6_point_64 (lv_at hl 4 rfl) ?_
    refine lv_if_eq (tgt := 101) hx hb dX6_point_66 (by decide) (fun c1 => ?_) (fun c1 => ?_)
    · skip
      refine lv_bipush (v := (-2 : Int32)) hx hb dX6_point_101 (by decide) ?_
      have hE : F = ((-2 : Int32), (0 : Int32), xs, ys, v1) := (by rw [hF]; simp only [f_X6_point_J64, if_pos c1])
      rw [eF] at hE
      exact rw_i hQ hx hb hr hlk (by rw [hE]; exact hP) hS (by rw [hE]) dX6_point_103
    · skip
      have hz : ¬ p3 = 0 := hz7.resolve_left c1
      refine lv_lload_n hx hb dX6_point_69 rfl (lv_at hl 1 rfl) ?_
      refine lv_ldc2 hx hb hown (hts _ mG_5_18) dX6_point_70 ?_
      refine W.lcmp hx hb dX6_point_73 ?_
      refine lv_if_lt (tgt := 101) hx hb dX6_point_74 (by decide) (fun c2 => ?_) (fun c2 => ?_)
      · skip
        refine lv_bipush (v := (-2 : Int32)) hx hb dX6_point_101 (by decide) ?_
        have hE : F = ((-2 : Int32), (0 : Int32), xs, ys, v1) := (by rw [hF]; simp only [f_X6_point_J64, if_neg c1, if_pos c2])
        rw [eF] at hE
        exact rw_i hQ hx hb hr hlk (by rw [hE]; exact hP) hS (by rw [hE]) dX6_point_103
      · skip
        refine lv_lload_n hx hb dX6_point_77 rfl (lv_at hl 1 rfl) ?_
        refine lv_ldc2 hx hb hown (hts _ mG_5_19) dX6_point_78 ?_
        refine W.lcmp hx hb dX6_point_81 ?_
        refine lv_if_gt (tgt := 101) hx hb dX6_point_82 (by decide) (fun c3 => ?_) (fun c3 => ?_)
        · skip
          refine lv_bipush (v := (-2 : Int32)) hx hb dX6_point_101 (by decide) ?_
          have hE : F = ((-2 : Int32), (0 : Int32), xs, ys, v1) := (by rw [hF]; simp only [f_X6_point_J64, if_neg c1, if_neg c2, if_pos c3])
          rw [eF] at hE
          exact rw_i hQ hx hb hr hlk (by rw [hE]; exact hP) hS (by rw [hE]) dX6_point_103
        · skip
          refine lv_lload_n hx hb dX6_point_85 rfl (lv_at hl 2 rfl) ?_
          refine lv_ldc2 hx hb hown (hts _ mG_5_18) dX6_point_86 ?_
          refine W.lcmp hx hb dX6_point_89 ?_
          refine lv_if_lt (tgt := 101) hx hb dX6_point_90 (by decide) (fun c4 => ?_) (fun c4 => ?_)
          · skip
            refine lv_bipush (v := (-2 : Int32)) hx hb dX6_point_101 (by decide) ?_
            have hE : F = ((-2 : Int32), (0 : Int32), xs, ys, v1) := (by rw [hF]; simp only [f_X6_point_J64, if_neg c1, if_neg c2, if_neg c3, if_pos c4])
            rw [eF] at hE
            exact rw_i hQ hx hb hr hlk (by rw [hE]; exact hP) hS (by rw [hE]) dX6_point_103
          · skip
            refine lv_lload_n hx hb dX6_point_93 rfl (lv_at hl 2 rfl) ?_
            refine lv_ldc2 hx hb hown (hts _ mG_5_19) dX6_point_94 ?_
            refine W.lcmp hx hb dX6_point_97 ?_
            refine lv_if_le (tgt := 104) hx hb dX6_point_98 (by decide) (fun c5 => ?_) (fun c5 => ?_)
            · skip
              refine lv_aload_n hx hb dX6_point_104 rfl (lv_at hl 0 rfl) ?_
              refine va_get (D := (dC, dI)) (ci := 10) (v := .int v1) (C := RX6) (T := TX6) (N := 14) hx hb hts (fun _ h => gI_wsX60 h) hown hK.1 hP 0 rfl rfl 1 (by decide) (hts _ mG_5_20) (fun _ h9 => h9) rfl dX6_point_105 ?_
              refine lv_bipush (v := (60 : Int32)) hx hb dX6_point_108 (by decide) ?_
              refine lv_icmp_ne (tgt := 116) hx hb dX6_point_110 (by decide) (fun c6 => ?_) (fun c6 => ?_)
              · skip
                have hJ : vp_in v1 60 := ne_in (by decide) hg hv1 c6
                refine lv_aload_n hx hb dX6_point_116 rfl (lv_at hl 0 rfl) ?_
                refine va_get (D := (dC, dI)) (ci := 10) (v := .ref (a 1)) (C := RX6) (T := TX6) (N := 14) hx hb hts (fun _ h => gI_wsX60 h) hown hK.1 hP 0 rfl rfl 2 (by decide) (hts _ mG_4_8) (fun _ h9 => h9) rfl dX6_point_117 ?_
                refine lv_aload_n hx hb dX6_point_120 rfl (lv_at hl 0 rfl) ?_
                refine va_get (D := (dC, dI)) (ci := 10) (v := .int v1) (C := RX6) (T := TX6) (N := 14) hx hb hts (fun _ h => gI_wsX60 h) hown hK.1 hP 0 rfl rfl 1 (by decide) (hts _ mG_5_20) (fun _ h9 => h9) rfl dX6_point_121 ?_
                refine lv_lload_n hx hb dX6_point_124 rfl (lv_at hl 1 rfl) ?_
                refine lv_ldc2 hx hb hown (hts _ mG_5_17) dX6_point_125 ?_
                refine lv_lload hx hb dX6_point_128 (lv_at hl 3 rfl) ?_
                refine lv_ldiv hx hb dX6_point_130 (by first | with_reducible assumption | exact in0_24 | exact in0_60 | decide) ?_
                refine lv_lmul hx hb dX6_point_131 ?_
                refine lv_l2i hx hb dX6_point_132 rfl ?_
                refine lv_topi (fun y7 ey7 => ?_)
                refine va_iast hx hb hK.1 hP hD hS 1 0 rfl rfl (by first | with_reducible assumption | exact in0_24 | exact in0_60 | decide) dX6_point_133 (fun H locs hP hD hS => ?_)
                have hP : va_P (dC, dI) vwCl (wM a cI cJ (upd xs (Int32.toNatClampNeg v1) y7) ys pl lp lq lr (0 : Int32) v1 v2 v3 v4 v5 v6 v7) H := hP
                have hD : va_D A (wM a cI cJ (upd xs (Int32.toNatClampNeg v1) y7) ys pl lp lq lr (0 : Int32) v1 v2 v3 v4 v5 v6 v7) := hD
                refine lv_aload_n hx hb dX6_point_134 rfl (lv_at hl 0 rfl) ?_
                refine va_get (D := (dC, dI)) (ci := 10) (v := .ref (a 2)) (C := RX6) (T := TX6) (N := 14) hx hb hts (fun _ h => gI_wsX60 h) hown hK.1 hP 0 rfl rfl 3 (by decide) (hts _ mG_4_9) (fun _ h9 => h9) rfl dX6_point_135 ?_
                refine lv_aload_n hx hb dX6_point_138 rfl (lv_at hl 0 rfl) ?_
                refine va_get (D := (dC, dI)) (ci := 10) (v := .int v1) (C := RX6) (T := TX6) (N := 14) hx hb hts (fun _ h => gI_wsX60 h) hown hK.1 hP 0 rfl rfl 1 (by decide) (hts _ mG_5_20) (fun _ h9 => h9) rfl dX6_point_139 ?_
                refine lv_lload_n hx hb dX6_point_142 rfl (lv_at hl 2 rfl) ?_
                refine lv_ldc2 hx hb hown (hts _ mG_5_17) dX6_point_143 ?_
                refine lv_lload hx hb dX6_point_146 (lv_at hl 3 rfl) ?_
                refine lv_ldiv hx hb dX6_point_148 (by first | with_reducible assumption | exact in0_24 | exact in0_60 | decide) ?_
                refine lv_lmul hx hb dX6_point_149 ?_
                refine lv_l2i hx hb dX6_point_150 rfl ?_
                refine lv_topi (fun y8 ey8 => ?_)
                refine va_iast hx hb hK.1 hP hD hS 2 0 rfl rfl (by first | with_reducible assumption | exact in0_24 | exact in0_60 | decide) dX6_point_151 (fun H locs hP hD hS => ?_)
                have hP : va_P (dC, dI) vwCl (wM a cI cJ (upd xs (Int32.toNatClampNeg v1) y7) (upd ys (Int32.toNatClampNeg v1) y8) pl lp lq lr (0 : Int32) v1 v2 v3 v4 v5 v6 v7) H := hP
                have hD : va_D A (wM a cI cJ (upd xs (Int32.toNatClampNeg v1) y7) (upd ys (Int32.toNatClampNeg v1) y8) pl lp lq lr (0 : Int32) v1 v2 v3 v4 v5 v6 v7) := hD
                refine lv_aload_n hx hb dX6_point_152 rfl (lv_at hl 0 rfl) ?_
                refine lv_dup hx hb dX6_point_153 rfl ?_
                refine va_get (D := (dC, dI)) (ci := 10) (v := .int v1) (C := RX6) (T := TX6) (N := 14) hx hb hts (fun _ h => gI_wsX60 h) hown hK.1 hP 0 rfl rfl 1 (by decide) (hts _ mG_5_20) (fun _ h9 => h9) rfl dX6_point_154 ?_
                refine lv_iconst (v := (1 : Int32)) hx hb dX6_point_157 (by decide) ?_
                refine lv_iadd hx hb dX6_point_158 ?_
                refine lv_topi (fun y9 ey9 => ?_)
                refine va_put (D := (dC, dI)) (ci := 10) (v := .int y9) (ty := .int) (C := RX6) (T := TX6) (N := 14) hx hb hts (fun _ h => gI_wsX60 h) tyX6 tyX6_ok nmX6 hown hK.1 hP hD hS 0 rfl rfl 1 (by decide) (hts _ mG_5_20) (fun _ h9 => h9) rfl (by decide +kernel) rfl rfl (Nat.le_of_ble_eq_true rfl) dX6_point_159 (fun H locs hP hD hS => ?_)
                have hP : va_P (dC, dI) vwCl (wM a cI cJ (upd xs (Int32.toNatClampNeg v1) y7) (upd ys (Int32.toNatClampNeg v1) y8) pl lp lq lr (0 : Int32) y9 v2 v3 v4 v5 v6 v7) H := hP
                have hD : va_D A (wM a cI cJ (upd xs (Int32.toNatClampNeg v1) y7) (upd ys (Int32.toNatClampNeg v1) y8) pl lp lq lr (0 : Int32) y9 v2 v3 v4 v5 v6 v7) := hD
                refine lv_aload_n hx hb dX6_point_162 rfl (lv_at hl 0 rfl) ?_
                refine va_get (D := (dC, dI)) (ci := 10) (v := .int y9) (C := RX6) (T := TX6) (N := 14) hx hb hts (fun _ h => gI_wsX60 h) hown hK.1 hP 0 rfl rfl 1 (by decide) (hts _ mG_5_20) (fun _ h9 => h9) rfl dX6_point_163 ?_
                refine lv_iconst (v := (1 : Int32)) hx hb dX6_point_166 (by decide) ?_
                refine lv_isub hx hb dX6_point_167 ?_
                have hE : F = ((y9 - (1 : Int32)), (0 : Int32), (upd xs (Int32.toNatClampNeg v1) y7), (upd ys (Int32.toNatClampNeg v1) y8), y9) := (by subst ey7; subst ey8; subst ey9; rw [hF]; simp only [f_X6_point_J64, if_neg c1, if_neg c2, if_neg c3, if_neg c4, if_pos c5, if_neg c6])
                rw [eF] at hE
                exact rw_i hQ hx hb hr hlk (by rw [hE]; exact hP) hS (by rw [hE]) dX6_point_168
              · skip
                refine lv_bipush (v := (-3 : Int32)) hx hb dX6_point_113 (by decide) ?_
                have hE : F = ((-3 : Int32), (0 : Int32), xs, ys, v1) := (by rw [hF]; simp only [f_X6_point_J64, if_neg c1, if_neg c2, if_neg c3, if_neg c4, if_pos c5, if_pos c6])
                rw [eF] at hE
                exact rw_i hQ hx hb hr hlk (by rw [hE]; exact hP) hS (by rw [hE]) dX6_point_115
            · skip
              refine lv_bipush (v := (-2 : Int32)) hx hb dX6_point_101 (by decide) ?_
              have hE : F = ((-2 : Int32), (0 : Int32), xs, ys, v1) := (by rw [hF]; simp only [f_X6_point_J64, if_neg c1, if_neg c2, if_neg c3, if_neg c4, if_neg c5])
              rw [eF] at hE
              exact rw_i hQ hx hb hr hlk (by rw [hE]; exact hP) hS (by rw [hE]) dX6_point_103
  refine lv_lload hx hb dX6_point_5 (lv_at hl 3 rfl) ?_
  refine lv_lconst (v := (1 : Int64)) hx hb dX6_point_7 (by decide) ?_
  refine W.lcmp hx hb dX6_point_8 ?_
  refine lv_if_eq (tgt := 57) hx hb dX6_point_9 (by decide) (fun c10 => ?_) (fun c10 => ?_)
  · skip
    refine lv_iconst (v := (1 : Int32)) hx hb dX6_point_57 (by decide) ?_
    refine lv_goto (tgt := 62) hx hb dX6_point_58 (by decide) ?_
    refine lv_istore (lv' := [(7, .int (1 : Int32)), (0, .ref (a 0)), (1, .long p1), (3, .long p2), (5, .long p3)]) hx hb dX6_point_62 hl (by decide) rfl (fun ls hl => ?_)
    exact K64 (1 : Int32) (by first | exact Or.inl rfl | (refine Or.inr (fun h => ?_); subst h; first | exact absurd ‹lg_cmp 0 1 = 0› (by decide) | exact absurd ‹lg_cmp 0 2 = 0› (by decide) | exact absurd ‹lg_cmp 0 3 = 0› (by decide) | exact absurd ‹lg_cmp 0 4 = 0› (by decide) | exact absurd ‹lg_cmp 0 6 = 0› (by decide) | exact absurd ‹lg_cmp 0 12 = 0› (by decide))) (by rw [eF]; simp only [f_X6_point, if_pos c10]) _ _ hP hD hS ls (lv_sub hl [1, 2, 3, 4, 0] rfl)
  · skip
    refine lv_lload hx hb dX6_point_12 (lv_at hl 3 rfl) ?_
    refine lv_ldc2 hx hb hown (hts _ mG_5_13) dX6_point_14 ?_
    refine W.lcmp hx hb dX6_point_17 ?_
    refine lv_if_eq (tgt := 57) hx hb dX6_point_18 (by decide) (fun c11 => ?_) (fun c11 => ?_)
    · skip
      refine lv_iconst (v := (1 : Int32)) hx hb dX6_point_57 (by decide) ?_
      refine lv_goto (tgt := 62) hx hb dX6_point_58 (by decide) ?_
      refine lv_istore (lv' := [(7, .int (1 : Int32)), (0, .ref (a 0)), (1, .long p1), (3, .long p2), (5, .long p3)]) hx hb dX6_point_62 hl (by decide) rfl (fun ls hl => ?_)
      exact K64 (1 : Int32) (by first | exact Or.inl rfl | (refine Or.inr (fun h => ?_); subst h; first | exact absurd ‹lg_cmp 0 1 = 0› (by decide) | exact absurd ‹lg_cmp 0 2 = 0› (by decide) | exact absurd ‹lg_cmp 0 3 = 0› (by decide) | exact absurd ‹lg_cmp 0 4 = 0› (by decide) | exact absurd ‹lg_cmp 0 6 = 0› (by decide) | exact absurd ‹lg_cmp 0 12 = 0› (by decide))) (by rw [eF]; simp only [f_X6_point, if_neg c10, if_pos c11]) _ _ hP hD hS ls (lv_sub hl [1, 2, 3, 4, 0] rfl)
    · skip
      refine lv_lload hx hb dX6_point_21 (lv_at hl 3 rfl) ?_
      refine lv_ldc2 hx hb hown (hts _ mG_5_14) dX6_point_23 ?_
      refine W.lcmp hx hb dX6_point_26 ?_
      refine lv_if_eq (tgt := 57) hx hb dX6_point_27 (by decide) (fun c12 => ?_) (fun c12 => ?_)
      · skip
        refine lv_iconst (v := (1 : Int32)) hx hb dX6_point_57 (by decide) ?_
        refine lv_goto (tgt := 62) hx hb dX6_point_58 (by decide) ?_
        refine lv_istore (lv' := [(7, .int (1 : Int32)), (0, .ref (a 0)), (1, .long p1), (3, .long p2), (5, .long p3)]) hx hb dX6_point_62 hl (by decide) rfl (fun ls hl => ?_)
        exact K64 (1 : Int32) (by first | exact Or.inl rfl | (refine Or.inr (fun h => ?_); subst h; first | exact absurd ‹lg_cmp 0 1 = 0› (by decide) | exact absurd ‹lg_cmp 0 2 = 0› (by decide) | exact absurd ‹lg_cmp 0 3 = 0› (by decide) | exact absurd ‹lg_cmp 0 4 = 0› (by decide) | exact absurd ‹lg_cmp 0 6 = 0› (by decide) | exact absurd ‹lg_cmp 0 12 = 0› (by decide))) (by rw [eF]; simp only [f_X6_point, if_neg c10, if_neg c11, if_pos c12]) _ _ hP hD hS ls (lv_sub hl [1, 2, 3, 4, 0] rfl)
      · skip
        refine lv_lload hx hb dX6_point_30 (lv_at hl 3 rfl) ?_
        refine lv_ldc2 hx hb hown (hts _ mG_5_15) dX6_point_32 ?_
        refine W.lcmp hx hb dX6_point_35 ?_
        refine lv_if_eq (tgt := 57) hx hb dX6_point_36 (by decide) (fun c13 => ?_) (fun c13 => ?_)
        · skip
          refine lv_iconst (v := (1 : Int32)) hx hb dX6_point_57 (by decide) ?_
          refine lv_goto (tgt := 62) hx hb dX6_point_58 (by decide) ?_
          refine lv_istore (lv' := [(7, .int (1 : Int32)), (0, .ref (a 0)), (1, .long p1), (3, .long p2), (5, .long p3)]) hx hb dX6_point_62 hl (by decide) rfl (fun ls hl => ?_)
          exact K64 (1 : Int32) (by first | exact Or.inl rfl | (refine Or.inr (fun h => ?_); subst h; first | exact absurd ‹lg_cmp 0 1 = 0› (by decide) | exact absurd ‹lg_cmp 0 2 = 0› (by decide) | exact absurd ‹lg_cmp 0 3 = 0› (by decide) | exact absurd ‹lg_cmp 0 4 = 0› (by decide) | exact absurd ‹lg_cmp 0 6 = 0› (by decide) | exact absurd ‹lg_cmp 0 12 = 0› (by decide))) (by rw [eF]; simp only [f_X6_point, if_neg c10, if_neg c11, if_neg c12, if_pos c13]) _ _ hP hD hS ls (lv_sub hl [1, 2, 3, 4, 0] rfl)
        · skip
          refine lv_lload hx hb dX6_point_39 (lv_at hl 3 rfl) ?_
          refine lv_ldc2 hx hb hown (hts _ mG_5_16) dX6_point_41 ?_
          refine W.lcmp hx hb dX6_point_44 ?_
          refine lv_if_eq (tgt := 57) hx hb dX6_point_45 (by decide) (fun c14 => ?_) (fun c14 => ?_)
          · skip
            refine lv_iconst (v := (1 : Int32)) hx hb dX6_point_57 (by decide) ?_
            refine lv_goto (tgt := 62) hx hb dX6_point_58 (by decide) ?_
            refine lv_istore (lv' := [(7, .int (1 : Int32)), (0, .ref (a 0)), (1, .long p1), (3, .long p2), (5, .long p3)]) hx hb dX6_point_62 hl (by decide) rfl (fun ls hl => ?_)
            exact K64 (1 : Int32) (by first | exact Or.inl rfl | (refine Or.inr (fun h => ?_); subst h; first | exact absurd ‹lg_cmp 0 1 = 0› (by decide) | exact absurd ‹lg_cmp 0 2 = 0› (by decide) | exact absurd ‹lg_cmp 0 3 = 0› (by decide) | exact absurd ‹lg_cmp 0 4 = 0› (by decide) | exact absurd ‹lg_cmp 0 6 = 0› (by decide) | exact absurd ‹lg_cmp 0 12 = 0› (by decide))) (by rw [eF]; simp only [f_X6_point, if_neg c10, if_neg c11, if_neg c12, if_neg c13, if_pos c14]) _ _ hP hD hS ls (lv_sub hl [1, 2, 3, 4, 0] rfl)
          · skip
            refine lv_lload hx hb dX6_point_48 (lv_at hl 3 rfl) ?_
            refine lv_ldc2 hx hb hown (hts _ mG_5_17) dX6_point_50 ?_
            refine W.lcmp hx hb dX6_point_53 ?_
            refine lv_if_ne (tgt := 61) hx hb dX6_point_54 (by decide) (fun c15 => ?_) (fun c15 => ?_)
            · skip
              refine lv_iconst (v := (0 : Int32)) hx hb dX6_point_61 (by decide) ?_
              refine lv_istore (lv' := [(7, .int (0 : Int32)), (0, .ref (a 0)), (1, .long p1), (3, .long p2), (5, .long p3)]) hx hb dX6_point_62 hl (by decide) rfl (fun ls hl => ?_)
              exact K64 (0 : Int32) (by first | exact Or.inl rfl | (refine Or.inr (fun h => ?_); subst h; first | exact absurd ‹lg_cmp 0 1 = 0› (by decide) | exact absurd ‹lg_cmp 0 2 = 0› (by decide) | exact absurd ‹lg_cmp 0 3 = 0› (by decide) | exact absurd ‹lg_cmp 0 4 = 0› (by decide) | exact absurd ‹lg_cmp 0 6 = 0› (by decide) | exact absurd ‹lg_cmp 0 12 = 0› (by decide))) (by rw [eF]; simp only [f_X6_point, if_neg c10, if_neg c11, if_neg c12, if_neg c13, if_neg c14, if_neg c15]) _ _ hP hD hS ls (lv_sub hl [1, 2, 3, 4, 0] rfl)
            · skip
              refine lv_iconst (v := (1 : Int32)) hx hb dX6_point_57 (by decide) ?_
              refine lv_goto (tgt := 62) hx hb dX6_point_58 (by decide) ?_
              refine lv_istore (lv' := [(7, .int (1 : Int32)), (0, .ref (a 0)), (1, .long p1), (3, .long p2), (5, .long p3)]) hx hb dX6_point_62 hl (by decide) rfl (fun ls hl => ?_)
              exact K64 (1 : Int32) (by first | exact Or.inl rfl | (refine Or.inr (fun h => ?_); subst h; first | exact absurd ‹lg_cmp 0 1 = 0› (by decide) | exact absurd ‹lg_cmp 0 2 = 0› (by decide) | exact absurd ‹lg_cmp 0 3 = 0› (by decide) | exact absurd ‹lg_cmp 0 4 = 0› (by decide) | exact absurd ‹lg_cmp 0 6 = 0› (by decide) | exact absurd ‹lg_cmp 0 12 = 0› (by decide))) (by rw [eF]; simp only [f_X6_point, if_neg c10, if_neg c11, if_neg c12, if_neg c13, if_neg c14, if_pos c15]) _ _ hP hD hS ls (lv_sub hl [1, 2, 3, 4, 0] rfl)
/-! X6_lines -/
theorem hs_X6_lines : yX6_lines.cls ≠ "java/lang/invoke/MethodHandle" ∧ yX6_lines.cls ≠ "java/lang/invoke/VarHandle" ∧ (parseMethodDescriptor yX6_lines.desc).map (fun d => d.parameters.length) = some 2 := by decide +kernel
theorem hd_X6_lines : yX6_lines.cls = RX6 ∧ yX6_lines.cls ≠ "java/lang/invoke/MethodHandle" ∧ yX6_lines.cls ≠ "java/lang/invoke/VarHandle" ∧ (parseMethodDescriptor yX6_lines.desc).map (fun d => d.parameters.length) = some 2 := ⟨rfl, hs_X6_lines⟩
def f_X6_lines_L124 (lp : Nat → Int64) (lq : Nat → Int64) (lr : Nat → Int64) (v0 : Int32) (v7 : Int32) (p1 : Int32) (p2 : Int32) (k : Int32 → Int32 → Int32 → Int32 → Int32 → (Int32 × Int32)) (x3_69 : Int32) (x4_75 : Int32) (x5_75 : Int32) (x6_75 : Int32) (x7_75 : Int32) (x8_46 : Int32) (x9_75 : Int32) : Nat → Int32 → Int32 → Int32 → (Int32 × Int32)
  | 0, _, _, _ => (0, 0)
  | n + 1, x10_124, x11_124, x12_124 => (if p1 ≤ x12_124 then (if x10_124 = 0 then (if x11_124 ≤ x6_75 then (k (x4_75 + 1) (x5_75 + (x11_124 - (1 : Int32))) x6_75 (x7_75 + x11_124) (x9_75 + 1)) else (k (x4_75 + 1) (x5_75 + (x11_124 - (1 : Int32))) x11_124 (x7_75 + x11_124) (x9_75 + 1))) else (k x4_75 x5_75 x6_75 x7_75 (x9_75 + 1))) else (if (f_X6_isNew lp lq lr x12_124) = 0 then (f_X6_lines_L124 lp lq lr v0 v7 p1 p2 k x3_69 x4_75 x5_75 x6_75 x7_75 x8_46 x9_75 n (x10_124 + (0 : Int32)) (x11_124 + (0 : Int32)) (x12_124 + 1)) else (if (f_X6_isThrough lp lq lr x8_46 x9_75 x12_124) = 0 then (f_X6_lines_L124 lp lq lr v0 v7 p1 p2 k x3_69 x4_75 x5_75 x6_75 x7_75 x8_46 x9_75 n (x10_124 + (0 : Int32)) (x11_124 + (0 : Int32)) (x12_124 + 1)) else (if x9_75 ≤ x12_124 then (f_X6_lines_L124 lp lq lr v0 v7 p1 p2 k x3_69 x4_75 x5_75 x6_75 x7_75 x8_46 x9_75 n (x10_124 + (0 : Int32)) (x11_124 + (1 : Int32)) (x12_124 + 1)) else (if x12_124 = x8_46 then (f_X6_lines_L124 lp lq lr v0 v7 p1 p2 k x3_69 x4_75 x5_75 x6_75 x7_75 x8_46 x9_75 n (x10_124 + (0 : Int32)) (x11_124 + (1 : Int32)) (x12_124 + 1)) else (f_X6_lines_L124 lp lq lr v0 v7 p1 p2 k x3_69 x4_75 x5_75 x6_75 x7_75 x8_46 x9_75 n (x10_124 + (1 : Int32)) (x11_124 + (1 : Int32)) (x12_124 + 1)))))))
def f_X6_lines_L75 (lp : Nat → Int64) (lq : Nat → Int64) (lr : Nat → Int64) (v0 : Int32) (v7 : Int32) (p1 : Int32) (p2 : Int32) (k : Int32 → Int32 → Int32 → Int32 → Int32 → Int32 → (Int32 × Int32)) (x3_69 : Int32) (x8_46 : Int32) : Nat → Int32 → Int32 → Int32 → Int32 → Int32 → (Int32 × Int32)
  | 0, _, _, _, _, _ => (0, 0)
  | n + 1, x4_75, x5_75, x6_75, x7_75, x9_75 => (if p1 ≤ x9_75 then (k x3_69 x4_75 x5_75 x6_75 x7_75 (x8_46 + 1)) else (if (f_X6_isNew lp lq lr x8_46) = 0 then (f_X6_lines_L75 lp lq lr v0 v7 p1 p2 k x3_69 x8_46 n x4_75 x5_75 x6_75 x7_75 (x9_75 + 1)) else (if (f_X6_isNew lp lq lr x9_75) = 0 then (f_X6_lines_L75 lp lq lr v0 v7 p1 p2 k x3_69 x8_46 n x4_75 x5_75 x6_75 x7_75 (x9_75 + 1)) else (if (lg_cmp (f_X6_both lp lq x8_46 x9_75) (0 : Int64)) = 0 then (f_X6_lines_L75 lp lq lr v0 v7 p1 p2 k x3_69 x8_46 n x4_75 x5_75 x6_75 x7_75 (x9_75 + 1)) else (f_X6_lines_L124 lp lq lr v0 v7 p1 p2 (fun x4_75 x5_75 x6_75 x7_75 x9_75 => f_X6_lines_L75 lp lq lr v0 v7 p1 p2 k x3_69 x8_46 n x4_75 x5_75 x6_75 x7_75 x9_75) x3_69 x4_75 x5_75 x6_75 x7_75 x8_46 x9_75 25 (0 : Int32) (0 : Int32) (0 : Int32))))))
def f_X6_lines_J69 (lp : Nat → Int64) (lq : Nat → Int64) (lr : Nat → Int64) (v0 : Int32) (v7 : Int32) (p1 : Int32) (p2 : Int32) (k : Int32 → Int32 → Int32 → Int32 → Int32 → Int32 → (Int32 × Int32)) (x4_46 : Int32) (x5_46 : Int32) (x6_46 : Int32) (x7_46 : Int32) (x8_46 : Int32) (x3_69 : Int32) : Int32 × Int32 := (f_X6_lines_L75 lp lq lr v0 v7 p1 p2 k x3_69 x8_46 25 x4_46 x5_46 x6_46 x7_46 (x8_46 + (1 : Int32)))
def f_X6_lines_L46 (lp : Nat → Int64) (lq : Nat → Int64) (lr : Nat → Int64) (v0 : Int32) (v7 : Int32) (p1 : Int32) (p2 : Int32)  : Nat → Int32 → Int32 → Int32 → Int32 → Int32 → Int32 → (Int32 × Int32)
  | 0, _, _, _, _, _, _ => (0, 0)
  | n + 1, x3_46, x4_46, x5_46, x6_46, x7_46, x8_46 => (if p1 ≤ x8_46 then (if p2 = 0 then (x3_46, (0 : Int32)) else (if p2 = 1 then (x4_46, (0 : Int32)) else (if p2 = 2 then ((((1 : Int32) + x3_46) + x5_46), (0 : Int32)) else (if p2 = 3 then ((x3_46 + x7_46), (0 : Int32)) else (if p2 = 4 then (if x4_46 = 0 then ((0 : Int32), (0 : Int32)) else (((((1 : Int32) + x3_46) + x5_46) - ((2 : Int32) * x3_46)), (0 : Int32))) else (x6_46, (0 : Int32))))))) else (if (f_X6_isNew lp lq lr x8_46) = 0 then (f_X6_lines_J69 lp lq lr v0 v7 p1 p2 (fun x3_46 x4_46 x5_46 x6_46 x7_46 x8_46 => f_X6_lines_L46 lp lq lr v0 v7 p1 p2  n x3_46 x4_46 x5_46 x6_46 x7_46 x8_46) x4_46 x5_46 x6_46 x7_46 x8_46 (x3_46 + (0 : Int32))) else (f_X6_lines_J69 lp lq lr v0 v7 p1 p2 (fun x3_46 x4_46 x5_46 x6_46 x7_46 x8_46 => f_X6_lines_L46 lp lq lr v0 v7 p1 p2  n x3_46 x4_46 x5_46 x6_46 x7_46 x8_46) x4_46 x5_46 x6_46 x7_46 x8_46 (x3_46 + (1 : Int32)))))
def f_X6_lines (lp : Nat → Int64) (lq : Nat → Int64) (lr : Nat → Int64) (v0 : Int32) (v7 : Int32) (p1 : Int32) (p2 : Int32) : Int32 × Int32 := (if p1 < 0 then ((-2 : Int32), (0 : Int32)) else (if v7 < p1 then ((-2 : Int32), (0 : Int32)) else (if p2 < 0 then ((-2 : Int32), (0 : Int32)) else (if p2 ≤ (5 : Int32) then (f_X6_lines_L46 lp lq lr v0 v7 p1 p2  25 (0 : Int32) (0 : Int32) (0 : Int32) (0 : Int32) (0 : Int32) (0 : Int32)) else ((-2 : Int32), (0 : Int32))))))
abbrev rm_X6_lines : Room := { frames := 3, cells := 0, slots := 0, locals := 67 }
set_option maxHeartbeats 8000000 in
set_option maxRecDepth 100000 in
theorem c_X6_lines (l : Launch) (dC : Nat → ClassId) (dI : Nat → Nat → Nat) (a : Nat → Nat) (cI cJ : ClassId) (xs : Nat → Int32) (ys : Nat → Int32) (pl : Nat → Int32) (lp : Nat → Int64) (lq : Nat → Int64) (lr : Nat → Int64) (v0 : Int32) (v1 : Int32) (v2 : Int32) (v3 : Int32) (v4 : Int32) (v5 : Int32) (v6 : Int32) (v7 : Int32) (p1 : Int32) (p2 : Int32) (hl7 : v7 ≤ 12) : Met l yX6_lines (Cond.code yX6_lines cX6_lines 14 (some .int) :: lw_G) rm_X6_lines (wPc (dC, dI) (tIJ cI cJ) (wM a cI cJ xs ys pl lp lq lr v0 v1 v2 v3 v4 v5 v6 v7) [.ref (a 0), .int p1, .int p2]) (wQi (dC, dI) (wA (wM a cI cJ xs ys pl lp lq lr v0 v1 v2 v3 v4 v5 v6 v7)) (wM a cI cJ xs ys pl lp lq lr ((f_X6_lines lp lq lr v0 v7 p1 p2).2) v1 v2 v3 v4 v5 v6 v7) (f_X6_lines lp lq lr v0 v7 p1 p2).1) 0 0 (wA (wM a cI cJ xs ys pl lp lq lr v0 v1 v2 v3 v4 v5 v6 v7)) := by
  refine wm_of (by decide) (Nat.le_of_ble_eq_true rfl) ?_
  intro p e s m args below meth c Q ls hQ hx hb hr hlk hml hown hts hP hK hD hS hl
  have hown : s.vm.findClass RX6 = some m.cls := hown
  have hl : lv_has ls 14 [(0, .ref (a 0)), (1, .int p1), (2, .int p2)] := hl
  generalize hAe : wA (wM a cI cJ xs ys pl lp lq lr v0 v1 v2 v3 v4 v5 v6 v7) = A at hQ hD hS
  obtain ⟨F, eF⟩ : ∃ F, F = (f_X6_lines lp lq lr v0 v7 p1 p2) := ⟨_, rfl⟩
  refine lv_aload_n hx hb dX6_lines_0 rfl (lv_at hl 0 rfl) ?_
  refine lv_iconst (v := (0 : Int32)) hx hb dX6_lines_1 (by decide) ?_
  refine va_put (D := (dC, dI)) (ci := 10) (v := .int (0 : Int32)) (ty := .int) (C := RX6) (T := TX6) (N := 14) hx hb hts (fun _ h => gI_wsX60 h) tyX6 tyX6_ok nmX6 hown hK.1 hP hD hS 0 rfl rfl 0 (by decide) (hts _ mG_5_12) (fun _ h9 => h9) rfl (by decide +kernel) rfl rfl (Nat.le_of_ble_eq_true rfl) dX6_lines_2 (fun H locs hP hD hS => ?_)
  have hP : va_P (dC, dI) vwCl (wM a cI cJ xs ys pl lp lq lr (0 : Int32) v1 v2 v3 v4 v5 v6 v7) H := hP
  have hD : va_D A (wM a cI cJ xs ys pl lp lq lr (0 : Int32) v1 v2 v3 v4 v5 v6 v7) := hD
  refine lv_iload_n hx hb dX6_lines_5 rfl (lv_at hl 1 rfl) ?_
  refine lv_if_lt (tgt := 26) hx hb dX6_lines_6 (by decide) (fun c1 => ?_) (fun c1 => ?_)
  · skip
    refine lv_bipush (v := (-2 : Int32)) hx hb dX6_lines_26 (by decide) ?_
    have hE : (f_X6_lines lp lq lr v0 v7 p1 p2) = ((-2 : Int32), (0 : Int32)) := (by simp only [f_X6_lines, if_pos c1])
    exact rw_i hQ hx hb hr hlk (by rw [hE]; exact hP) hS (by rw [hE]) dX6_lines_28
  · skip
    refine lv_iload_n hx hb dX6_lines_9 rfl (lv_at hl 1 rfl) ?_
    refine lv_aload_n hx hb dX6_lines_10 rfl (lv_at hl 0 rfl) ?_
    refine va_get (D := (dC, dI)) (ci := 10) (v := .int v7) (C := RX6) (T := TX6) (N := 14) hx hb hts (fun _ h => gI_wsX60 h) hown hK.1 hP 0 rfl rfl 10 (by decide) (hts _ mG_27_22) (fun _ h9 => h9) rfl dX6_lines_11 ?_
    refine lv_icmp_gt (tgt := 26) hx hb dX6_lines_14 (by decide) (fun c2 => ?_) (fun c2 => ?_)
    · skip
      refine lv_bipush (v := (-2 : Int32)) hx hb dX6_lines_26 (by decide) ?_
      have hE : (f_X6_lines lp lq lr v0 v7 p1 p2) = ((-2 : Int32), (0 : Int32)) := (by simp only [f_X6_lines, if_neg c1, if_pos c2])
      exact rw_i hQ hx hb hr hlk (by rw [hE]; exact hP) hS (by rw [hE]) dX6_lines_28
    · skip
      have hp : p1 ≤ 12 := Int32.le_trans (Int32.not_lt.mp c2) hl7
      have hn : p1 ≤ 24 := Int32.le_trans hp (by decide)
      refine lv_iload_n hx hb dX6_lines_17 rfl (lv_at hl 2 rfl) ?_
      refine lv_if_lt (tgt := 26) hx hb dX6_lines_18 (by decide) (fun c3 => ?_) (fun c3 => ?_)
      · skip
        refine lv_bipush (v := (-2 : Int32)) hx hb dX6_lines_26 (by decide) ?_
        have hE : (f_X6_lines lp lq lr v0 v7 p1 p2) = ((-2 : Int32), (0 : Int32)) := (by simp only [f_X6_lines, if_neg c1, if_neg c2, if_pos c3])
        exact rw_i hQ hx hb hr hlk (by rw [hE]; exact hP) hS (by rw [hE]) dX6_lines_28
      · skip
        refine lv_iload_n hx hb dX6_lines_21 rfl (lv_at hl 2 rfl) ?_
        refine lv_iconst (v := (5 : Int32)) hx hb dX6_lines_22 (by decide) ?_
        refine lv_icmp_le (tgt := 29) hx hb dX6_lines_23 (by decide) (fun c4 => ?_) (fun c4 => ?_)
        · skip
          refine lv_iconst (v := (0 : Int32)) hx hb dX6_lines_29 (by decide) ?_
          refine lv_istore_n (lv' := [(3, .int (0 : Int32)), (0, .ref (a 0)), (1, .int p1), (2, .int p2)]) hx hb dX6_lines_30 rfl hl (by decide) rfl (fun ls hl => ?_)
          refine lv_iconst (v := (0 : Int32)) hx hb dX6_lines_31 (by decide) ?_
          refine lv_istore (lv' := [(4, .int (0 : Int32)), (3, .int (0 : Int32)), (0, .ref (a 0)), (1, .int p1), (2, .int p2)]) hx hb dX6_lines_32 hl (by decide) rfl (fun ls hl => ?_)
          refine lv_iconst (v := (0 : Int32)) hx hb dX6_lines_34 (by decide) ?_
          refine lv_istore (lv' := [(5, .int (0 : Int32)), (4, .int (0 : Int32)), (3, .int (0 : Int32)), (0, .ref (a 0)), (1, .int p1), (2, .int p2)]) hx hb dX6_lines_35 hl (by decide) rfl (fun ls hl => ?_)
          refine lv_iconst (v := (0 : Int32)) hx hb dX6_lines_37 (by decide) ?_
          refine lv_istore (lv' := [(6, .int (0 : Int32)), (5, .int (0 : Int32)), (4, .int (0 : Int32)), (3, .int (0 : Int32)), (0, .ref (a 0)), (1, .int p1), (2, .int p2)]) hx hb dX6_lines_38 hl (by decide) rfl (fun ls hl => ?_)
          refine lv_iconst (v := (0 : Int32)) hx hb dX6_lines_40 (by decide) ?_
          refine lv_istore (lv' := [(7, .int (0 : Int32)), (6, .int (0 : Int32)), (5, .int (0 : Int32)), (4, .int (0 : Int32)), (3, .int (0 : Int32)), (0, .ref (a 0)), (1, .int p1), (2, .int p2)]) hx hb dX6_lines_41 hl (by decide) rfl (fun ls hl => ?_)
          refine lv_iconst (v := (0 : Int32)) hx hb dX6_lines_43 (by decide) ?_
          refine lv_istore (lv' := [(8, .int (0 : Int32)), (7, .int (0 : Int32)), (6, .int (0 : Int32)), (5, .int (0 : Int32)), (4, .int (0 : Int32)), (3, .int (0 : Int32)), (0, .ref (a 0)), (1, .int p1), (2, .int p2)]) hx hb dX6_lines_44 hl (by decide) rfl (fun ls hl => ?_)
          have K46 : ∀ (n46 : Nat) (x3_46 : Int32) (x4_46 : Int32) (x5_46 : Int32) (x6_46 : Int32) (x7_46 : Int32) (x8_46 : Int32), 0 ≤ x8_46 → ((p1).toInt - x8_46.toInt).toNat < n46 → F = f_X6_lines_L46 lp lq lr v0 v7 p1 p2  n46 x3_46 x4_46 x5_46 x6_46 x7_46 x8_46 → ∀ (H : Heap) (locs : List Loc), va_P (dC, dI) vwCl (wM a cI cJ xs ys pl lp lq lr (0 : Int32) v1 v2 v3 v4 v5 v6 v7) H → va_D A (wM a cI cJ xs ys pl lp lq lr (0 : Int32) v1 v2 v3 v4 v5 v6 v7) → va_S A s.heap H locs → ∀ (ls : Array Slot), lv_has ls 14 [(0, .ref (a 0)), (1, .int p1), (2, .int p2), (3, .int x3_46), (4, .int x4_46), (5, .int x5_46), (6, .int x6_46), (7, .int x7_46), (8, .int x8_46)] → W p l e rm_X6_lines s m args below meth c H locs 0 0 Q (F0 m 46 ls []) := by
            intro n46
            induction n46 with
            | zero => intro x3_46 x4_46 x5_46 x6_46 x7_46 x8_46 h0_46 hf_46 hF H locs hP hD hS ls hl; exact absurd hf_46 (Nat.not_lt_zero _)
            | succ n46 ih46 =>
              intro x3_46 x4_46 x5_46 x6_46 x7_46 x8_46 h0_46 hf_46 hF H locs hP hD hS ls hl
              refine lv_iload hx hb dX6_lines_46 (lv_at hl 8 rfl) ?_
              refine lv_iload_n hx hb dX6_lines_48 rfl (lv_at hl 1 rfl) ?_
              refine lv_icmp_ge (tgt := 261) hx hb dX6_lines_49 (by decide) (fun c5 => ?_) (fun c5 => ?_)
              · skip
                refine lv_iconst (v := (1 : Int32)) hx hb dX6_lines_261 (by decide) ?_
                refine lv_iload_n hx hb dX6_lines_262 rfl (lv_at hl 3 rfl) ?_
                refine lv_iadd hx hb dX6_lines_263 ?_
                refine lv_iload hx hb dX6_lines_264 (lv_at hl 5 rfl) ?_
                refine lv_iadd hx hb dX6_lines_266 ?_
                refine lv_topi (fun y6 ey6 => ?_)
                refine lv_istore (lv' := [(8, .int y6), (0, .ref (a 0)), (1, .int p1), (2, .int p2), (3, .int x3_46), (4, .int x4_46), (5, .int x5_46), (6, .int x6_46), (7, .int x7_46)]) hx hb dX6_lines_267 hl (by decide) rfl (fun ls hl => ?_)
                refine lv_iload_n hx hb dX6_lines_269 rfl (lv_at hl 3 rfl) ?_
                by_cases c7 : p2 = 0
                · refine lv_tableIn (off := 34) (tgt := 304) hx hb dX6_lines_270 (by rw [c7]; decide) (by rw [c7]; decide) (by rw [c7]; rfl) (by decide) ?_
                  refine lv_iload_n hx hb dX6_lines_304 rfl (lv_at hl 4 rfl) ?_
                  have hE : F = (x3_46, (0 : Int32)) := (by subst ey6; rw [hF]; simp only [f_X6_lines_L46, if_pos c5, if_pos c7])
                  rw [eF] at hE
                  exact rw_i hQ hx hb hr hlk (by rw [hE]; exact hP) hS (by rw [hE]) dX6_lines_305
                by_cases c8 : p2 = 1
                · refine lv_tableIn (off := 36) (tgt := 306) hx hb dX6_lines_270 (by rw [c8]; decide) (by rw [c8]; decide) (by rw [c8]; rfl) (by decide) ?_
                  refine lv_iload hx hb dX6_lines_306 (lv_at hl 5 rfl) ?_
                  have hE : F = (x4_46, (0 : Int32)) := (by subst ey6; rw [hF]; simp only [f_X6_lines_L46, if_pos c5, if_neg c7, if_pos c8])
                  rw [eF] at hE
                  exact rw_i hQ hx hb hr hlk (by rw [hE]; exact hP) hS (by rw [hE]) dX6_lines_308
                by_cases c9 : p2 = 2
                · refine lv_tableIn (off := 39) (tgt := 309) hx hb dX6_lines_270 (by rw [c9]; decide) (by rw [c9]; decide) (by rw [c9]; rfl) (by decide) ?_
                  refine lv_iload hx hb dX6_lines_309 (lv_at hl 0 rfl) ?_
                  have hE : F = (y6, (0 : Int32)) := (by subst ey6; rw [hF]; simp only [f_X6_lines_L46, if_pos c5, if_neg c7, if_neg c8, if_pos c9])
                  rw [eF] at hE
                  exact rw_i hQ hx hb hr hlk (by rw [hE]; exact hP) hS (by rw [hE]) dX6_lines_311
                by_cases c10 : p2 = 3
                · refine lv_tableIn (off := 42) (tgt := 312) hx hb dX6_lines_270 (by rw [c10]; decide) (by rw [c10]; decide) (by rw [c10]; rfl) (by decide) ?_
                  refine lv_iload_n hx hb dX6_lines_312 rfl (lv_at hl 4 rfl) ?_
                  refine lv_iload hx hb dX6_lines_313 (lv_at hl 8 rfl) ?_
                  refine lv_iadd hx hb dX6_lines_315 ?_
                  have hE : F = ((x3_46 + x7_46), (0 : Int32)) := (by subst ey6; rw [hF]; simp only [f_X6_lines_L46, if_pos c5, if_neg c7, if_neg c8, if_neg c9, if_pos c10])
                  rw [eF] at hE
                  exact rw_i hQ hx hb hr hlk (by rw [hE]; exact hP) hS (by rw [hE]) dX6_lines_316
                by_cases c11 : p2 = 4
                · refine lv_tableIn (off := 47) (tgt := 317) hx hb dX6_lines_270 (by rw [c11]; decide) (by rw [c11]; decide) (by rw [c11]; rfl) (by decide) ?_
                  refine lv_iload hx hb dX6_lines_317 (lv_at hl 5 rfl) ?_
                  refine lv_if_ne (tgt := 326) hx hb dX6_lines_319 (by decide) (fun c12 => ?_) (fun c12 => ?_)
                  · skip
                    refine lv_iload hx hb dX6_lines_326 (lv_at hl 0 rfl) ?_
                    refine lv_iconst (v := (2 : Int32)) hx hb dX6_lines_328 (by decide) ?_
                    refine lv_iload_n hx hb dX6_lines_329 rfl (lv_at hl 4 rfl) ?_
                    refine lv_imul hx hb dX6_lines_330 ?_
                    refine lv_isub hx hb dX6_lines_331 ?_
                    have hE : F = ((y6 - ((2 : Int32) * x3_46)), (0 : Int32)) := (by subst ey6; rw [hF]; simp only [f_X6_lines_L46, if_pos c5, if_neg c7, if_neg c8, if_neg c9, if_neg c10, if_pos c11, if_neg c12])
                    rw [eF] at hE
                    exact rw_i hQ hx hb hr hlk (by rw [hE]; exact hP) hS (by rw [hE]) dX6_lines_332
                  · skip
                    refine lv_iconst (v := (0 : Int32)) hx hb dX6_lines_322 (by decide) ?_
                    refine lv_goto (tgt := 332) hx hb dX6_lines_323 (by decide) ?_
                    have hE : F = ((0 : Int32), (0 : Int32)) := (by subst ey6; rw [hF]; simp only [f_X6_lines_L46, if_pos c5, if_neg c7, if_neg c8, if_neg c9, if_neg c10, if_pos c11, if_pos c12])
                    rw [eF] at hE
                    exact rw_i hQ hx hb hr hlk (by rw [hE]; exact hP) hS (by rw [hE]) dX6_lines_332
                refine lv_tableOut (tgt := 333) hx hb dX6_lines_270 (sw_4 c7 c8 c9 c10 c11) (by decide) ?_
                refine lv_iload hx hb dX6_lines_333 (lv_at hl 7 rfl) ?_
                have hE : F = (x6_46, (0 : Int32)) := (by subst ey6; rw [hF]; simp only [f_X6_lines_L46, if_pos c5, if_neg c7, if_neg c8, if_neg c9, if_neg c10, if_neg c11])
                rw [eF] at hE
                exact rw_i hQ hx hb hr hlk (by rw [hE]; exact hP) hS (by rw [hE]) dX6_lines_335
              · skip
                have hI8 : vp_in x8_46 12 := ix12 h0_46 c5 hp
                have K69 : ∀ (x3_69 : Int32), F = f_X6_lines_J69 lp lq lr v0 v7 p1 p2 (fun x3_46 x4_46 x5_46 x6_46 x7_46 x8_46 => f_X6_lines_L46 lp lq lr v0 v7 p1 p2  n46 x3_46 x4_46 x5_46 x6_46 x7_46 x8_46) x4_46 x5_46 x6_46 x7_46 x8_46 x3_69 → ∀ (H : Heap) (locs : List Loc), va_P (dC, dI) vwCl (wM a cI cJ xs ys pl lp lq lr (0 : Int32) v1 v2 v3 v4 v5 v6 v7) H → va_D A (wM a cI cJ xs ys pl lp lq lr (0 : Int32) v1 v2 v3 v4 v5 v6 v7) → va_S A s.heap H locs → ∀ (ls : Array Slot), lv_has ls 14 [(0, .ref (a 0)), (1, .int p1), (2, .int p2), (3, .int x3_69), (4, .int x4_46), (5, .int x5_46), (6, .int x6_46), (7, .int x7_46), (8, .int x8_46)] → W p l e rm_X6_lines s m args below meth c H locs 0 0 Q (F0 m 69 ls []) := by
                  intro x3_69 hF H locs hP hD hS ls hl
                  refine lv_iload hx hb dX6_lines_69 (lv_at hl 8 rfl) ?_
                  refine lv_iconst (v := (1 : Int32)) hx hb dX6_lines_71 (by decide) ?_
                  refine lv_iadd hx hb dX6_lines_72 ?_
                  refine lv_topi (fun y13 ey13 => ?_)
                  refine lv_istore (lv' := [(9, .int y13), (0, .ref (a 0)), (1, .int p1), (2, .int p2), (3, .int x3_69), (4, .int x4_46), (5, .int x5_46), (6, .int x6_46), (7, .int x7_46), (8, .int x8_46)]) hx hb dX6_lines_73 hl (by decide) rfl (fun ls hl => ?_)
                  have K75 : ∀ (n75 : Nat) (x4_75 : Int32) (x5_75 : Int32) (x6_75 : Int32) (x7_75 : Int32) (x9_75 : Int32), 0 ≤ x9_75 → ((p1).toInt - x9_75.toInt).toNat < n75 → F = f_X6_lines_L75 lp lq lr v0 v7 p1 p2 (fun x3_46 x4_46 x5_46 x6_46 x7_46 x8_46 => f_X6_lines_L46 lp lq lr v0 v7 p1 p2  n46 x3_46 x4_46 x5_46 x6_46 x7_46 x8_46) x3_69 x8_46 n75 x4_75 x5_75 x6_75 x7_75 x9_75 → ∀ (H : Heap) (locs : List Loc), va_P (dC, dI) vwCl (wM a cI cJ xs ys pl lp lq lr (0 : Int32) v1 v2 v3 v4 v5 v6 v7) H → va_D A (wM a cI cJ xs ys pl lp lq lr (0 : Int32) v1 v2 v3 v4 v5 v6 v7) → va_S A s.heap H locs → ∀ (ls : Array Slot), lv_has ls 14 [(0, .ref (a 0)), (1, .int p1), (2, .int p2), (3, .int x3_69), (4, .int x4_75), (5, .int x5_75), (6, .int x6_75), (7, .int x7_75), (8, .int x8_46), (9, .int x9_75)] → W p l e rm_X6_lines s m args below meth c H locs 0 0 Q (F0 m 75 ls []) := by
                    intro n75
                    induction n75 with
                    | zero => intro x4_75 x5_75 x6_75 x7_75 x9_75 h0_75 hf_75 hF H locs hP hD hS ls hl; exact absurd hf_75 (Nat.not_lt_zero _)
                    | succ n75 ih75 =>
                      intro x4_75 x5_75 x6_75 x7_75 x9_75 h0_75 hf_75 hF H locs hP hD hS ls hl
                      refine lv_iload hx hb dX6_lines_75 (lv_at hl 9 rfl) ?_
                      refine lv_iload_n hx hb dX6_lines_77 rfl (lv_at hl 1 rfl) ?_
                      refine lv_icmp_ge (tgt := 255) hx hb dX6_lines_78 (by decide) (fun c14 => ?_) (fun c14 => ?_)
                      · skip
                        refine lv_iinc (v := (x8_46 + 1)) (lv' := [(8, .int (x8_46 + 1)), (0, .ref (a 0)), (1, .int p1), (2, .int p2), (3, .int x3_69), (4, .int x4_75), (5, .int x5_75), (6, .int x6_75), (7, .int x7_75), (9, .int x9_75)]) hx hb dX6_lines_255 hl (k := 8) rfl rfl (by decide) rfl (fun ls hl => ?_)
                        refine lv_goto (tgt := 46) hx hb dX6_lines_258 (by decide) ?_
                        exact ih46 x3_69 x4_75 x5_75 x6_75 x7_75 (x8_46 + 1) (lp_pos h0_46 c5) (lp_dec c5 hf_46) (by rw [hF]; simp only [f_X6_lines_L75, if_pos c14]) _ _ hP hD hS ls (lv_sub hl [1, 2, 3, 4, 5, 6, 7, 8, 0] rfl)
                      · skip
                        have hI9 : vp_in x9_75 12 := ix12 h0_75 c14 hp
                        refine lv_aload_n hx hb dX6_lines_81 rfl (lv_at hl 0 rfl) ?_
                        refine lv_iload hx hb dX6_lines_82 (lv_at hl 8 rfl) ?_
                        refine cp_i (va_runV (As := [.int x8_46]) (rest := []) ⟨hx, hb, hml, hown, hts⟩ (c_X6_isNew l dC dI a cI cJ xs ys pl lp lq lr (0 : Int32) v1 v2 v3 v4 v5 v6 v7 x8_46 (by first | with_reducible assumption | exact in0_24 | exact in0_60 | decide)) (cwV 1 hts (gG_V mG_30_5 mG_30_6 mG_30_7 mG_1_5 (gG_c mG_30_8 gG_G)) rfl rfl rfl hd_X6_isNew ⟨Nat.le_of_ble_eq_true rfl, Nat.le_of_ble_eq_true rfl⟩) (pPcV (ci := 10) (q0 := 0) hK hP rfl rfl) rfl rfl hl.1 rfl (lv_room (Nat.le_of_ble_eq_true rfl)) dX6_lines_84 ⟨Nat.le_of_ble_eq_true rfl, Nat.le_of_ble_eq_true rfl⟩) hP hS (fun H hP hS => ?_)
                        refine lv_if_eq (tgt := 249) hx hb dX6_lines_87 (by decide) (fun c15 => ?_) (fun c15 => ?_)
                        · skip
                          refine lv_iinc (v := (x9_75 + 1)) (lv' := [(9, .int (x9_75 + 1)), (0, .ref (a 0)), (1, .int p1), (2, .int p2), (3, .int x3_69), (4, .int x4_75), (5, .int x5_75), (6, .int x6_75), (7, .int x7_75), (8, .int x8_46)]) hx hb dX6_lines_249 hl (k := 9) rfl rfl (by decide) rfl (fun ls hl => ?_)
                          refine lv_goto (tgt := 75) hx hb dX6_lines_252 (by decide) ?_
                          exact ih75 x4_75 x5_75 x6_75 x7_75 (x9_75 + 1) (lp_pos h0_75 c14) (lp_dec c14 hf_75) (by rw [hF]; simp only [f_X6_lines_L75, if_neg c14, if_pos c15]) _ _ hP hD hS ls (lv_sub hl [1, 2, 3, 4, 5, 6, 7, 8, 9, 0] rfl)
                        · skip
                          refine lv_aload_n hx hb dX6_lines_90 rfl (lv_at hl 0 rfl) ?_
                          refine lv_iload hx hb dX6_lines_91 (lv_at hl 9 rfl) ?_
                          refine cp_i (va_runV (As := [.int x9_75]) (rest := []) ⟨hx, hb, hml, hown, hts⟩ (c_X6_isNew l dC dI a cI cJ xs ys pl lp lq lr (0 : Int32) v1 v2 v3 v4 v5 v6 v7 x9_75 (by first | with_reducible assumption | exact in0_24 | exact in0_60 | decide)) (cwV 1 hts (gG_V mG_30_5 mG_30_6 mG_30_7 mG_1_5 (gG_c mG_30_8 gG_G)) rfl rfl rfl hd_X6_isNew ⟨Nat.le_of_ble_eq_true rfl, Nat.le_of_ble_eq_true rfl⟩) (pPcV (ci := 10) (q0 := 0) hK hP rfl rfl) rfl rfl hl.1 rfl (lv_room (Nat.le_of_ble_eq_true rfl)) dX6_lines_93 ⟨Nat.le_of_ble_eq_true rfl, Nat.le_of_ble_eq_true rfl⟩) hP hS (fun H hP hS => ?_)
                          refine lv_if_eq (tgt := 249) hx hb dX6_lines_96 (by decide) (fun c16 => ?_) (fun c16 => ?_)
                          · skip
                            refine lv_iinc (v := (x9_75 + 1)) (lv' := [(9, .int (x9_75 + 1)), (0, .ref (a 0)), (1, .int p1), (2, .int p2), (3, .int x3_69), (4, .int x4_75), (5, .int x5_75), (6, .int x6_75), (7, .int x7_75), (8, .int x8_46)]) hx hb dX6_lines_249 hl (k := 9) rfl rfl (by decide) rfl (fun ls hl => ?_)
                            refine lv_goto (tgt := 75) hx hb dX6_lines_252 (by decide) ?_
                            exact ih75 x4_75 x5_75 x6_75 x7_75 (x9_75 + 1) (lp_pos h0_75 c14) (lp_dec c14 hf_75) (by rw [hF]; simp only [f_X6_lines_L75, if_neg c14, if_neg c15, if_pos c16]) _ _ hP hD hS ls (lv_sub hl [1, 2, 3, 4, 5, 6, 7, 8, 9, 0] rfl)
                          · skip
                            refine lv_aload_n hx hb dX6_lines_99 rfl (lv_at hl 0 rfl) ?_
                            refine lv_iload hx hb dX6_lines_100 (lv_at hl 8 rfl) ?_
                            refine lv_iload hx hb dX6_lines_102 (lv_at hl 9 rfl) ?_
                            refine cp_l (va_runV (As := [.int x8_46, .int x9_75]) (rest := []) ⟨hx, hb, hml, hown, hts⟩ (c_X6_both l dC dI a cI cJ xs ys pl lp lq lr (0 : Int32) v1 v2 v3 v4 v5 v6 v7 x8_46 x9_75 (by first | with_reducible assumption | exact in0_24 | exact in0_60 | decide) (by first | with_reducible assumption | exact in0_24 | exact in0_60 | decide)) (cwV 2 hts (gG_V mG_30_13 mG_30_14 mG_30_15 mG_1_5 (gG_c mG_30_16 gG_G)) rfl rfl rfl hd_X6_both ⟨Nat.le_of_ble_eq_true rfl, Nat.le_of_ble_eq_true rfl⟩) (pPcV (ci := 10) (q0 := 0) hK hP rfl rfl) rfl rfl hl.1 rfl (lv_room (Nat.le_of_ble_eq_true rfl)) dX6_lines_104 ⟨Nat.le_of_ble_eq_true rfl, Nat.le_of_ble_eq_true rfl⟩) hP hS (fun H hP hS => ?_)
                            refine lv_lconst (v := (0 : Int64)) hx hb dX6_lines_107 (by decide) ?_
                            refine W.lcmp hx hb dX6_lines_108 ?_
                            refine lv_if_ne (tgt := 115) hx hb dX6_lines_109 (by decide) (fun c17 => ?_) (fun c17 => ?_)
                            · skip
                              refine lv_iconst (v := (0 : Int32)) hx hb dX6_lines_115 (by decide) ?_
                              refine lv_istore (lv' := [(10, .int (0 : Int32)), (0, .ref (a 0)), (1, .int p1), (2, .int p2), (3, .int x3_69), (4, .int x4_75), (5, .int x5_75), (6, .int x6_75), (7, .int x7_75), (8, .int x8_46), (9, .int x9_75)]) hx hb dX6_lines_116 hl (by decide) rfl (fun ls hl => ?_)
                              refine lv_iconst (v := (0 : Int32)) hx hb dX6_lines_118 (by decide) ?_
                              refine lv_istore (lv' := [(11, .int (0 : Int32)), (10, .int (0 : Int32)), (0, .ref (a 0)), (1, .int p1), (2, .int p2), (3, .int x3_69), (4, .int x4_75), (5, .int x5_75), (6, .int x6_75), (7, .int x7_75), (8, .int x8_46), (9, .int x9_75)]) hx hb dX6_lines_119 hl (by decide) rfl (fun ls hl => ?_)
                              refine lv_iconst (v := (0 : Int32)) hx hb dX6_lines_121 (by decide) ?_
                              refine lv_istore (lv' := [(12, .int (0 : Int32)), (11, .int (0 : Int32)), (10, .int (0 : Int32)), (0, .ref (a 0)), (1, .int p1), (2, .int p2), (3, .int x3_69), (4, .int x4_75), (5, .int x5_75), (6, .int x6_75), (7, .int x7_75), (8, .int x8_46), (9, .int x9_75)]) hx hb dX6_lines_122 hl (by decide) rfl (fun ls hl => ?_)
                              have K124 : ∀ (n124 : Nat) (x10_124 : Int32) (x11_124 : Int32) (x12_124 : Int32), 0 ≤ x12_124 → ((p1).toInt - x12_124.toInt).toNat < n124 → F = f_X6_lines_L124 lp lq lr v0 v7 p1 p2 (fun x4_75 x5_75 x6_75 x7_75 x9_75 => f_X6_lines_L75 lp lq lr v0 v7 p1 p2 (fun x3_46 x4_46 x5_46 x6_46 x7_46 x8_46 => f_X6_lines_L46 lp lq lr v0 v7 p1 p2  n46 x3_46 x4_46 x5_46 x6_46 x7_46 x8_46) x3_69 x8_46 n75 x4_75 x5_75 x6_75 x7_75 x9_75) x3_69 x4_75 x5_75 x6_75 x7_75 x8_46 x9_75 n124 x10_124 x11_124 x12_124 → ∀ (H : Heap) (locs : List Loc), va_P (dC, dI) vwCl (wM a cI cJ xs ys pl lp lq lr (0 : Int32) v1 v2 v3 v4 v5 v6 v7) H → va_D A (wM a cI cJ xs ys pl lp lq lr (0 : Int32) v1 v2 v3 v4 v5 v6 v7) → va_S A s.heap H locs → ∀ (ls : Array Slot), lv_has ls 14 [(0, .ref (a 0)), (1, .int p1), (2, .int p2), (3, .int x3_69), (4, .int x4_75), (5, .int x5_75), (6, .int x6_75), (7, .int x7_75), (8, .int x8_46), (9, .int x9_75), (10, .int x10_124), (11, .int x11_124), (12, .int x12_124)] → W p l e rm_X6_lines s m args below meth c H locs 0 0 Q (F0 m 124 ls []) := by
                                intro n124
                                induction n124 with
                                | zero => intro x10_124 x11_124 x12_124 h0_124 hf_124 hF H locs hP hD hS ls hl; exact absurd hf_124 (Nat.not_lt_zero _)
                                | succ n124 ih124 =>
                                  intro x10_124 x11_124 x12_124 h0_124 hf_124 hF H locs hP hD hS ls hl
                                  refine lv_iload hx hb dX6_lines_124 (lv_at hl 12 rfl) ?_
                                  refine lv_iload_n hx hb dX6_lines_126 rfl (lv_at hl 1 rfl) ?_
                                  refine lv_icmp_ge (tgt := 209) hx hb dX6_lines_127 (by decide) (fun c18 => ?_) (fun c18 => ?_)
                                  · skip
                                    refine lv_iload hx hb dX6_lines_209 (lv_at hl 10 rfl) ?_
                                    refine lv_if_ne (tgt := 249) hx hb dX6_lines_211 (by decide) (fun c19 => ?_) (fun c19 => ?_)
                                    · skip
                                      refine lv_iinc (v := (x9_75 + 1)) (lv' := [(9, .int (x9_75 + 1)), (0, .ref (a 0)), (1, .int p1), (2, .int p2), (3, .int x3_69), (4, .int x4_75), (5, .int x5_75), (6, .int x6_75), (7, .int x7_75), (8, .int x8_46), (10, .int x10_124), (11, .int x11_124), (12, .int x12_124)]) hx hb dX6_lines_249 hl (k := 9) rfl rfl (by decide) rfl (fun ls hl => ?_)
                                      refine lv_goto (tgt := 75) hx hb dX6_lines_252 (by decide) ?_
                                      exact ih75 x4_75 x5_75 x6_75 x7_75 (x9_75 + 1) (lp_pos h0_75 c14) (lp_dec c14 hf_75) (by rw [hF]; simp only [f_X6_lines_L124, if_pos c18, if_neg c19]) _ _ hP hD hS ls (lv_sub hl [1, 2, 3, 4, 5, 6, 7, 8, 9, 0] rfl)
                                    · skip
                                      refine lv_iinc (v := (x4_75 + 1)) (lv' := [(4, .int (x4_75 + 1)), (0, .ref (a 0)), (1, .int p1), (2, .int p2), (3, .int x3_69), (5, .int x5_75), (6, .int x6_75), (7, .int x7_75), (8, .int x8_46), (9, .int x9_75), (10, .int x10_124), (11, .int x11_124), (12, .int x12_124)]) hx hb dX6_lines_214 hl (k := 4) rfl rfl (by decide) rfl (fun ls hl => ?_)
                                      refine lv_iload hx hb dX6_lines_217 (lv_at hl 5 rfl) ?_
                                      refine lv_iload hx hb dX6_lines_219 (lv_at hl 11 rfl) ?_
                                      refine lv_iconst (v := (1 : Int32)) hx hb dX6_lines_221 (by decide) ?_
                                      refine lv_isub hx hb dX6_lines_222 ?_
                                      refine lv_iadd hx hb dX6_lines_223 ?_
                                      refine lv_topi (fun y20 ey20 => ?_)
                                      refine lv_istore (lv' := [(5, .int y20), (4, .int (x4_75 + 1)), (0, .ref (a 0)), (1, .int p1), (2, .int p2), (3, .int x3_69), (6, .int x6_75), (7, .int x7_75), (8, .int x8_46), (9, .int x9_75), (10, .int x10_124), (11, .int x11_124), (12, .int x12_124)]) hx hb dX6_lines_224 hl (by decide) rfl (fun ls hl => ?_)
                                      refine lv_iload hx hb dX6_lines_226 (lv_at hl 7 rfl) ?_
                                      refine lv_iload hx hb dX6_lines_228 (lv_at hl 11 rfl) ?_
                                      refine lv_iadd hx hb dX6_lines_230 ?_
                                      refine lv_topi (fun y21 ey21 => ?_)
                                      refine lv_istore (lv' := [(7, .int y21), (5, .int y20), (4, .int (x4_75 + 1)), (0, .ref (a 0)), (1, .int p1), (2, .int p2), (3, .int x3_69), (6, .int x6_75), (8, .int x8_46), (9, .int x9_75), (10, .int x10_124), (11, .int x11_124), (12, .int x12_124)]) hx hb dX6_lines_231 hl (by decide) rfl (fun ls hl => ?_)
                                      refine lv_iload hx hb dX6_lines_233 (lv_at hl 11 rfl) ?_
                                      refine lv_iload hx hb dX6_lines_235 (lv_at hl 7 rfl) ?_
                                      refine lv_icmp_le (tgt := 245) hx hb dX6_lines_237 (by decide) (fun c22 => ?_) (fun c22 => ?_)
                                      · skip
                                        refine lv_iload hx hb dX6_lines_245 (lv_at hl 7 rfl) ?_
                                        refine lv_istore (lv' := [(6, .int x6_75), (7, .int y21), (5, .int y20), (4, .int (x4_75 + 1)), (0, .ref (a 0)), (1, .int p1), (2, .int p2), (3, .int x3_69), (8, .int x8_46), (9, .int x9_75), (10, .int x10_124), (11, .int x11_124), (12, .int x12_124)]) hx hb dX6_lines_247 hl (by decide) rfl (fun ls hl => ?_)
                                        refine lv_iinc (v := (x9_75 + 1)) (lv' := [(9, .int (x9_75 + 1)), (6, .int x6_75), (7, .int y21), (5, .int y20), (4, .int (x4_75 + 1)), (0, .ref (a 0)), (1, .int p1), (2, .int p2), (3, .int x3_69), (8, .int x8_46), (10, .int x10_124), (11, .int x11_124), (12, .int x12_124)]) hx hb dX6_lines_249 hl (k := 9) rfl rfl (by decide) rfl (fun ls hl => ?_)
                                        refine lv_goto (tgt := 75) hx hb dX6_lines_252 (by decide) ?_
                                        exact ih75 (x4_75 + 1) y20 x6_75 y21 (x9_75 + 1) (lp_pos h0_75 c14) (lp_dec c14 hf_75) (by subst ey20; subst ey21; rw [hF]; simp only [f_X6_lines_L124, if_pos c18, if_pos c19, if_pos c22]) _ _ hP hD hS ls (lv_sub hl [5, 6, 7, 8, 4, 3, 1, 2, 9, 0] rfl)
                                      · skip
                                        refine lv_iload hx hb dX6_lines_240 (lv_at hl 11 rfl) ?_
                                        refine lv_goto (tgt := 247) hx hb dX6_lines_242 (by decide) ?_
                                        refine lv_istore (lv' := [(6, .int x11_124), (7, .int y21), (5, .int y20), (4, .int (x4_75 + 1)), (0, .ref (a 0)), (1, .int p1), (2, .int p2), (3, .int x3_69), (8, .int x8_46), (9, .int x9_75), (10, .int x10_124), (11, .int x11_124), (12, .int x12_124)]) hx hb dX6_lines_247 hl (by decide) rfl (fun ls hl => ?_)
                                        refine lv_iinc (v := (x9_75 + 1)) (lv' := [(9, .int (x9_75 + 1)), (6, .int x11_124), (7, .int y21), (5, .int y20), (4, .int (x4_75 + 1)), (0, .ref (a 0)), (1, .int p1), (2, .int p2), (3, .int x3_69), (8, .int x8_46), (10, .int x10_124), (11, .int x11_124), (12, .int x12_124)]) hx hb dX6_lines_249 hl (k := 9) rfl rfl (by decide) rfl (fun ls hl => ?_)
                                        refine lv_goto (tgt := 75) hx hb dX6_lines_252 (by decide) ?_
                                        exact ih75 (x4_75 + 1) y20 x11_124 y21 (x9_75 + 1) (lp_pos h0_75 c14) (lp_dec c14 hf_75) (by subst ey20; subst ey21; rw [hF]; simp only [f_X6_lines_L124, if_pos c18, if_pos c19, if_neg c22]) _ _ hP hD hS ls (lv_sub hl [5, 6, 7, 8, 4, 3, 1, 2, 9, 0] rfl)
                                  · skip
                                    have hI12 : vp_in x12_124 12 := ix12 h0_124 c18 hp
                                    refine lv_aload_n hx hb dX6_lines_130 rfl (lv_at hl 0 rfl) ?_
                                    refine lv_iload hx hb dX6_lines_131 (lv_at hl 12 rfl) ?_
                                    refine cp_i (va_runV (As := [.int x12_124]) (rest := []) ⟨hx, hb, hml, hown, hts⟩ (c_X6_isNew l dC dI a cI cJ xs ys pl lp lq lr (0 : Int32) v1 v2 v3 v4 v5 v6 v7 x12_124 (by first | with_reducible assumption | exact in0_24 | exact in0_60 | decide)) (cwV 1 hts (gG_V mG_30_5 mG_30_6 mG_30_7 mG_1_5 (gG_c mG_30_8 gG_G)) rfl rfl rfl hd_X6_isNew ⟨Nat.le_of_ble_eq_true rfl, Nat.le_of_ble_eq_true rfl⟩) (pPcV (ci := 10) (q0 := 0) hK hP rfl rfl) rfl rfl hl.1 rfl (lv_room (Nat.le_of_ble_eq_true rfl)) dX6_lines_133 ⟨Nat.le_of_ble_eq_true rfl, Nat.le_of_ble_eq_true rfl⟩) hP hS (fun H hP hS => ?_)
                                    refine lv_if_eq (tgt := 156) hx hb dX6_lines_136 (by decide) (fun c23 => ?_) (fun c23 => ?_)
                                    · skip
                                      refine lv_iconst (v := (0 : Int32)) hx hb dX6_lines_156 (by decide) ?_
                                      refine lv_istore (lv' := [(13, .int (0 : Int32)), (0, .ref (a 0)), (1, .int p1), (2, .int p2), (3, .int x3_69), (4, .int x4_75), (5, .int x5_75), (6, .int x6_75), (7, .int x7_75), (8, .int x8_46), (9, .int x9_75), (10, .int x10_124), (11, .int x11_124), (12, .int x12_124)]) hx hb dX6_lines_157 hl (by decide) rfl (fun ls hl => ?_)
                                      refine lv_iload hx hb dX6_lines_159 (lv_at hl 11 rfl) ?_
                                      refine lv_iload hx hb dX6_lines_161 (lv_at hl 0 rfl) ?_
                                      refine lv_if_eq (tgt := 184) hx hb dX6_lines_163 (by decide) (fun _ => ?_) (fun c9 => absurd c9 (by decide))
                                      refine lv_iconst (v := (0 : Int32)) hx hb dX6_lines_184 (by decide) ?_
                                      refine lv_iadd hx hb dX6_lines_185 ?_
                                      refine lv_topi (fun y24 ey24 => ?_)
                                      refine lv_istore (lv' := [(10, .int y24), (13, .int (0 : Int32)), (0, .ref (a 0)), (1, .int p1), (2, .int p2), (3, .int x3_69), (4, .int x4_75), (5, .int x5_75), (6, .int x6_75), (7, .int x7_75), (8, .int x8_46), (9, .int x9_75), (11, .int x11_124), (12, .int x12_124)]) hx hb dX6_lines_186 hl (by decide) rfl (fun ls hl => ?_)
                                      refine lv_iload hx hb dX6_lines_188 (lv_at hl 12 rfl) ?_
                                      refine lv_iload hx hb dX6_lines_190 (lv_at hl 1 rfl) ?_
                                      refine lv_if_eq (tgt := 199) hx hb dX6_lines_192 (by decide) (fun _ => ?_) (fun c9 => absurd c9 (by decide))
                                      refine lv_iconst (v := (0 : Int32)) hx hb dX6_lines_199 (by decide) ?_
                                      refine lv_iadd hx hb dX6_lines_200 ?_
                                      refine lv_topi (fun y25 ey25 => ?_)
                                      refine lv_istore (lv' := [(11, .int y25), (10, .int y24), (13, .int (0 : Int32)), (0, .ref (a 0)), (1, .int p1), (2, .int p2), (3, .int x3_69), (4, .int x4_75), (5, .int x5_75), (6, .int x6_75), (7, .int x7_75), (8, .int x8_46), (9, .int x9_75), (12, .int x12_124)]) hx hb dX6_lines_201 hl (by decide) rfl (fun ls hl => ?_)
                                      refine lv_iinc (v := (x12_124 + 1)) (lv' := [(12, .int (x12_124 + 1)), (11, .int y25), (10, .int y24), (13, .int (0 : Int32)), (0, .ref (a 0)), (1, .int p1), (2, .int p2), (3, .int x3_69), (4, .int x4_75), (5, .int x5_75), (6, .int x6_75), (7, .int x7_75), (8, .int x8_46), (9, .int x9_75)]) hx hb dX6_lines_203 hl (k := 13) rfl rfl (by decide) rfl (fun ls hl => ?_)
                                      refine lv_goto (tgt := 124) hx hb dX6_lines_206 (by decide) ?_
                                      exact ih124 y24 y25 (x12_124 + 1) (lp_pos h0_124 c18) (lp_dec c18 hf_124) (by subst ey24; subst ey25; rw [hF]; simp only [f_X6_lines_L124, if_neg c18, if_pos c23]) _ _ hP hD hS ls (lv_sub hl [4, 5, 6, 7, 8, 9, 10, 11, 12, 13, 2, 1, 0] rfl)
                                    · skip
                                      refine lv_aload_n hx hb dX6_lines_139 rfl (lv_at hl 0 rfl) ?_
                                      refine lv_iload hx hb dX6_lines_140 (lv_at hl 8 rfl) ?_
                                      refine lv_iload hx hb dX6_lines_142 (lv_at hl 9 rfl) ?_
                                      refine lv_iload hx hb dX6_lines_144 (lv_at hl 12 rfl) ?_
                                      refine cp_i (va_runV (As := [.int x8_46, .int x9_75, .int x12_124]) (rest := []) ⟨hx, hb, hml, hown, hts⟩ (c_X6_isThrough l dC dI a cI cJ xs ys pl lp lq lr (0 : Int32) v1 v2 v3 v4 v5 v6 v7 x8_46 x9_75 x12_124 (by first | with_reducible assumption | exact in0_24 | exact in0_60 | decide) (by first | with_reducible assumption | exact in0_24 | exact in0_60 | decide) (by first | with_reducible assumption | exact in0_24 | exact in0_60 | decide)) (cwV 3 hts (gG_V mG_30_17 mG_30_18 mG_30_19 mG_1_5 (gG_c mG_30_20 gG_G)) rfl rfl rfl hd_X6_isThrough ⟨Nat.le_of_ble_eq_true rfl, Nat.le_of_ble_eq_true rfl⟩) (pPcV (ci := 10) (q0 := 0) hK hP rfl rfl) rfl rfl hl.1 rfl (lv_room (Nat.le_of_ble_eq_true rfl)) dX6_lines_146 ⟨Nat.le_of_ble_eq_true rfl, Nat.le_of_ble_eq_true rfl⟩) hP hS (fun H hP hS => ?_)
                                      refine lv_if_eq (tgt := 156) hx hb dX6_lines_149 (by decide) (fun c26 => ?_) (fun c26 => ?_)
                                      · skip
                                        refine lv_iconst (v := (0 : Int32)) hx hb dX6_lines_156 (by decide) ?_
                                        refine lv_istore (lv' := [(13, .int (0 : Int32)), (0, .ref (a 0)), (1, .int p1), (2, .int p2), (3, .int x3_69), (4, .int x4_75), (5, .int x5_75), (6, .int x6_75), (7, .int x7_75), (8, .int x8_46), (9, .int x9_75), (10, .int x10_124), (11, .int x11_124), (12, .int x12_124)]) hx hb dX6_lines_157 hl (by decide) rfl (fun ls hl => ?_)
                                        refine lv_iload hx hb dX6_lines_159 (lv_at hl 11 rfl) ?_
                                        refine lv_iload hx hb dX6_lines_161 (lv_at hl 0 rfl) ?_
                                        refine lv_if_eq (tgt := 184) hx hb dX6_lines_163 (by decide) (fun _ => ?_) (fun c9 => absurd c9 (by decide))
                                        refine lv_iconst (v := (0 : Int32)) hx hb dX6_lines_184 (by decide) ?_
                                        refine lv_iadd hx hb dX6_lines_185 ?_
                                        refine lv_topi (fun y27 ey27 => ?_)
                                        refine lv_istore (lv' := [(10, .int y27), (13, .int (0 : Int32)), (0, .ref (a 0)), (1, .int p1), (2, .int p2), (3, .int x3_69), (4, .int x4_75), (5, .int x5_75), (6, .int x6_75), (7, .int x7_75), (8, .int x8_46), (9, .int x9_75), (11, .int x11_124), (12, .int x12_124)]) hx hb dX6_lines_186 hl (by decide) rfl (fun ls hl => ?_)
                                        refine lv_iload hx hb dX6_lines_188 (lv_at hl 12 rfl) ?_
                                        refine lv_iload hx hb dX6_lines_190 (lv_at hl 1 rfl) ?_
                                        refine lv_if_eq (tgt := 199) hx hb dX6_lines_192 (by decide) (fun _ => ?_) (fun c9 => absurd c9 (by decide))
                                        refine lv_iconst (v := (0 : Int32)) hx hb dX6_lines_199 (by decide) ?_
                                        refine lv_iadd hx hb dX6_lines_200 ?_
                                        refine lv_topi (fun y28 ey28 => ?_)
                                        refine lv_istore (lv' := [(11, .int y28), (10, .int y27), (13, .int (0 : Int32)), (0, .ref (a 0)), (1, .int p1), (2, .int p2), (3, .int x3_69), (4, .int x4_75), (5, .int x5_75), (6, .int x6_75), (7, .int x7_75), (8, .int x8_46), (9, .int x9_75), (12, .int x12_124)]) hx hb dX6_lines_201 hl (by decide) rfl (fun ls hl => ?_)
                                        refine lv_iinc (v := (x12_124 + 1)) (lv' := [(12, .int (x12_124 + 1)), (11, .int y28), (10, .int y27), (13, .int (0 : Int32)), (0, .ref (a 0)), (1, .int p1), (2, .int p2), (3, .int x3_69), (4, .int x4_75), (5, .int x5_75), (6, .int x6_75), (7, .int x7_75), (8, .int x8_46), (9, .int x9_75)]) hx hb dX6_lines_203 hl (k := 13) rfl rfl (by decide) rfl (fun ls hl => ?_)
                                        refine lv_goto (tgt := 124) hx hb dX6_lines_206 (by decide) ?_
                                        exact ih124 y27 y28 (x12_124 + 1) (lp_pos h0_124 c18) (lp_dec c18 hf_124) (by subst ey27; subst ey28; rw [hF]; simp only [f_X6_lines_L124, if_neg c18, if_neg c23, if_pos c26]) _ _ hP hD hS ls (lv_sub hl [4, 5, 6, 7, 8, 9, 10, 11, 12, 13, 2, 1, 0] rfl)
                                      · skip
                                        refine lv_iconst (v := (1 : Int32)) hx hb dX6_lines_152 (by decide) ?_
                                        refine lv_goto (tgt := 157) hx hb dX6_lines_153 (by decide) ?_
                                        refine lv_istore (lv' := [(13, .int (1 : Int32)), (0, .ref (a 0)), (1, .int p1), (2, .int p2), (3, .int x3_69), (4, .int x4_75), (5, .int x5_75), (6, .int x6_75), (7, .int x7_75), (8, .int x8_46), (9, .int x9_75), (10, .int x10_124), (11, .int x11_124), (12, .int x12_124)]) hx hb dX6_lines_157 hl (by decide) rfl (fun ls hl => ?_)
                                        refine lv_iload hx hb dX6_lines_159 (lv_at hl 11 rfl) ?_
                                        refine lv_iload hx hb dX6_lines_161 (lv_at hl 0 rfl) ?_
                                        refine lv_if_eq (tgt := 184) hx hb dX6_lines_163 (by decide) (fun c9 => absurd c9 (by decide)) (fun _ => ?_)
                                        refine lv_iload hx hb dX6_lines_166 (lv_at hl 13 rfl) ?_
                                        refine lv_iload hx hb dX6_lines_168 (lv_at hl 10 rfl) ?_
                                        refine lv_icmp_ge (tgt := 184) hx hb dX6_lines_170 (by decide) (fun c29 => ?_) (fun c29 => ?_)
                                        · skip
                                          refine lv_iconst (v := (0 : Int32)) hx hb dX6_lines_184 (by decide) ?_
                                          refine lv_iadd hx hb dX6_lines_185 ?_
                                          refine lv_topi (fun y30 ey30 => ?_)
                                          refine lv_istore (lv' := [(10, .int y30), (13, .int (1 : Int32)), (0, .ref (a 0)), (1, .int p1), (2, .int p2), (3, .int x3_69), (4, .int x4_75), (5, .int x5_75), (6, .int x6_75), (7, .int x7_75), (8, .int x8_46), (9, .int x9_75), (11, .int x11_124), (12, .int x12_124)]) hx hb dX6_lines_186 hl (by decide) rfl (fun ls hl => ?_)
                                          refine lv_iload hx hb dX6_lines_188 (lv_at hl 12 rfl) ?_
                                          refine lv_iload hx hb dX6_lines_190 (lv_at hl 1 rfl) ?_
                                          refine lv_if_eq (tgt := 199) hx hb dX6_lines_192 (by decide) (fun c9 => absurd c9 (by decide)) (fun _ => ?_)
                                          refine lv_iconst (v := (1 : Int32)) hx hb dX6_lines_195 (by decide) ?_
                                          refine lv_goto (tgt := 200) hx hb dX6_lines_196 (by decide) ?_
                                          refine lv_iadd hx hb dX6_lines_200 ?_
                                          refine lv_topi (fun y31 ey31 => ?_)
                                          refine lv_istore (lv' := [(11, .int y31), (10, .int y30), (13, .int (1 : Int32)), (0, .ref (a 0)), (1, .int p1), (2, .int p2), (3, .int x3_69), (4, .int x4_75), (5, .int x5_75), (6, .int x6_75), (7, .int x7_75), (8, .int x8_46), (9, .int x9_75), (12, .int x12_124)]) hx hb dX6_lines_201 hl (by decide) rfl (fun ls hl => ?_)
                                          refine lv_iinc (v := (x12_124 + 1)) (lv' := [(12, .int (x12_124 + 1)), (11, .int y31), (10, .int y30), (13, .int (1 : Int32)), (0, .ref (a 0)), (1, .int p1), (2, .int p2), (3, .int x3_69), (4, .int x4_75), (5, .int x5_75), (6, .int x6_75), (7, .int x7_75), (8, .int x8_46), (9, .int x9_75)]) hx hb dX6_lines_203 hl (k := 13) rfl rfl (by decide) rfl (fun ls hl => ?_)
                                          refine lv_goto (tgt := 124) hx hb dX6_lines_206 (by decide) ?_
                                          exact ih124 y30 y31 (x12_124 + 1) (lp_pos h0_124 c18) (lp_dec c18 hf_124) (by subst ey30; subst ey31; rw [hF]; simp only [f_X6_lines_L124, if_neg c18, if_neg c23, if_neg c26, if_pos c29]) _ _ hP hD hS ls (lv_sub hl [4, 5, 6, 7, 8, 9, 10, 11, 12, 13, 2, 1, 0] rfl)
                                        · skip
                                          refine lv_iload hx hb dX6_lines_173 (lv_at hl 13 rfl) ?_
                                          refine lv_iload hx hb dX6_lines_175 (lv_at hl 9 rfl) ?_
                                          refine lv_icmp_eq (tgt := 184) hx hb dX6_lines_177 (by decide) (fun c32 => ?_) (fun c32 => ?_)
                                          · skip
                                            refine lv_iconst (v := (0 : Int32)) hx hb dX6_lines_184 (by decide) ?_
                                            refine lv_iadd hx hb dX6_lines_185 ?_
                                            refine lv_topi (fun y33 ey33 => ?_)
                                            refine lv_istore (lv' := [(10, .int y33), (13, .int (1 : Int32)), (0, .ref (a 0)), (1, .int p1), (2, .int p2), (3, .int x3_69), (4, .int x4_75), (5, .int x5_75), (6, .int x6_75), (7, .int x7_75), (8, .int x8_46), (9, .int x9_75), (11, .int x11_124), (12, .int x12_124)]) hx hb dX6_lines_186 hl (by decide) rfl (fun ls hl => ?_)
                                            refine lv_iload hx hb dX6_lines_188 (lv_at hl 12 rfl) ?_
                                            refine lv_iload hx hb dX6_lines_190 (lv_at hl 1 rfl) ?_
                                            refine lv_if_eq (tgt := 199) hx hb dX6_lines_192 (by decide) (fun c9 => absurd c9 (by decide)) (fun _ => ?_)
                                            refine lv_iconst (v := (1 : Int32)) hx hb dX6_lines_195 (by decide) ?_
                                            refine lv_goto (tgt := 200) hx hb dX6_lines_196 (by decide) ?_
                                            refine lv_iadd hx hb dX6_lines_200 ?_
                                            refine lv_topi (fun y34 ey34 => ?_)
                                            refine lv_istore (lv' := [(11, .int y34), (10, .int y33), (13, .int (1 : Int32)), (0, .ref (a 0)), (1, .int p1), (2, .int p2), (3, .int x3_69), (4, .int x4_75), (5, .int x5_75), (6, .int x6_75), (7, .int x7_75), (8, .int x8_46), (9, .int x9_75), (12, .int x12_124)]) hx hb dX6_lines_201 hl (by decide) rfl (fun ls hl => ?_)
                                            refine lv_iinc (v := (x12_124 + 1)) (lv' := [(12, .int (x12_124 + 1)), (11, .int y34), (10, .int y33), (13, .int (1 : Int32)), (0, .ref (a 0)), (1, .int p1), (2, .int p2), (3, .int x3_69), (4, .int x4_75), (5, .int x5_75), (6, .int x6_75), (7, .int x7_75), (8, .int x8_46), (9, .int x9_75)]) hx hb dX6_lines_203 hl (k := 13) rfl rfl (by decide) rfl (fun ls hl => ?_)
                                            refine lv_goto (tgt := 124) hx hb dX6_lines_206 (by decide) ?_
                                            exact ih124 y33 y34 (x12_124 + 1) (lp_pos h0_124 c18) (lp_dec c18 hf_124) (by subst ey33; subst ey34; rw [hF]; simp only [f_X6_lines_L124, if_neg c18, if_neg c23, if_neg c26, if_neg c29, if_pos c32]) _ _ hP hD hS ls (lv_sub hl [4, 5, 6, 7, 8, 9, 10, 11, 12, 13, 2, 1, 0] rfl)
                                          · skip
                                            refine lv_iconst (v := (1 : Int32)) hx hb dX6_lines_180 (by decide) ?_
                                            refine lv_goto (tgt := 185) hx hb dX6_lines_181 (by decide) ?_
                                            refine lv_iadd hx hb dX6_lines_185 ?_
                                            refine lv_topi (fun y35 ey35 => ?_)
                                            refine lv_istore (lv' := [(10, .int y35), (13, .int (1 : Int32)), (0, .ref (a 0)), (1, .int p1), (2, .int p2), (3, .int x3_69), (4, .int x4_75), (5, .int x5_75), (6, .int x6_75), (7, .int x7_75), (8, .int x8_46), (9, .int x9_75), (11, .int x11_124), (12, .int x12_124)]) hx hb dX6_lines_186 hl (by decide) rfl (fun ls hl => ?_)
                                            refine lv_iload hx hb dX6_lines_188 (lv_at hl 12 rfl) ?_
                                            refine lv_iload hx hb dX6_lines_190 (lv_at hl 1 rfl) ?_
                                            refine lv_if_eq (tgt := 199) hx hb dX6_lines_192 (by decide) (fun c9 => absurd c9 (by decide)) (fun _ => ?_)
                                            refine lv_iconst (v := (1 : Int32)) hx hb dX6_lines_195 (by decide) ?_
                                            refine lv_goto (tgt := 200) hx hb dX6_lines_196 (by decide) ?_
                                            refine lv_iadd hx hb dX6_lines_200 ?_
                                            refine lv_topi (fun y36 ey36 => ?_)
                                            refine lv_istore (lv' := [(11, .int y36), (10, .int y35), (13, .int (1 : Int32)), (0, .ref (a 0)), (1, .int p1), (2, .int p2), (3, .int x3_69), (4, .int x4_75), (5, .int x5_75), (6, .int x6_75), (7, .int x7_75), (8, .int x8_46), (9, .int x9_75), (12, .int x12_124)]) hx hb dX6_lines_201 hl (by decide) rfl (fun ls hl => ?_)
                                            refine lv_iinc (v := (x12_124 + 1)) (lv' := [(12, .int (x12_124 + 1)), (11, .int y36), (10, .int y35), (13, .int (1 : Int32)), (0, .ref (a 0)), (1, .int p1), (2, .int p2), (3, .int x3_69), (4, .int x4_75), (5, .int x5_75), (6, .int x6_75), (7, .int x7_75), (8, .int x8_46), (9, .int x9_75)]) hx hb dX6_lines_203 hl (k := 13) rfl rfl (by decide) rfl (fun ls hl => ?_)
                                            refine lv_goto (tgt := 124) hx hb dX6_lines_206 (by decide) ?_
                                            exact ih124 y35 y36 (x12_124 + 1) (lp_pos h0_124 c18) (lp_dec c18 hf_124) (by subst ey35; subst ey36; rw [hF]; simp only [f_X6_lines_L124, if_neg c18, if_neg c23, if_neg c26, if_neg c29, if_neg c32]) _ _ hP hD hS ls (lv_sub hl [4, 5, 6, 7, 8, 9, 10, 11, 12, 13, 2, 1, 0] rfl)
                              exact K124 25 (0 : Int32) (0 : Int32) (0 : Int32) (by decide) (lp_fuel (by decide) hn) (by rw [hF]; simp only [f_X6_lines_L75, if_neg c14, if_neg c15, if_neg c16, if_neg c17]) _ _ hP hD hS ls (lv_sub hl [3, 4, 5, 6, 7, 8, 9, 10, 11, 12, 2, 1, 0] rfl)
                            · skip
                              refine lv_goto (tgt := 249) hx hb dX6_lines_112 (by decide) ?_
                              refine lv_iinc (v := (x9_75 + 1)) (lv' := [(9, .int (x9_75 + 1)), (0, .ref (a 0)), (1, .int p1), (2, .int p2), (3, .int x3_69), (4, .int x4_75), (5, .int x5_75), (6, .int x6_75), (7, .int x7_75), (8, .int x8_46)]) hx hb dX6_lines_249 hl (k := 9) rfl rfl (by decide) rfl (fun ls hl => ?_)
                              refine lv_goto (tgt := 75) hx hb dX6_lines_252 (by decide) ?_
                              exact ih75 x4_75 x5_75 x6_75 x7_75 (x9_75 + 1) (lp_pos h0_75 c14) (lp_dec c14 hf_75) (by rw [hF]; simp only [f_X6_lines_L75, if_neg c14, if_neg c15, if_neg c16, if_pos c17]) _ _ hP hD hS ls (lv_sub hl [1, 2, 3, 4, 5, 6, 7, 8, 9, 0] rfl)
                  exact K75 25 x4_46 x5_46 x6_46 x7_46 y13 (by rw [ey13]; exact lp_pos h0_46 c5) (lp_fuel (by rw [ey13]; exact lp_pos h0_46 c5) hn) (by subst ey13; rw [hF]; simp only [f_X6_lines_J69]) _ _ hP hD hS ls (lv_sub hl [1, 2, 3, 4, 5, 6, 7, 8, 9, 0] rfl)
                refine lv_iload_n hx hb dX6_lines_52 rfl (lv_at hl 3 rfl) ?_
                refine lv_aload_n hx hb dX6_lines_53 rfl (lv_at hl 0 rfl) ?_
                refine lv_iload hx hb dX6_lines_54 (lv_at hl 8 rfl) ?_
                refine cp_i (va_runV (As := [.int x8_46]) (rest := [.int x3_46]) ⟨hx, hb, hml, hown, hts⟩ (c_X6_isNew l dC dI a cI cJ xs ys pl lp lq lr (0 : Int32) v1 v2 v3 v4 v5 v6 v7 x8_46 (by first | with_reducible assumption | exact in0_24 | exact in0_60 | decide)) (cwV 1 hts (gG_V mG_30_5 mG_30_6 mG_30_7 mG_1_5 (gG_c mG_30_8 gG_G)) rfl rfl rfl hd_X6_isNew ⟨Nat.le_of_ble_eq_true rfl, Nat.le_of_ble_eq_true rfl⟩) (pPcV (ci := 10) (q0 := 0) hK hP rfl rfl) rfl rfl hl.1 rfl (lv_room (Nat.le_of_ble_eq_true rfl)) dX6_lines_56 ⟨Nat.le_of_ble_eq_true rfl, Nat.le_of_ble_eq_true rfl⟩) hP hS (fun H hP hS => ?_)
                refine lv_if_eq (tgt := 66) hx hb dX6_lines_59 (by decide) (fun c37 => ?_) (fun c37 => ?_)
                · skip
                  refine lv_iconst (v := (0 : Int32)) hx hb dX6_lines_66 (by decide) ?_
                  refine lv_iadd hx hb dX6_lines_67 ?_
                  refine lv_topi (fun y38 ey38 => ?_)
                  refine lv_istore_n (lv' := [(3, .int y38), (0, .ref (a 0)), (1, .int p1), (2, .int p2), (4, .int x4_46), (5, .int x5_46), (6, .int x6_46), (7, .int x7_46), (8, .int x8_46)]) hx hb dX6_lines_68 rfl hl (by decide) rfl (fun ls hl => ?_)
                  exact K69 y38 (by subst ey38; rw [hF]; simp only [f_X6_lines_L46, if_neg c5, if_pos c37]) _ _ hP hD hS ls (lv_sub hl [1, 2, 3, 0, 4, 5, 6, 7, 8] rfl)
                · skip
                  refine lv_iconst (v := (1 : Int32)) hx hb dX6_lines_62 (by decide) ?_
                  refine lv_goto (tgt := 67) hx hb dX6_lines_63 (by decide) ?_
                  refine lv_iadd hx hb dX6_lines_67 ?_
                  refine lv_topi (fun y39 ey39 => ?_)
                  refine lv_istore_n (lv' := [(3, .int y39), (0, .ref (a 0)), (1, .int p1), (2, .int p2), (4, .int x4_46), (5, .int x5_46), (6, .int x6_46), (7, .int x7_46), (8, .int x8_46)]) hx hb dX6_lines_68 rfl hl (by decide) rfl (fun ls hl => ?_)
                  exact K69 y39 (by subst ey39; rw [hF]; simp only [f_X6_lines_L46, if_neg c5, if_neg c37]) _ _ hP hD hS ls (lv_sub hl [1, 2, 3, 0, 4, 5, 6, 7, 8] rfl)
          exact K46 25 (0 : Int32) (0 : Int32) (0 : Int32) (0 : Int32) (0 : Int32) (0 : Int32) (by decide) (lp_fuel (by decide) hn) (by rw [eF]; simp only [f_X6_lines, if_neg c1, if_neg c2, if_neg c3, if_pos c4]) _ _ hP hD hS ls (lv_sub hl [6, 7, 8, 5, 4, 3, 2, 1, 0] rfl)
        · skip
          refine lv_bipush (v := (-2 : Int32)) hx hb dX6_lines_26 (by decide) ?_
          have hE : (f_X6_lines lp lq lr v0 v7 p1 p2) = ((-2 : Int32), (0 : Int32)) := (by simp only [f_X6_lines, if_neg c1, if_neg c2, if_neg c3, if_neg c4])
          exact rw_i hQ hx hb hr hlk (by rw [hE]; exact hP) hS (by rw [hE]) dX6_lines_28
