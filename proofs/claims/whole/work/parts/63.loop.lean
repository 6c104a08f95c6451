theorem sw_21 {x : Int32} (h0 : ¬ x = 0) (h1 : ¬ x = 1) (h2 : ¬ x = 2) (h3 : ¬ x = 3) (h4 : ¬ x = 4) (h5 : ¬ x = 5) (h6 : ¬ x = 6) (h7 : ¬ x = 7) (h8 : ¬ x = 8) (h9 : ¬ x = 9) (h10 : ¬ x = 10) (h11 : ¬ x = 11) (h12 : ¬ x = 12) (h13 : ¬ x = 13) (h14 : ¬ x = 14) (h15 : ¬ x = 15) (h16 : ¬ x = 16) (h17 : ¬ x = 17) (h18 : ¬ x = 18) (h19 : ¬ x = 19) (h20 : ¬ x = 20) (h21 : ¬ x = 21) : x.toInt < 0 ∨ 21 < x.toInt := by
  have a0 := sw_aux h0
  rw [show (0 : Int32).toInt = 0 by decide] at a0
  have a1 := sw_aux h1
  rw [show (1 : Int32).toInt = 1 by decide] at a1
  have a2 := sw_aux h2
  rw [show (2 : Int32).toInt = 2 by decide] at a2
  have a3 := sw_aux h3
  rw [show (3 : Int32).toInt = 3 by decide] at a3
  have a4 := sw_aux h4
  rw [show (4 : Int32).toInt = 4 by decide] at a4
  have a5 := sw_aux h5
  rw [show (5 : Int32).toInt = 5 by decide] at a5
  have a6 := sw_aux h6
  rw [show (6 : Int32).toInt = 6 by decide] at a6
  have a7 := sw_aux h7
  rw [show (7 : Int32).toInt = 7 by decide] at a7
  have a8 := sw_aux h8
  rw [show (8 : Int32).toInt = 8 by decide] at a8
  have a9 := sw_aux h9
  rw [show (9 : Int32).toInt = 9 by decide] at a9
  have a10 := sw_aux h10
  rw [show (10 : Int32).toInt = 10 by decide] at a10
  have a11 := sw_aux h11
  rw [show (11 : Int32).toInt = 11 by decide] at a11
  have a12 := sw_aux h12
  rw [show (12 : Int32).toInt = 12 by decide] at a12
  have a13 := sw_aux h13
  rw [show (13 : Int32).toInt = 13 by decide] at a13
  have a14 := sw_aux h14
  rw [show (14 : Int32).toInt = 14 by decide] at a14
  have a15 := sw_aux h15
  rw [show (15 : Int32).toInt = 15 by decide] at a15
  have a16 := sw_aux h16
  rw [show (16 : Int32).toInt = 16 by decide] at a16
  have a17 := sw_aux h17
  rw [show (17 : Int32).toInt = 17 by decide] at a17
  have a18 := sw_aux h18
  rw [show (18 : Int32).toInt = 18 by decide] at a18
  have a19 := sw_aux h19
  rw [show (19 : Int32).toInt = 19 by decide] at a19
  have a20 := sw_aux h20
  rw [show (20 : Int32).toInt = 20 by decide] at a20
  have a21 := sw_aux h21
  rw [show (21 : Int32).toInt = 21 by decide] at a21
  omega
set_option maxHeartbeats 8000000 in
set_option maxRecDepth 100000 in
theorem lw_loop {p : Program} {l : Launch} {e : Env} {s : State} {m : MethodId} {below : List Frame} {meth : Method} {c : Code} {bs L : Nat} {sc : Nat → Int32} (hL : L ≤ 3584) (hx : p.tables.exec = Jvm.exec) (hb : c.code = cL_law) (hr : meth.sig.returnType = ret) (hml : c.maxLocals = 8) (hown : s.vm.findClass RL = some m.cls) (htH : ∀ w ∈ lw_H, w.before #[Value.ref bs] s = true) (hXs : va_X bs L sc s s.heap) (hbl : bs < s.heap.size) (hlocks : meth.locks = false) (hlt : l.stackTraces = false) {dC : Nat → ClassId} {dI : Nat → Nat → Nat} {a b : Nat → Nat} {cI cJ : ClassId} {sa : Nat → Nat} {o : Nat} (hK : kK (dC, dI) (tIJ cI cJ) s) (hX : kX (fun q : Nat => s.heap.size ≤ q) sa s s.heap) : ∀ (n t ce sl : Nat), 7 * t ≤ L → L < 7 * t + n → ce = 21 + t → sl = 414 + 8 * t → ∀ (xs ys pl pm kp : Nat → Int32) (lp lq lr : Nat → Int64) (P on c1 c2 c3 rh ln d7 d8 d9 d10 th : Int32) (fo : Nat → Int64), Inv xs ys pl pm lp lq lr P on rh ln → ∀ (H : Heap) (locs : List Loc), va_P (dC, dI) vwCl ((wM b cI cJ xs ys pm lp lq lr th P rh on c1 c2 c3 ln) ++ ((wC a cI cJ xs ys pl kp lp lq lr P on c1 c2 c3 rh ln d7 d8 d9 d10) ++ (wO o cJ fo))) H → va_D (fun q : Nat => s.heap.size ≤ q) ((wM b cI cJ xs ys pm lp lq lr th P rh on c1 c2 c3 ln) ++ ((wC a cI cJ xs ys pl kp lp lq lr P on c1 c2 c3 rh ln d7 d8 d9 d10) ++ (wO o cJ fo))) → va_S (fun q : Nat => s.heap.size ≤ q) s.heap H locs → ∀ (ls : Array Slot), lv_has ls 8 [(0, .ref bs), (1, .ref (a 0)), (2, .ref (b 0)), (3, .ref o), (4, .int (nI (7 * t)))] → W p l e room_1 s m #[Value.ref bs] below meth c H locs ce sl (lw_Z below #[Value.ref bs] s) (F0 m 23 ls []) := by
  intro n
  induction n with
  | zero => intro t ce sl h1 h2; exact absurd h2 (by omega)
  | succ n ih =>
    intro t ce sl ht hf hce0 hsl0 xs ys pl pm kp lp lq lr P on c1 c2 c3 rh ln d7 d8 d9 d10 th fo hI H locs hP hD hS ls hl
    have hbA : ¬ (fun q : Nat => s.heap.size ≤ q) bs := Nat.not_le.mpr hbl
    refine lv_iload hx hb dL_law_23 (lv_at hl 4 rfl) ?_
    refine lv_aload_n hx hb dL_law_25 rfl (lv_at hl 0 rfl) ?_
    refine va_slen hx hb hXs hbl hbA hS dL_law_26 ?_
    refine lv_bipush (v := (7 : Int32)) hx hb dL_law_27 (by decide) ?_
    refine lv_isub hx hb dL_law_29 ?_
    have e7 : (Int32.ofNat L - 7).toInt = (L : Int) - 7 := pk_sub_toInt (a := L) (b := 7) (by omega) (by omega)
    have e8 : (nI (7 * t)).toInt = ((7 * t : Nat) : Int) := nI_toInt (by omega)
    refine lv_icmp_gt (tgt := 1317) hx hb dL_law_30 (by decide) (fun c9 => ?_) (fun c9 => ?_)
    · refine lv_iconst (v := (1 : Int32)) hx hb dL_law_1317 (by decide) ?_
      refine va_forget (fun q hq => hS.2.2 q hq) ?_
      refine W.widen (k := 603072) (n := 7198826) (by omega) (by omega) ?_
      refine W.base ?_
      exact lw_ret (Drawn.sameBut.refl s.drawn lw_cs) hx hb hr hlocks dL_law_1318
    · rw [Int32.lt_iff_toInt_lt, e7, e8] at c9
      have ht7 : 7 * t + 7 ≤ L := by omega
      have hin : ∀ k : Int32, 0 ≤ k → k ≤ 6 → vp_in (nI (7 * t) + k) L := by
        intro k k0 k6
        obtain ⟨j, hj, rfl⟩ := nI_of2 (x := k) (M := 6) (n := 6) rfl (Int32.not_lt.mpr k0) k6
        rw [nI_add]; exact vp_in_nI (by omega) (by omega)
      have hce : ce + 1 ≤ 603072 := by omega
      have hsl : sl + 8 ≤ 7198826 := by omega
      have K : ∀ (xs ys pl pm kp : Nat → Int32) (lp lq lr : Nat → Int64) (P on c1 c2 c3 rh ln d7 d8 d9 d10 th : Int32) (fo : Nat → Int64), Inv xs ys pl pm lp lq lr P on rh ln → ∀ (H : Heap) (locs : List Loc), va_P (dC, dI) vwCl ((wM b cI cJ xs ys pm lp lq lr th P rh on c1 c2 c3 ln) ++ ((wC a cI cJ xs ys pl kp lp lq lr P on c1 c2 c3 rh ln d7 d8 d9 d10) ++ (wO o cJ fo))) H → va_D (fun q : Nat => s.heap.size ≤ q) ((wM b cI cJ xs ys pm lp lq lr th P rh on c1 c2 c3 ln) ++ ((wC a cI cJ xs ys pl kp lp lq lr P on c1 c2 c3 rh ln d7 d8 d9 d10) ++ (wO o cJ fo))) → va_S (fun q : Nat => s.heap.size ≤ q) s.heap H locs → ∀ (ls : Array Slot), lv_has ls 8 [(0, .ref bs), (1, .ref (a 0)), (2, .ref (b 0)), (3, .ref o), (4, .int (nI (7 * t)))] → W p l e room_1 s m #[Value.ref bs] below meth c H locs (ce + 1) (sl + 8) (lw_Z below #[Value.ref bs] s) (F0 m 1311 ls []) := by
        intro xs ys pl pm kp lp lq lr P on c1 c2 c3 rh ln d7 d8 d9 d10 th fo hI H locs hP hD hS ls hl
        refine lv_iinc (v := nI (7 * (t + 1))) (lv' := [(4, .int (nI (7 * (t + 1)))), (0, .ref bs), (1, .ref (a 0)), (2, .ref (b 0)), (3, .ref o)]) hx hb dL_law_1311 hl (k := 4) rfl (nI_add (7 * t) 7) (by decide) rfl (fun ls hl => ?_)
        refine lv_goto (tgt := 23) hx hb dL_law_1314 (by decide) ?_
        exact ih (t + 1) (ce + 1) (sl + 8) (by omega) (by omega) (by omega) (by omega) xs ys pl pm kp lp lq lr P on c1 c2 c3 rh ln d7 d8 d9 d10 th fo hI _ _ hP hD hS ls (lv_sub hl [1, 2, 3, 4, 0] rfl)
      refine lv_aload_n hx hb dL_law_33 rfl (lv_at hl 0 rfl) ?_
      refine lv_iload hx hb dL_law_34 (lv_at hl 4 rfl) ?_
      refine va_sld hx hb hXs hbl hbA hS (vp_in_nI (by omega) (by omega)) dL_law_36 ?_
      refine lv_bipush (v := (31 : Int32)) hx hb dL_law_37 (by decide) ?_
      refine lv_iand hx hb dL_law_39 ?_
      generalize (sc (nI (7 * t)).toNatClampNeg &&& 31) = x
      by_cases z0 : x = 0
      · subst z0
        refine lv_tableIn (off := 104) (tgt := 144) hx hb dL_law_40 (by decide) (by decide) rfl (by decide) ?_
        exact lc_0 hx hb hml hown htH hXs hbl hbA hlt hK hX hce hsl hin hI _ rfl _ rfl _ rfl _ rfl _ rfl _ rfl K H locs hP hD hS ls hl
      by_cases z1 : x = 1
      · subst z1
        refine lv_tableIn (off := 251) (tgt := 291) hx hb dL_law_40 (by decide) (by decide) rfl (by decide) ?_
        exact lc_1 hx hb hml hown htH hXs hbl hbA hlt hK hX hce hsl hin hI _ rfl K H locs hP hD hS ls hl
      by_cases z2 : x = 2
      · subst z2
        refine lv_tableIn (off := 307) (tgt := 347) hx hb dL_law_40 (by decide) (by decide) rfl (by decide) ?_
        exact lc_2 hx hb hml hown htH hXs hbl hbA hlt hK hX hce hsl hin hI _ rfl _ rfl K H locs hP hD hS ls hl
      by_cases z3 : x = 3
      · subst z3
        refine lv_tableIn (off := 375) (tgt := 415) hx hb dL_law_40 (by decide) (by decide) rfl (by decide) ?_
        exact lc_3 hx hb hml hown htH hXs hbl hbA hlt hK hX hce hsl hin hI _ rfl _ rfl K H locs hP hD hS ls hl
      by_cases z4 : x = 4
      · subst z4
        refine lv_tableIn (off := 443) (tgt := 483) hx hb dL_law_40 (by decide) (by decide) rfl (by decide) ?_
        exact lc_4 hx hb hml hown htH hXs hbl hbA hlt hK hX hce hsl hin hI _ rfl _ rfl _ rfl K H locs hP hD hS ls hl
      by_cases z5 : x = 5
      · subst z5
        refine lv_tableIn (off := 492) (tgt := 532) hx hb dL_law_40 (by decide) (by decide) rfl (by decide) ?_
        exact lc_5 hx hb hml hown htH hXs hbl hbA hlt hK hX hce hsl hin hI _ rfl _ rfl _ rfl _ rfl K H locs hP hD hS ls hl
      by_cases z6 : x = 6
      · subst z6
        refine lv_tableIn (off := 553) (tgt := 593) hx hb dL_law_40 (by decide) (by decide) rfl (by decide) ?_
        exact lc_6 hx hb hml hown htH hXs hbl hbA hlt hK hX hce hsl hin hI _ rfl K H locs hP hD hS ls hl
      by_cases z7 : x = 7
      · subst z7
        refine lv_tableIn (off := 594) (tgt := 634) hx hb dL_law_40 (by decide) (by decide) rfl (by decide) ?_
        exact lc_7 hx hb hml hown htH hXs hbl hbA hlt hK hX hce hsl hin hI _ rfl K H locs hP hD hS ls hl
      by_cases z8 : x = 8
      · subst z8
        refine lv_tableIn (off := 619) (tgt := 659) hx hb dL_law_40 (by decide) (by decide) rfl (by decide) ?_
        exact lc_8 hx hb hml hown htH hXs hbl hbA hlt hK hX hce hsl hin hI _ rfl _ rfl _ rfl K H locs hP hD hS ls hl
      by_cases z9 : x = 9
      · subst z9
        refine lv_tableIn (off := 668) (tgt := 708) hx hb dL_law_40 (by decide) (by decide) rfl (by decide) ?_
        exact lc_9 hx hb hml hown htH hXs hbl hbA hlt hK hX hce hsl hin hI _ rfl _ rfl _ rfl _ rfl K H locs hP hD hS ls hl
      by_cases z10 : x = 10
      · subst z10
        refine lv_tableIn (off := 729) (tgt := 769) hx hb dL_law_40 (by decide) (by decide) rfl (by decide) ?_
        exact lc_10 hx hb hml hown htH hXs hbl hbA hlt hK hX hce hsl hin hI _ rfl _ rfl _ rfl _ rfl K H locs hP hD hS ls hl
      by_cases z11 : x = 11
      · subst z11
        refine lv_tableIn (off := 790) (tgt := 830) hx hb dL_law_40 (by decide) (by decide) rfl (by decide) ?_
        exact lc_11 hx hb hml hown htH hXs hbl hbA hlt hK hX hce hsl hin hI _ rfl _ rfl _ rfl _ rfl K H locs hP hD hS ls hl
      by_cases z12 : x = 12
      · subst z12
        refine lv_tableIn (off := 851) (tgt := 891) hx hb dL_law_40 (by decide) (by decide) rfl (by decide) ?_
        exact lc_12 hx hb hml hown htH hXs hbl hbA hlt hK hX hce hsl hin hI _ rfl K H locs hP hD hS ls hl
      by_cases z13 : x = 13
      · subst z13
        refine lv_tableIn (off := 876) (tgt := 916) hx hb dL_law_40 (by decide) (by decide) rfl (by decide) ?_
        exact lc_13 hx hb hml hown htH hXs hbl hbA hlt hK hX hce hsl hin hI _ rfl _ rfl K H locs hP hD hS ls hl
      by_cases z14 : x = 14
      · subst z14
        refine lv_tableIn (off := 913) (tgt := 953) hx hb dL_law_40 (by decide) (by decide) rfl (by decide) ?_
        exact lc_14 hx hb hml hown htH hXs hbl hbA hlt hK hX hce hsl hin hI _ rfl _ rfl K H locs hP hD hS ls hl
      by_cases z15 : x = 15
      · subst z15
        refine lv_tableIn (off := 950) (tgt := 990) hx hb dL_law_40 (by decide) (by decide) rfl (by decide) ?_
        exact lc_15 hx hb hml hown htH hXs hbl hbA hlt hK hX hce hsl hin hI _ rfl _ rfl K H locs hP hD hS ls hl
      by_cases z16 : x = 16
      · subst z16
        refine lv_tableIn (off := 987) (tgt := 1027) hx hb dL_law_40 (by decide) (by decide) rfl (by decide) ?_
        exact lc_16 hx hb hml hown htH hXs hbl hbA hlt hK hX hce hsl hin hI _ rfl _ rfl _ rfl K H locs hP hD hS ls hl
      by_cases z17 : x = 17
      · subst z17
        refine lv_tableIn (off := 1036) (tgt := 1076) hx hb dL_law_40 (by decide) (by decide) rfl (by decide) ?_
        exact lc_17 hx hb hml hown htH hXs hbl hbA hlt hK hX hce hsl hin hI _ rfl _ rfl K H locs hP hD hS ls hl
      by_cases z18 : x = 18
      · subst z18
        refine lv_tableIn (off := 1073) (tgt := 1113) hx hb dL_law_40 (by decide) (by decide) rfl (by decide) ?_
        exact lc_18 hx hb hml hown htH hXs hbl hbA hlt hK hX hce hsl hin hI _ rfl _ rfl _ rfl K H locs hP hD hS ls hl
      by_cases z19 : x = 19
      · subst z19
        refine lv_tableIn (off := 1172) (tgt := 1212) hx hb dL_law_40 (by decide) (by decide) rfl (by decide) ?_
        exact lc_19 hx hb hml hown htH hXs hbl hbA hlt hK hX hce hsl hin hI _ rfl _ rfl K H locs hP hD hS ls hl
      by_cases z20 : x = 20
      · subst z20
        refine lv_tableIn (off := 1209) (tgt := 1249) hx hb dL_law_40 (by decide) (by decide) rfl (by decide) ?_
        exact lc_20 hx hb hml hown htH hXs hbl hbA hlt hK hX hce hsl hin hI _ rfl _ rfl K H locs hP hD hS ls hl
      by_cases z21 : x = 21
      · subst z21
        refine lv_tableIn (off := 1246) (tgt := 1286) hx hb dL_law_40 (by decide) (by decide) rfl (by decide) ?_
        exact lc_21 hx hb hml hown htH hXs hbl hbA hlt hK hX hce hsl hin hI _ rfl K H locs hP hD hS ls hl
      refine lv_tableOut (tgt := 1311) hx hb dL_law_40 (sw_21 z0 z1 z2 z3 z4 z5 z6 z7 z8 z9 z10 z11 z12 z13 z14 z15 z16 z17 z18 z19 z20 z21) (by decide) ?_
      refine W.widen (k := ce + 1) (n := sl + 8) (by omega) (by omega) ?_
      exact K xs ys pl pm kp lp lq lr P on c1 c2 c3 rh ln d7 d8 d9 d10 th fo hI H locs hP hD hS ls hl
