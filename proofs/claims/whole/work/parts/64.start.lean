def aF (l : List Nat) : Nat → Nat := fun i => l.getD i 0
theorem tb_J0 : ∀ w ∈ u_ws RJ0 TJ0 2, w ∈ lw_tbl := by decide +kernel
theorem tb_m1 : Cond.methodLinkNest RX2 33 yX5_signOf "OrderJudge" ∈ lw_tbl := by decide +kernel
theorem tb_m2 : Cond.methodLinkNest RX5 9 yX2_init "OrderJudge" ∈ lw_tbl := by decide +kernel
theorem tb_s0 : Cond.stringRef RX5 59 "n is below 0" ∈ lw_tbl := by decide +kernel
theorem gv_s0 : Cond.exactly (.string RX5 59) "java/lang/String" ∈ flatC (Jvm.Cond.and given_1 narrow_1) := by decide +kernel
theorem tb_s1 : Cond.stringRef RX5 77 "no such place" ∈ lw_tbl := by decide +kernel
theorem gv_s1 : Cond.exactly (.string RX5 77) "java/lang/String" ∈ flatC (Jvm.Cond.and given_1 narrow_1) := by decide +kernel
theorem tb_s2 : Cond.stringRef RX5 177 "by is 0" ∈ lw_tbl := by decide +kernel
theorem gv_s2 : Cond.exactly (.string RX5 177) "java/lang/String" ∈ flatC (Jvm.Cond.and given_1 narrow_1) := by decide +kernel
theorem tb_s3 : Cond.stringRef RX5 89 "the place has no point" ∈ lw_tbl := by decide +kernel
theorem gv_s3 : Cond.exactly (.string RX5 89) "java/lang/String" ∈ flatC (Jvm.Cond.and given_1 narrow_1) := by decide +kernel
theorem tb_z0 : dS "java/lang/RuntimeException" ∈ lw_tbl := by decide +kernel
theorem tb_z1 : dS "java/lang/Exception" ∈ lw_tbl := by decide +kernel
theorem tb_z2 : dS "java/lang/Throwable" ∈ lw_tbl := by decide +kernel
theorem tb_z3 : dS "java/lang/IndexOutOfBoundsException" ∈ lw_tbl := by decide +kernel
theorem tb_z4 : Cond.castable eN1 eN1 ∈ lw_tbl := by decide +kernel
theorem tb_z5 : Cond.castable eA1 eA1 ∈ lw_tbl := by decide +kernel
theorem tb_z6 : Cond.castable eR1 eR1 ∈ lw_tbl := by decide +kernel
theorem tb_z7 : Cond.castable eP1 eP1 ∈ lw_tbl := by decide +kernel
theorem tb_z8 : Cond.castable "java/lang/RuntimeException" "java/lang/Throwable" ∈ lw_tbl := by decide +kernel
theorem tb_u0 : Cond.laysStatic Bundle.tN tUn Bundle.steD ∈ lw_tbl := by decide +kernel
theorem tb_u1 : Cond.laysStatic Bundle.tN tSu Bundle.listD ∈ lw_tbl := by decide +kernel
theorem tb_u2 : Cond.initialized Bundle.tN ∈ lw_tbl := by decide +kernel
theorem gv_u0 : Cond.isRef (.static Bundle.tN tUn Bundle.steD) ∈ flatC (Jvm.Cond.and given_1 narrow_1) := by decide +kernel
theorem gv_u1 : Cond.isRef (.static Bundle.tN tSu Bundle.listD) ∈ flatC (Jvm.Cond.and given_1 narrow_1) := by decide +kernel
theorem gv_nc : Cond.not (.castable eP1 eA1) ∈ flatC (Jvm.Cond.and given_1 narrow_1) := by decide +kernel
theorem ini_L : ∀ (m k : Nat) (f : Nat → Int32), k ≤ 24 → 24 < k + m → f_ini m (nI k) f = (fun j => if k ≤ j ∧ j < 24 then -1 else f j)
  | 0, k, f, h1, h2 => by omega
  | m + 1, k, f, h1, h2 => by
    rw [f_ini]
    by_cases h : 24 ≤ k
    · rw [if_pos (show (24 : Int32) ≤ nI k from nI_le (a := 24) h (by omega))]
      funext j; rw [if_neg (by omega)]
    · rw [if_neg (show ¬ (24 : Int32) ≤ nI k from nI_ge (b := 24) (by omega) (by omega)), nI_1, nI_clamp (by omega), ini_L m (k + 1) _ (by omega) (by omega)]
      funext j; unfold upd
      by_cases e : j = k
      · subst e; rw [if_neg (by omega), if_pos rfl, if_pos (by omega)]
      · by_cases e2 : k + 1 ≤ j ∧ j < 24
        · rw [if_pos e2, if_pos (by omega)]
        · rw [if_neg e2, if_neg e, if_neg (by omega)]
theorem inv_0 : Inv (fun _ => 0) (fun _ => 0) (fun _ => 0) (f_ini 25 0 (fun _ => 0)) (fun _ => 0) (fun _ => 0) (fun _ => 0) 0 1 0 0 := by
  have e : f_ini 25 0 (fun _ => 0) = (fun j => if 0 ≤ j ∧ j < 24 then -1 else 0) := ini_L 25 0 (fun _ => 0) (by omega) (by omega)
  rw [e]
  have z : (0 : Int32).toInt = 0 := rfl
  have b0 : (0 : Int32).toInt.natAbs ≤ 9600 := by decide
  have v0 : vp_in (0 : Int32) 60 := by rw [vp_in_iff]; decide
  refine ⟨by decide, by decide, by decide, Or.inr rfl, fun _ => b0, fun _ => b0, fun _ => Or.inr v0, fun j => ?_, fun j hj => ?_, ⟨Or.inr rfl, fun j hj => ?_⟩, fun j hj => ?_⟩
  · show (if 0 ≤ j ∧ j < 24 then (-1 : Int32) else 0) = -1 ∨ vp_in (if 0 ≤ j ∧ j < 24 then (-1 : Int32) else 0) 60
    split
    · exact Or.inl rfl
    · exact Or.inr (by rw [vp_in_iff]; decide)
  · exfalso; have hj : (j : Int) < (0 : Int32).toInt := hj; omega
  · show (0 : Int32) = (if 0 ≤ j ∧ j < 24 then (-1 : Int32) else 0)
    rw [if_neg (by omega)]
  · exfalso; have hj : (j : Int) < (0 : Int32).toInt := hj; omega
theorem arr_of {args : Array Value} {s : State} {ty : FieldType} (h : (Cond.arrayClass ty).before args s = true) : ∃ cA : ClassId, ArrOfT s cA ty ∧ s.vm.findClass ("[" ++ ty.toString) = some cA := by
  obtain ⟨c, k, comp, h1, h2, h3⟩ := Cond.arrayClass_spec h
  exact ⟨c, fun n z => ⟨fun k h => (by cases h), k, h2, comp, h3⟩, h1⟩
set_option maxHeartbeats 8000000 in
set_option maxRecDepth 100000 in
theorem whole_start {p : Program} {e : Env} {s : State} {m : MethodId} {below : List Frame} {meth : Method} {c : Code} (l : Launch) (hlt : l.stackTraces = false) {b L : Nat} {xs : Nat → Int32} (hL : L ≤ 3584) (C0 : lw_At p s m meth c b L xs) : W p l e room_1 s m #[Value.ref b] below meth c s.heap [] 0 0 (lw_Z below #[Value.ref b] s) (entryFrame m ([Value.ref b] : List Value).toArray 8) := by
  obtain ⟨hx, hb, hr, hml, hown0, htb, hXs, hbl, hlocks, hgv⟩ := id C0
  have hb : c.code = cL_law := hb
  have hown : s.vm.findClass RL = some m.cls := hown0
  have hts : ∀ w ∈ lw_G, w.before #[Value.ref b] s = true := fun w h => htb w (tb_G w h)
  have htH : ∀ w ∈ lw_H, w.before #[Value.ref b] s = true := fun w h => by
    rcases List.mem_append.mp h with h | h
    · rcases List.mem_append.mp h with h | h
      · exact htb w (x_tb_N w h)
      · rcases List.mem_append.mp h with h | h
        · exact htb w (x_tb_A w h)
        · rcases List.mem_append.mp h with h | h
          · exact htb w (x_tb_R w h)
          · exact htb w (x_tb_P w h)
    · exact hts w h
  have hg : ∀ w ∈ flatC (Jvm.Cond.and given_1 narrow_1), w.before #[Value.ref b] s = true := flat_of_before _ hgv
  have hA : ∀ q : Nat, s.heap.size ≤ q → (fun q : Nat => s.heap.size ≤ q) q := fun _ h => h
  obtain ⟨k0, i0, hKn0⟩ := u_known (C := RJ0) (T := TJ0) (N := 2) (n := 4) htb tb_J0 (htb (.instantiable RJ0 4) (by decide +kernel))
  obtain ⟨k1, i1, hKn1⟩ := u_known (C := RJx00060) (T := TJx00060) (N := 6) (n := 6) hts (fun _ h => gI_wsJx000600 h) (htb (.instantiable RJx00060 6) (by decide +kernel))
  obtain ⟨k2, i2, hKn2⟩ := u_known (C := RJxde1cd) (T := TJxde1cd) (N := 6) (n := 6) hts (fun _ h => gI_wsJxde1cd0 h) (htb (.instantiable RJxde1cd 6) (by decide +kernel))
  obtain ⟨k3, i3, hKn3⟩ := u_known (C := RJx5d777) (T := TJx5d777) (N := 8) (n := 8) hts (fun _ h => gI_wsJx5d7770 h) (htb (.instantiable RJx5d777 8) (by decide +kernel))
  obtain ⟨k4, i4, hKn4⟩ := u_known (C := RX0) (T := TX0) (N := 1) (n := 1) hts (fun _ h => gI_wsX00 h) (htb (.instantiable RX0 1) (by decide +kernel))
  obtain ⟨k5, i5, hKn5⟩ := u_known (C := RX1) (T := TX1) (N := 10) (n := 10) hts (fun _ h => gI_wsX10 h) (htb (.instantiable RX1 10) (by decide +kernel))
  obtain ⟨k6, i6, hKn6⟩ := u_known (C := RX2) (T := TX2) (N := 3) (n := 3) hts (fun _ h => gI_wsX20 h) (htb (.instantiable RX2 3) (by decide +kernel))
  obtain ⟨k7, i7, hKn7⟩ := u_known (C := RX3) (T := TX3) (N := 5) (n := 5) hts (fun _ h => gI_wsX30 h) (htb (.instantiable RX3 5) (by decide +kernel))
  obtain ⟨k8, i8, hKn8⟩ := u_known (C := RX4) (T := TX4) (N := 3) (n := 3) hts (fun _ h => gI_wsX40 h) (htb (.instantiable RX4 3) (by decide +kernel))
  obtain ⟨k9, i9, hKn9⟩ := u_known (C := RX5) (T := TX5) (N := 5) (n := 5) hts (fun _ h => gI_wsX50 h) (htb (.instantiable RX5 5) (by decide +kernel))
  obtain ⟨k10, i10, hKn10⟩ := u_known (C := RX6) (T := TX6) (N := 14) (n := 14) hts (fun _ h => gI_wsX60 h) (htb (.instantiable RX6 14) (by decide +kernel))
  obtain ⟨dC, dI, hKc⟩ : ∃ (dC : Nat → ClassId) (dI : Nat → Nat → Nat), ∀ (k : Nat) (q : vw_C), vwCl[k]? = some q → u_Kn s q.1 q.2.1 q.2.2 (dC k) (dI k) := by
    refine ⟨fun k => [k0, k1, k2, k3, k4, k5, k6, k7, k8, k9, k10].getD k k0, fun k => [i0, i1, i2, i3, i4, i5, i6, i7, i8, i9, i10].getD k i0, ?_⟩
    intro k q hq
    match k, hq with
    | 0, hq => cases hq; exact hKn0
    | 1, hq => cases hq; exact hKn1
    | 2, hq => cases hq; exact hKn2
    | 3, hq => cases hq; exact hKn3
    | 4, hq => cases hq; exact hKn4
    | 5, hq => cases hq; exact hKn5
    | 6, hq => cases hq; exact hKn6
    | 7, hq => cases hq; exact hKn7
    | 8, hq => cases hq; exact hKn8
    | 9, hq => cases hq; exact hKn9
    | 10, hq => cases hq; exact hKn10
    | k + 11, hq => simp [vwCl] at hq
  obtain ⟨cI, hI1, hI2⟩ := arr_of (ty := .int) (hts _ mG_2_13)
  obtain ⟨cJ, hJ1, hJ2⟩ := arr_of (ty := .long) (hts _ mG_1_6)
  have hKa : va_K (dC, dI) vwCl (tIJ cI cJ) s := ⟨hKc, fun k q h => by
    match k, h with
    | 0, h => cases h; exact ⟨hI1, hI2⟩
    | 1, h => cases h; exact ⟨hJ1, hJ2⟩
    | k + 2, h => simp at h⟩
  have hK : kK (dC, dI) (tIJ cI cJ) s := ⟨hKa, va_Nw.of rfl (htb _ tb_m1), va_Nw.of rfl (htb _ tb_m2)⟩
  obtain ⟨sa0, _, _, _, es0, _⟩ := Cond.exactly_spec (hg _ gv_s0)
  obtain ⟨sa1, _, _, _, es1, _⟩ := Cond.exactly_spec (hg _ gv_s1)
  obtain ⟨sa2, _, _, _, es2, _⟩ := Cond.exactly_spec (hg _ gv_s2)
  obtain ⟨sa3, _, _, _, es3, _⟩ := Cond.exactly_spec (hg _ gv_s3)
  have hnA : ∀ a : Nat, a < s.heap.size → ¬ (fun q : Nat => s.heap.size ≤ q) a := fun a h => Nat.not_le.mpr h
  have hX : kX (fun q : Nat => s.heap.size ≤ q) (aF [sa0, sa1, sa2, sa3]) s s.heap := ⟨vx_Zqof (htb _ tb_u0) (htb _ tb_u2) (hg _ gv_u0) hnA, vx_Zqof (htb _ tb_u1) (htb _ tb_u2) (hg _ gv_u1) hnA, vk_R.of (A := #[Value.ref b]) (htb _ tb_s0) es0, vk_R.of (A := #[Value.ref b]) (htb _ tb_s1) es1, vk_R.of (A := #[Value.ref b]) (htb _ tb_s2) es2, vk_R.of (A := #[Value.ref b]) (htb _ tb_s3) es3, va_Nw.of rfl (htb _ tb_z0), va_Nw.of rfl (htb _ tb_z1), va_Nw.of rfl (htb _ tb_z2), va_Nw.of rfl (htb _ tb_z3), va_Nw.of rfl (htb _ tb_z4), va_Nw.of rfl (htb _ tb_z5), va_Nw.of rfl (htb _ tb_z6), ⟨va_Nw.of rfl (htb _ tb_z7), va_Nw.of rfl (htb _ tb_z8)⟩, va_Nc.of (hg _ gv_nc)⟩
  have hS : va_S (fun q : Nat => s.heap.size ≤ q) s.heap s.heap [] := va_S.rf
  have hP : va_P (dC, dI) vwCl [] s.heap := fun k q h => by simp at h
  have hD : va_D (fun q : Nat => s.heap.size ≤ q) [] := ⟨fun i j p q h => by simp at h, fun k q h => by simp at h⟩
  have hl := lv_entry ([.ref b]) (n := 8) (Nat.le_of_ble_eq_true rfl)
  rw [lg_entry_eq]
  generalize (lg_sl ([.ref b]) ++ List.replicate (8 - (lg_sl ([.ref b])).length) Slot.unset).toArray = ls at hl ⊢
  have hl : lv_has ls 8 [(0, .ref b)] := hl
  refine va_new (ci := 9) (fs := [.null, .null, .null, .null, .null]) (C := RX5) (T := TX5) (N := 5) hx hb hts (fun _ h => gI_wsX50 h) tyX5 tyX5_ok hown (hts _ mG_1_0) (hts _ mG_1_1) (hts _ mG_1_2) hK.1 hP hD hS hA rfl (fun j hj => by rcases (show j = 0 ∨ j = 1 ∨ j = 2 ∨ j = 3 ∨ j = 4 by omega) with rfl | rfl | rfl | rfl | rfl <;> rfl) (Nat.le_of_ble_eq_true rfl) (Nat.le_of_ble_eq_true rfl) dL_law_0 (fun h5 H hP hD hS => ?_)
  have hP : va_P (dC, dI) vwCl [(h5, .inr (9, [.null, .null, .null, .null, .null]))] H := hP
  have hD : va_D (fun q : Nat => s.heap.size ≤ q) [(h5, .inr (9, [.null, .null, .null, .null, .null]))] := hD
  refine lv_dup hx hb dL_law_3 rfl ?_
  have hPc := hP.sub (ws' := [(h5, .inr (9, [.null, .null, .null, .null, .null]))]) [0] rfl
  have hDc := hD.sub (ws' := [(h5, .inr (9, [.null, .null, .null, .null, .null]))]) [0] (by decide) rfl
  have hFc := va_free (wc := [(h5, .inr (9, [.null, .null, .null, .null, .null]))]) hD hS hA [0] rfl
  refine va_callv (va_runI (As := []) (rest := [.ref h5]) ⟨hx, hb, hml, hown, hts⟩ (c_X5_init l dC dI cI cJ h5 H.size) (cwI 0 hts (gG_c mG_1_10 gG_G) rfl rfl rfl (hts _ mG_1_2) (hts _ mG_1_8) (hts _ mG_1_9) rfl hs_X5_init ⟨Nat.le_of_ble_eq_true rfl, Nat.le_of_ble_eq_true rfl⟩) ⟨fun a U g mk q => ⟨q.1, q.2.1, q.2.2.1, q.2.2.2.1.call, q.2.2.2.2⟩, fun U hU hW => ⟨rfl, by rw [hU], by rw [hU]; exact hPc, hK.warm hW, hDc.weaken (fun _ _ _ _ => trivial)⟩⟩ rfl rfl hl.1 rfl (lv_room (Nat.le_of_ble_eq_true rfl)) dL_law_4 ⟨Nat.le_of_ble_eq_true rfl, Nat.le_of_ble_eq_true rfl⟩) hS (fun q _ h => hFc q h) hFc (fun u t H1 locs ht hvm hw hB hz1 hk1 hS => ?_)
  obtain ⟨n0, n1, n2, n3, n4, n5, n6, n7, n8, n9, n10, n11⟩ := u
  obtain ⟨hP1, hD1⟩ := hB
  rw [ht] at hP1
  try dsimp only at hP1 hD1
  obtain ⟨hP, hD⟩ := va_join (wr := []) (w1 := [(h5, .inr (9, [.ref n0, .ref n3, .ref n4, .ref n5, .ref n7])), (n0, .inr (6, [.ref n1, .ref n2, .int (0 : Int32)])), (n1, .inl (cI, 60, .inl (fun _ => 0))), (n2, .inl (cI, 60, .inl (fun _ => 0))), (n3, .inr (7, [.ref n0, .int (1 : Int32), .int (0 : Int32), .int (0 : Int32), .int (0 : Int32)])), (n4, .inr (4, [.ref n0])), (n5, .inr (8, [.ref n0, .ref n6, .int (0 : Int32)])), (n6, .inl (cI, 24, .inl (fun _ => 0))), (n7, .inr (5, [.ref n0, .ref n8, .ref n9, .ref n10, .int (0 : Int32), .ref n11, .int (0 : Int32), .int (0 : Int32), .int (0 : Int32), .int (0 : Int32)])), (n8, .inl (cJ, 12, .inr (.inl (fun _ => 0)))), (n9, .inl (cJ, 12, .inr (.inl (fun _ => 0)))), (n10, .inl (cJ, 12, .inr (.inl (fun _ => 0)))), (n11, .inl (cI, 12, .inl (fun _ => 0)))]) hP hD [0] [] rfl rfl (by decide) (by decide) hk1 hFc hP1 hD1
  generalize H1 = H at hP hS ⊢
  have hP : va_P (dC, dI) vwCl [(h5, .inr (9, [.ref n0, .ref n3, .ref n4, .ref n5, .ref n7])), (n0, .inr (6, [.ref n1, .ref n2, .int (0 : Int32)])), (n1, .inl (cI, 60, .inl (fun _ => 0))), (n2, .inl (cI, 60, .inl (fun _ => 0))), (n3, .inr (7, [.ref n0, .int (1 : Int32), .int (0 : Int32), .int (0 : Int32), .int (0 : Int32)])), (n4, .inr (4, [.ref n0])), (n5, .inr (8, [.ref n0, .ref n6, .int (0 : Int32)])), (n6, .inl (cI, 24, .inl (fun _ => 0))), (n7, .inr (5, [.ref n0, .ref n8, .ref n9, .ref n10, .int (0 : Int32), .ref n11, .int (0 : Int32), .int (0 : Int32), .int (0 : Int32), .int (0 : Int32)])), (n8, .inl (cJ, 12, .inr (.inl (fun _ => 0)))), (n9, .inl (cJ, 12, .inr (.inl (fun _ => 0)))), (n10, .inl (cJ, 12, .inr (.inl (fun _ => 0)))), (n11, .inl (cI, 12, .inl (fun _ => 0)))] H := hP
  have hD : va_D (fun q : Nat => s.heap.size ≤ q) [(h5, .inr (9, [.ref n0, .ref n3, .ref n4, .ref n5, .ref n7])), (n0, .inr (6, [.ref n1, .ref n2, .int (0 : Int32)])), (n1, .inl (cI, 60, .inl (fun _ => 0))), (n2, .inl (cI, 60, .inl (fun _ => 0))), (n3, .inr (7, [.ref n0, .int (1 : Int32), .int (0 : Int32), .int (0 : Int32), .int (0 : Int32)])), (n4, .inr (4, [.ref n0])), (n5, .inr (8, [.ref n0, .ref n6, .int (0 : Int32)])), (n6, .inl (cI, 24, .inl (fun _ => 0))), (n7, .inr (5, [.ref n0, .ref n8, .ref n9, .ref n10, .int (0 : Int32), .ref n11, .int (0 : Int32), .int (0 : Int32), .int (0 : Int32), .int (0 : Int32)])), (n8, .inl (cJ, 12, .inr (.inl (fun _ => 0)))), (n9, .inl (cJ, 12, .inr (.inl (fun _ => 0)))), (n10, .inl (cJ, 12, .inr (.inl (fun _ => 0)))), (n11, .inl (cI, 12, .inl (fun _ => 0)))] := hD
  refine lv_astore_n (lv' := [(1, .ref h5), (0, .ref b)]) hx hb dL_law_7 rfl hl (by decide) rfl (fun ls hl => ?_)
  refine va_new (ci := 10) (fs := [.int 0, .int 0, .null, .null, .int 0, .null, .int 0, .int 0, .int 0, .int 0, .int 0, .null, .null, .null]) (C := RX6) (T := TX6) (N := 14) hx hb hts (fun _ h => gI_wsX60 h) tyX6 tyX6_ok hown (hts _ mG_1_3) (hts _ mG_1_4) (hts _ mG_1_5) hK.1 hP hD hS hA rfl (fun j hj => by rcases (show j = 0 ∨ j = 1 ∨ j = 2 ∨ j = 3 ∨ j = 4 ∨ j = 5 ∨ j = 6 ∨ j = 7 ∨ j = 8 ∨ j = 9 ∨ j = 10 ∨ j = 11 ∨ j = 12 ∨ j = 13 by omega) with rfl | rfl | rfl | rfl | rfl | rfl | rfl | rfl | rfl | rfl | rfl | rfl | rfl | rfl <;> rfl) (Nat.le_of_ble_eq_true rfl) (Nat.le_of_ble_eq_true rfl) dL_law_8 (fun h6 H hP hD hS => ?_)
  have hP : va_P (dC, dI) vwCl [(h5, .inr (9, [.ref n0, .ref n3, .ref n4, .ref n5, .ref n7])), (n0, .inr (6, [.ref n1, .ref n2, .int (0 : Int32)])), (n1, .inl (cI, 60, .inl (fun _ => 0))), (n2, .inl (cI, 60, .inl (fun _ => 0))), (n3, .inr (7, [.ref n0, .int (1 : Int32), .int (0 : Int32), .int (0 : Int32), .int (0 : Int32)])), (n4, .inr (4, [.ref n0])), (n5, .inr (8, [.ref n0, .ref n6, .int (0 : Int32)])), (n6, .inl (cI, 24, .inl (fun _ => 0))), (n7, .inr (5, [.ref n0, .ref n8, .ref n9, .ref n10, .int (0 : Int32), .ref n11, .int (0 : Int32), .int (0 : Int32), .int (0 : Int32), .int (0 : Int32)])), (n8, .inl (cJ, 12, .inr (.inl (fun _ => 0)))), (n9, .inl (cJ, 12, .inr (.inl (fun _ => 0)))), (n10, .inl (cJ, 12, .inr (.inl (fun _ => 0)))), (n11, .inl (cI, 12, .inl (fun _ => 0))), (h6, .inr (10, [.int 0, .int 0, .null, .null, .int 0, .null, .int 0, .int 0, .int 0, .int 0, .int 0, .null, .null, .null]))] H := hP
  have hD : va_D (fun q : Nat => s.heap.size ≤ q) [(h5, .inr (9, [.ref n0, .ref n3, .ref n4, .ref n5, .ref n7])), (n0, .inr (6, [.ref n1, .ref n2, .int (0 : Int32)])), (n1, .inl (cI, 60, .inl (fun _ => 0))), (n2, .inl (cI, 60, .inl (fun _ => 0))), (n3, .inr (7, [.ref n0, .int (1 : Int32), .int (0 : Int32), .int (0 : Int32), .int (0 : Int32)])), (n4, .inr (4, [.ref n0])), (n5, .inr (8, [.ref n0, .ref n6, .int (0 : Int32)])), (n6, .inl (cI, 24, .inl (fun _ => 0))), (n7, .inr (5, [.ref n0, .ref n8, .ref n9, .ref n10, .int (0 : Int32), .ref n11, .int (0 : Int32), .int (0 : Int32), .int (0 : Int32), .int (0 : Int32)])), (n8, .inl (cJ, 12, .inr (.inl (fun _ => 0)))), (n9, .inl (cJ, 12, .inr (.inl (fun _ => 0)))), (n10, .inl (cJ, 12, .inr (.inl (fun _ => 0)))), (n11, .inl (cI, 12, .inl (fun _ => 0))), (h6, .inr (10, [.int 0, .int 0, .null, .null, .int 0, .null, .int 0, .int 0, .int 0, .int 0, .int 0, .null, .null, .null]))] := hD
  refine lv_dup hx hb dL_law_11 rfl ?_
  have hPc := hP.sub (ws' := [(h6, .inr (10, [.int 0, .int 0, .null, .null, .int 0, .null, .int 0, .int 0, .int 0, .int 0, .int 0, .null, .null, .null]))]) [13] rfl
  have hDc := hD.sub (ws' := [(h6, .inr (10, [.int 0, .int 0, .null, .null, .int 0, .null, .int 0, .int 0, .int 0, .int 0, .int 0, .null, .null, .null]))]) [13] (by decide) rfl
  have hFc := va_free (wc := [(h6, .inr (10, [.int 0, .int 0, .null, .null, .int 0, .null, .int 0, .int 0, .int 0, .int 0, .int 0, .null, .null, .null]))]) hD hS hA [13] rfl
  refine va_callv (va_runI (As := []) (rest := [.ref h6]) ⟨hx, hb, hml, hown, hts⟩ (c_X6_init l dC dI cI cJ h6 H.size) (cwI 0 hts (gG_c mG_4_6 gG_G) rfl rfl rfl (hts _ mG_1_5) (hts _ mG_4_4) (hts _ mG_4_5) rfl hs_X6_init ⟨Nat.le_of_ble_eq_true rfl, Nat.le_of_ble_eq_true rfl⟩) ⟨fun a U g mk q => ⟨q.1, q.2.1, q.2.2.1, q.2.2.2.1.call, q.2.2.2.2⟩, fun U hU hW => ⟨rfl, by rw [hU], by rw [hU]; exact hPc, hK.warm hW, hDc.weaken (fun _ _ _ _ => trivial)⟩⟩ rfl rfl hl.1 rfl (lv_room (Nat.le_of_ble_eq_true rfl)) dL_law_12 ⟨Nat.le_of_ble_eq_true rfl, Nat.le_of_ble_eq_true rfl⟩) hS (fun q _ h => hFc q h) hFc (fun u t H1 locs ht hvm hw hB hz1 hk1 hS => ?_)
  obtain ⟨m0, m1, m2, m3, m4, m5⟩ := u
  obtain ⟨hP1, hD1⟩ := hB
  rw [ht] at hP1
  try dsimp only at hP1 hD1
  obtain ⟨hP, hD⟩ := va_join (wr := [(h5, .inr (9, [.ref n0, .ref n3, .ref n4, .ref n5, .ref n7])), (n0, .inr (6, [.ref n1, .ref n2, .int (0 : Int32)])), (n1, .inl (cI, 60, .inl (fun _ => 0))), (n2, .inl (cI, 60, .inl (fun _ => 0))), (n3, .inr (7, [.ref n0, .int (1 : Int32), .int (0 : Int32), .int (0 : Int32), .int (0 : Int32)])), (n4, .inr (4, [.ref n0])), (n5, .inr (8, [.ref n0, .ref n6, .int (0 : Int32)])), (n6, .inl (cI, 24, .inl (fun _ => 0))), (n7, .inr (5, [.ref n0, .ref n8, .ref n9, .ref n10, .int (0 : Int32), .ref n11, .int (0 : Int32), .int (0 : Int32), .int (0 : Int32), .int (0 : Int32)])), (n8, .inl (cJ, 12, .inr (.inl (fun _ => 0)))), (n9, .inl (cJ, 12, .inr (.inl (fun _ => 0)))), (n10, .inl (cJ, 12, .inr (.inl (fun _ => 0)))), (n11, .inl (cI, 12, .inl (fun _ => 0)))]) (w1 := [(h6, .inr (10, [.int 0, .int 0, .ref m0, .ref m1, .int 0, .ref m2, .int (1 : Int32), .int 0, .int 0, .int 0, .int 0, .ref m3, .ref m4, .ref m5])), (m0, .inl (cI, 60, .inl (fun _ => 0))), (m1, .inl (cI, 60, .inl (fun _ => 0))), (m2, .inl (cI, 24, .inl (f_ini 25 0 (fun _ => 0)))), (m3, .inl (cJ, 12, .inr (.inl (fun _ => 0)))), (m4, .inl (cJ, 12, .inr (.inl (fun _ => 0)))), (m5, .inl (cJ, 12, .inr (.inl (fun _ => 0))))]) hP hD [13] [0, 1, 2, 3, 4, 5, 6, 7, 8, 9, 10, 11, 12] rfl rfl (by decide) (by decide) hk1 hFc hP1 hD1
  generalize H1 = H at hP hS ⊢
  have hP : va_P (dC, dI) vwCl [(h5, .inr (9, [.ref n0, .ref n3, .ref n4, .ref n5, .ref n7])), (n0, .inr (6, [.ref n1, .ref n2, .int (0 : Int32)])), (n1, .inl (cI, 60, .inl (fun _ => 0))), (n2, .inl (cI, 60, .inl (fun _ => 0))), (n3, .inr (7, [.ref n0, .int (1 : Int32), .int (0 : Int32), .int (0 : Int32), .int (0 : Int32)])), (n4, .inr (4, [.ref n0])), (n5, .inr (8, [.ref n0, .ref n6, .int (0 : Int32)])), (n6, .inl (cI, 24, .inl (fun _ => 0))), (n7, .inr (5, [.ref n0, .ref n8, .ref n9, .ref n10, .int (0 : Int32), .ref n11, .int (0 : Int32), .int (0 : Int32), .int (0 : Int32), .int (0 : Int32)])), (n8, .inl (cJ, 12, .inr (.inl (fun _ => 0)))), (n9, .inl (cJ, 12, .inr (.inl (fun _ => 0)))), (n10, .inl (cJ, 12, .inr (.inl (fun _ => 0)))), (n11, .inl (cI, 12, .inl (fun _ => 0))), (h6, .inr (10, [.int 0, .int 0, .ref m0, .ref m1, .int 0, .ref m2, .int (1 : Int32), .int 0, .int 0, .int 0, .int 0, .ref m3, .ref m4, .ref m5])), (m0, .inl (cI, 60, .inl (fun _ => 0))), (m1, .inl (cI, 60, .inl (fun _ => 0))), (m2, .inl (cI, 24, .inl (f_ini 25 0 (fun _ => 0)))), (m3, .inl (cJ, 12, .inr (.inl (fun _ => 0)))), (m4, .inl (cJ, 12, .inr (.inl (fun _ => 0)))), (m5, .inl (cJ, 12, .inr (.inl (fun _ => 0))))] H := hP
  have hD : va_D (fun q : Nat => s.heap.size ≤ q) [(h5, .inr (9, [.ref n0, .ref n3, .ref n4, .ref n5, .ref n7])), (n0, .inr (6, [.ref n1, .ref n2, .int (0 : Int32)])), (n1, .inl (cI, 60, .inl (fun _ => 0))), (n2, .inl (cI, 60, .inl (fun _ => 0))), (n3, .inr (7, [.ref n0, .int (1 : Int32), .int (0 : Int32), .int (0 : Int32), .int (0 : Int32)])), (n4, .inr (4, [.ref n0])), (n5, .inr (8, [.ref n0, .ref n6, .int (0 : Int32)])), (n6, .inl (cI, 24, .inl (fun _ => 0))), (n7, .inr (5, [.ref n0, .ref n8, .ref n9, .ref n10, .int (0 : Int32), .ref n11, .int (0 : Int32), .int (0 : Int32), .int (0 : Int32), .int (0 : Int32)])), (n8, .inl (cJ, 12, .inr (.inl (fun _ => 0)))), (n9, .inl (cJ, 12, .inr (.inl (fun _ => 0)))), (n10, .inl (cJ, 12, .inr (.inl (fun _ => 0)))), (n11, .inl (cI, 12, .inl (fun _ => 0))), (h6, .inr (10, [.int 0, .int 0, .ref m0, .ref m1, .int 0, .ref m2, .int (1 : Int32), .int 0, .int 0, .int 0, .int 0, .ref m3, .ref m4, .ref m5])), (m0, .inl (cI, 60, .inl (fun _ => 0))), (m1, .inl (cI, 60, .inl (fun _ => 0))), (m2, .inl (cI, 24, .inl (f_ini 25 0 (fun _ => 0)))), (m3, .inl (cJ, 12, .inr (.inl (fun _ => 0)))), (m4, .inl (cJ, 12, .inr (.inl (fun _ => 0)))), (m5, .inl (cJ, 12, .inr (.inl (fun _ => 0))))] := hD
  refine lv_astore_n (lv' := [(2, .ref h6), (1, .ref h5), (0, .ref b)]) hx hb dL_law_15 rfl hl (by decide) rfl (fun ls hl => ?_)
  refine lv_iconst (v := (1 : Int32)) hx hb dL_law_16 (by decide) ?_
  refine na_l (N := 1) hx hb (hts _ mG_1_6) hK hP hD hS hA (by decide) (by decide) (by decide) (Nat.le_of_ble_eq_true rfl) (Nat.le_of_ble_eq_true rfl) dL_law_17 (fun oo H hP hD hS => ?_)
  have hP : va_P (dC, dI) vwCl [(h5, .inr (9, [.ref n0, .ref n3, .ref n4, .ref n5, .ref n7])), (n0, .inr (6, [.ref n1, .ref n2, .int (0 : Int32)])), (n1, .inl (cI, 60, .inl (fun _ => 0))), (n2, .inl (cI, 60, .inl (fun _ => 0))), (n3, .inr (7, [.ref n0, .int (1 : Int32), .int (0 : Int32), .int (0 : Int32), .int (0 : Int32)])), (n4, .inr (4, [.ref n0])), (n5, .inr (8, [.ref n0, .ref n6, .int (0 : Int32)])), (n6, .inl (cI, 24, .inl (fun _ => 0))), (n7, .inr (5, [.ref n0, .ref n8, .ref n9, .ref n10, .int (0 : Int32), .ref n11, .int (0 : Int32), .int (0 : Int32), .int (0 : Int32), .int (0 : Int32)])), (n8, .inl (cJ, 12, .inr (.inl (fun _ => 0)))), (n9, .inl (cJ, 12, .inr (.inl (fun _ => 0)))), (n10, .inl (cJ, 12, .inr (.inl (fun _ => 0)))), (n11, .inl (cI, 12, .inl (fun _ => 0))), (h6, .inr (10, [.int 0, .int 0, .ref m0, .ref m1, .int 0, .ref m2, .int (1 : Int32), .int 0, .int 0, .int 0, .int 0, .ref m3, .ref m4, .ref m5])), (m0, .inl (cI, 60, .inl (fun _ => 0))), (m1, .inl (cI, 60, .inl (fun _ => 0))), (m2, .inl (cI, 24, .inl (f_ini 25 0 (fun _ => 0)))), (m3, .inl (cJ, 12, .inr (.inl (fun _ => 0)))), (m4, .inl (cJ, 12, .inr (.inl (fun _ => 0)))), (m5, .inl (cJ, 12, .inr (.inl (fun _ => 0)))), (oo, .inl (cJ, 1, .inr (.inl (fun _ => 0))))] H := hP
  have hD : va_D (fun q : Nat => s.heap.size ≤ q) [(h5, .inr (9, [.ref n0, .ref n3, .ref n4, .ref n5, .ref n7])), (n0, .inr (6, [.ref n1, .ref n2, .int (0 : Int32)])), (n1, .inl (cI, 60, .inl (fun _ => 0))), (n2, .inl (cI, 60, .inl (fun _ => 0))), (n3, .inr (7, [.ref n0, .int (1 : Int32), .int (0 : Int32), .int (0 : Int32), .int (0 : Int32)])), (n4, .inr (4, [.ref n0])), (n5, .inr (8, [.ref n0, .ref n6, .int (0 : Int32)])), (n6, .inl (cI, 24, .inl (fun _ => 0))), (n7, .inr (5, [.ref n0, .ref n8, .ref n9, .ref n10, .int (0 : Int32), .ref n11, .int (0 : Int32), .int (0 : Int32), .int (0 : Int32), .int (0 : Int32)])), (n8, .inl (cJ, 12, .inr (.inl (fun _ => 0)))), (n9, .inl (cJ, 12, .inr (.inl (fun _ => 0)))), (n10, .inl (cJ, 12, .inr (.inl (fun _ => 0)))), (n11, .inl (cI, 12, .inl (fun _ => 0))), (h6, .inr (10, [.int 0, .int 0, .ref m0, .ref m1, .int 0, .ref m2, .int (1 : Int32), .int 0, .int 0, .int 0, .int 0, .ref m3, .ref m4, .ref m5])), (m0, .inl (cI, 60, .inl (fun _ => 0))), (m1, .inl (cI, 60, .inl (fun _ => 0))), (m2, .inl (cI, 24, .inl (f_ini 25 0 (fun _ => 0)))), (m3, .inl (cJ, 12, .inr (.inl (fun _ => 0)))), (m4, .inl (cJ, 12, .inr (.inl (fun _ => 0)))), (m5, .inl (cJ, 12, .inr (.inl (fun _ => 0)))), (oo, .inl (cJ, 1, .inr (.inl (fun _ => 0))))] := hD
  refine lv_astore_n (lv' := [(3, .ref oo), (2, .ref h6), (1, .ref h5), (0, .ref b)]) hx hb dL_law_19 rfl hl (by decide) rfl (fun ls hl => ?_)
  refine lv_iconst (v := (0 : Int32)) hx hb dL_law_20 (by decide) ?_
  refine lv_istore (lv' := [(4, .int (0 : Int32)), (3, .ref oo), (2, .ref h6), (1, .ref h5), (0, .ref b)]) hx hb dL_law_21 hl (by decide) rfl (fun ls hl => ?_)
  have hP : va_P (dC, dI) vwCl ((wM (aF [h6, m0, m1, m2, m3, m4, m5]) cI cJ (fun _ => 0) (fun _ => 0) (f_ini 25 0 (fun _ => 0)) (fun _ => 0) (fun _ => 0) (fun _ => 0) 0 0 0 1 0 0 0 0) ++ ((wC (aF [h5, n0, n1, n2, n3, n4, n5, n6, n7, n8, n9, n10, n11]) cI cJ (fun _ => 0) (fun _ => 0) (fun _ => 0) (fun _ => 0) (fun _ => 0) (fun _ => 0) (fun _ => 0) 0 1 0 0 0 0 0 0 0 0 0) ++ (wO oo cJ (fun _ => 0)))) H := hP.sub (ws' := ((wM (aF [h6, m0, m1, m2, m3, m4, m5]) cI cJ (fun _ => 0) (fun _ => 0) (f_ini 25 0 (fun _ => 0)) (fun _ => 0) (fun _ => 0) (fun _ => 0) 0 0 0 1 0 0 0 0) ++ ((wC (aF [h5, n0, n1, n2, n3, n4, n5, n6, n7, n8, n9, n10, n11]) cI cJ (fun _ => 0) (fun _ => 0) (fun _ => 0) (fun _ => 0) (fun _ => 0) (fun _ => 0) (fun _ => 0) 0 1 0 0 0 0 0 0 0 0 0) ++ (wO oo cJ (fun _ => 0))))) [13, 14, 15, 16, 17, 18, 19, 0, 1, 2, 3, 4, 5, 6, 7, 8, 9, 10, 11, 12, 20] rfl
  have hD : va_D (fun q : Nat => s.heap.size ≤ q) ((wM (aF [h6, m0, m1, m2, m3, m4, m5]) cI cJ (fun _ => 0) (fun _ => 0) (f_ini 25 0 (fun _ => 0)) (fun _ => 0) (fun _ => 0) (fun _ => 0) 0 0 0 1 0 0 0 0) ++ ((wC (aF [h5, n0, n1, n2, n3, n4, n5, n6, n7, n8, n9, n10, n11]) cI cJ (fun _ => 0) (fun _ => 0) (fun _ => 0) (fun _ => 0) (fun _ => 0) (fun _ => 0) (fun _ => 0) 0 1 0 0 0 0 0 0 0 0 0) ++ (wO oo cJ (fun _ => 0)))) := hD.sub (ws' := ((wM (aF [h6, m0, m1, m2, m3, m4, m5]) cI cJ (fun _ => 0) (fun _ => 0) (f_ini 25 0 (fun _ => 0)) (fun _ => 0) (fun _ => 0) (fun _ => 0) 0 0 0 1 0 0 0 0) ++ ((wC (aF [h5, n0, n1, n2, n3, n4, n5, n6, n7, n8, n9, n10, n11]) cI cJ (fun _ => 0) (fun _ => 0) (fun _ => 0) (fun _ => 0) (fun _ => 0) (fun _ => 0) (fun _ => 0) 0 1 0 0 0 0 0 0 0 0 0) ++ (wO oo cJ (fun _ => 0))))) [13, 14, 15, 16, 17, 18, 19, 0, 1, 2, 3, 4, 5, 6, 7, 8, 9, 10, 11, 12, 20] (by decide) rfl
  exact lw_loop (a := (aF [h5, n0, n1, n2, n3, n4, n5, n6, n7, n8, n9, n10, n11])) (b := (aF [h6, m0, m1, m2, m3, m4, m5])) (cI := cI) (cJ := cJ) (o := oo) hL hx hb hr hml hown htH hXs hbl hlocks hlt hK hX (L + 1) 0 21 414 (by omega) (by omega) rfl rfl (fun _ => 0) (fun _ => 0) (fun _ => 0) (f_ini 25 0 (fun _ => 0)) (fun _ => 0) (fun _ => 0) (fun _ => 0) (fun _ => 0) 0 1 0 0 0 0 0 0 0 0 0 0 (fun _ => 0) inv_0 _ _ hP hD hS ls (lv_sub hl [4, 3, 2, 1, 0] rfl)
