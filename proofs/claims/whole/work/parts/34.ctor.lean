/-! constructors -/
abbrev nPcw (D : va_G) (tys : List (ClassId × FieldType)) (sz : Nat) (ws : va_W) (av : List Value) : Array Value → State → Prop := va_Pc av (fun U => U.heap.size = sz ∧ va_P D vwCl ws U.heap ∧ kK D tys U ∧ va_D (fun _ => True) ws)
theorem im_of {l : Launch} {y : MethodName} {rm : Room} {D : va_G} {tys : List (ClassId × FieldType)} {sz mc ms : Nat} {ws : va_W} {av : List Value} {Qc : Array Value → State → Outcome → State → Prop} {cc : ByteArray} {maxL : Nat} (hy : plainName y.cls = true) (hyn : y.name = "<init>") (hlen : (lg_sl av).length ≤ maxL)
    (body : ∀ (p : Program) (e : Env) (s : State) (m : MethodId) (args : Array Value) (below : List Frame) (meth : Method) (c : Code) (Q : State → Prop) (ls : Array Slot) (A : Nat → Prop), A = va_A ws s.heap.size → s.heap.size = sz → Q = MQ below Qc args s mc ms A → p.tables.exec = Jvm.exec → c.code = cc → meth.sig.returnType = none → meth.locks = false → c.maxLocals = maxL → meth.name = "<init>" → s.vm.findClass y.cls = some m.cls → (∀ w ∈ lw_G, w.before args s = true) → va_P D vwCl ws s.heap → kK D tys s → va_D A ws → va_S A s.heap s.heap [] → (∀ q : Nat, s.heap.size ≤ q → A q) → lv_has ls maxL (lv_args 0 av) → W p l e rm s m args below meth c s.heap [] 0 0 Q (F0 m 0 ls [])) : Met l y (Cond.code y cc maxL none :: lw_G) rm (nPcw D tys sz ws av) Qc mc ms (va_A ws sz) := by
  refine Met.ofW (cc := cc) (maxL := maxL) (ret := none) hy rfl ?_
  intro p e s m args below meth c s₁ B hml hv
  obtain ⟨rfl, hsz, hP, hK, hD⟩ := hv
  subst hsz
  rw [lg_entry_eq]
  exact body p e s m _ below meth c _ _ _ rfl rfl rfl B.exec B.bytes B.returns B.notSynchronized hml ((name_of_methodNamed B.named B.method).1.trans hyn) (findClass_of_methodNamed B.named) (fun w h => atoms_spec (ws := Cond.code y cc maxL none :: lw_G) B.pre w (List.mem_cons_of_mem _ h)) hP hK hD.self va_S.rf (fun q h => Or.inr h) (lv_entry av hlen)
section NA
variable {p : Program} {l : Launch} {e : Env} {R : Room} {s : State} {m : MethodId} {args : Array Value} {below : List Frame} {meth : Method} {c : Code} {H : Heap} {locs : List Loc} {cells slots : Nat} {Q : State → Prop}
variable {pc : Nat} {ls : Array Slot} {rest : List Value} {A : Nat → Prop} {D : va_G} {ws : va_W} {cI cJ : ClassId} {cc : ByteArray} {H0 : Heap}
theorem na_i (hx : p.tables.exec = Jvm.exec) (hb : c.code = cc) (harr : (Cond.arrayClass .int).before args s = true) (hK : kK D (tIJ cI cJ) s) (hP : va_P D vwCl ws H) (hD : va_D A ws) (hS : va_S A H0 H locs) (hA : ∀ q, H0.size ≤ q → A q) {n : Int32} {N : Nat} (hn : ¬ n < 0) (hN : n.toNatClampNeg = N) (hby : N * componentBytes .int ≤ 536870912) (hc : cells + 1 ≤ R.cells) (hs : slots + N ≤ R.slots) (hdg : decode cc pc = .ok (.newarray .int, 2))
    (kk : ∀ (q : Nat) (H1 : Heap), va_P D vwCl (ws ++ [(q, .inl (cI, N, .inl (fun _ => 0)))]) H1 → va_D A (ws ++ [(q, .inl (cI, N, .inl (fun _ => 0)))]) → va_S A H0 H1 locs → W p l e R s m args below meth c H1 locs (cells + 1) (slots + N) Q (F0 m (pc + 2) ls (.ref q :: rest))) : W p l e R s m args below meth c H locs cells slots Q (F0 m pc ls (.int n :: rest)) := by
  refine va_newa (atype := .int) hx hb harr (ty := .int) rfl hK.1 hP hD hS hA (a0 := (N, .inl (fun _ => 0))) (fun _ => rfl) hn hN hby hc hs hdg (fun q cA H1 hK1 hP1 hD1 hS1 => ?_)
  have e1 : s.vm.findClass ("[" ++ FieldType.int.toString) = some cA := (hK1.2 2 (cA, .int) rfl).2
  have e2 : s.vm.findClass ("[" ++ FieldType.int.toString) = some cI := (hK.1.2 0 (cI, .int) rfl).2
  have e3 : cA = cI := Option.some.inj (e1.symm.trans e2)
  subst e3
  exact kk q H1 hP1 hD1 hS1
theorem na_l (hx : p.tables.exec = Jvm.exec) (hb : c.code = cc) (harr : (Cond.arrayClass .long).before args s = true) (hK : kK D (tIJ cI cJ) s) (hP : va_P D vwCl ws H) (hD : va_D A ws) (hS : va_S A H0 H locs) (hA : ∀ q, H0.size ≤ q → A q) {n : Int32} {N : Nat} (hn : ¬ n < 0) (hN : n.toNatClampNeg = N) (hby : N * componentBytes .long ≤ 536870912) (hc : cells + 1 ≤ R.cells) (hs : slots + N ≤ R.slots) (hdg : decode cc pc = .ok (.newarray .long, 2))
    (kk : ∀ (q : Nat) (H1 : Heap), va_P D vwCl (ws ++ [(q, .inl (cJ, N, .inr (.inl (fun _ => 0))))]) H1 → va_D A (ws ++ [(q, .inl (cJ, N, .inr (.inl (fun _ => 0))))]) → va_S A H0 H1 locs → W p l e R s m args below meth c H1 locs (cells + 1) (slots + N) Q (F0 m (pc + 2) ls (.ref q :: rest))) : W p l e R s m args below meth c H locs cells slots Q (F0 m pc ls (.int n :: rest)) := by
  refine va_newa (atype := .long) hx hb harr (ty := .long) rfl hK.1 hP hD hS hA (a0 := (N, .inr (.inl (fun _ => 0)))) (fun _ => rfl) hn hN hby hc hs hdg (fun q cA H1 hK1 hP1 hD1 hS1 => ?_)
  have e1 : s.vm.findClass ("[" ++ FieldType.long.toString) = some cA := (hK1.2 2 (cA, .long) rfl).2
  have e2 : s.vm.findClass ("[" ++ FieldType.long.toString) = some cJ := (hK.1.2 1 (cJ, .long) rfl).2
  have e3 : cA = cJ := Option.some.inj (e1.symm.trans e2)
  subst e3
  exact kk q H1 hP1 hD1 hS1
end NA
/-- the row that a new reference has -/
def f_ini : Nat → Int32 → (Nat → Int32) → Nat → Int32
  | 0, _, f => f
  | n + 1, i, f => if (24 : Int32) ≤ i then f else f_ini n (i + 1) (upd f (Int32.toNatClampNeg i) (-1))
theorem hs_X2_init : yX2_init.cls ≠ "java/lang/invoke/MethodHandle" ∧ yX2_init.cls ≠ "java/lang/invoke/VarHandle" ∧ (parseMethodDescriptor yX2_init.desc).map (fun d => d.parameters.length) = some 0 := by decide +kernel
theorem hd_X2_init : yX2_init.cls = RX2 ∧ yX2_init.cls ≠ "java/lang/invoke/MethodHandle" ∧ yX2_init.cls ≠ "java/lang/invoke/VarHandle" ∧ (parseMethodDescriptor yX2_init.desc).map (fun d => d.parameters.length) = some 0 := ⟨rfl, hs_X2_init⟩

abbrev rm_X2_init : Room := { frames := 1, cells := 2, slots := 120, locals := 12 }
set_option maxHeartbeats 8000000 in
set_option maxRecDepth 100000 in
theorem c_X2_init (l : Launch) (dC : Nat → ClassId) (dI : Nat → Nat → Nat) (cI cJ : ClassId) (h0 sz : Nat) : Met l yX2_init (Cond.code yX2_init cX2_init 1 none :: lw_G) rm_X2_init (nPcw (dC, dI) (tIJ cI cJ) sz [(h0, .inr (6, [.null, .null, .int 0]))] [.ref h0]) (va_Qv (fun _ : Nat × Nat => True) (fun u t => va_P (dC, dI) vwCl [(h0, .inr (6, [.ref u.1, .ref u.2, .int (0 : Int32)])), (u.1, .inl (cI, 60, .inl (fun _ => 0))), (u.2, .inl (cI, 60, .inl (fun _ => 0)))] t.heap ∧ va_D (va_A [(h0, .inr (6, [.null, .null, .int 0]))] sz) [(h0, .inr (6, [.ref u.1, .ref u.2, .int (0 : Int32)])), (u.1, .inl (cI, 60, .inl (fun _ => 0))), (u.2, .inl (cI, 60, .inl (fun _ => 0)))]) (va_A [(h0, .inr (6, [.null, .null, .int 0]))] sz)) 2 120 (va_A [(h0, .inr (6, [.null, .null, .int 0]))] sz) := by
  refine im_of (by decide) rfl (Nat.le_of_ble_eq_true rfl) ?_
  intro p e s m args below meth c Q ls A hAe hsz hQ hx hb hr hlk hml hin hown hts hP hK hD hS hA hl
  subst hsz
  rw [← hAe] at hQ
  have hown : s.vm.findClass RX2 = some m.cls := hown
  have hl : lv_has ls 1 [(0, .ref h0)] := hl
  refine lv_aload_n hx hb dX2_init_0 rfl (lv_at hl 0 rfl) ?_
  refine W.objInit hx hb hown (hts _ mG_2_12) (hts _ mG_1_12) (hts _ mG_1_13) rfl (by rw [hml]; exact hl.1) rfl dX2_init_1 (Nat.le_of_ble_eq_true rfl) (Nat.le_of_ble_eq_true rfl) ?_
  refine W.eq (g2 := F0 m 4 ls []) rfl ?_
  refine lv_aload_n hx hb dX2_init_4 rfl (lv_at hl 0 rfl) ?_
  refine lv_bipush (v := (60 : Int32)) hx hb dX2_init_5 (by decide) ?_
  refine na_i (N := 60) hx hb (hts _ mG_2_13) hK hP hD hS hA (by decide) (by decide) (by decide) (Nat.le_of_ble_eq_true rfl) (Nat.le_of_ble_eq_true rfl) dX2_init_7 (fun q0 H hP hD hS => ?_)
  have hP : va_P (dC, dI) vwCl [(h0, .inr (6, [.null, .null, .int 0])), (q0, .inl (cI, 60, .inl (fun _ => 0)))] H := hP
  have hD : va_D A [(h0, .inr (6, [.null, .null, .int 0])), (q0, .inl (cI, 60, .inl (fun _ => 0)))] := hD
  refine va_putF (D := (dC, dI)) (ci := 6) (v := .ref q0) (ty := .array .int) (C := RX2) (T := TX2) (N := 3) hx hb hts (fun _ h => gI_wsX20 h) tyX2 tyX2_ok nmX2 hown hK.1 hP hD hS 0 rfl rfl 0 (by decide) (hts _ mG_2_14) (fun _ h9 => h9) rfl hin rfl (by decide +kernel) rfl rfl (Nat.le_of_ble_eq_true rfl) dX2_init_9 (fun H locs hP hD hS => ?_)
  have hP : va_P (dC, dI) vwCl [(h0, .inr (6, [.ref q0, .null, .int 0])), (q0, .inl (cI, 60, .inl (fun _ => 0)))] H := hP
  have hD : va_D A [(h0, .inr (6, [.ref q0, .null, .int 0])), (q0, .inl (cI, 60, .inl (fun _ => 0)))] := hD
  refine lv_aload_n hx hb dX2_init_12 rfl (lv_at hl 0 rfl) ?_
  refine lv_bipush (v := (60 : Int32)) hx hb dX2_init_13 (by decide) ?_
  refine na_i (N := 60) hx hb (hts _ mG_2_13) hK hP hD hS hA (by decide) (by decide) (by decide) (Nat.le_of_ble_eq_true rfl) (Nat.le_of_ble_eq_true rfl) dX2_init_15 (fun q1 H hP hD hS => ?_)
  have hP : va_P (dC, dI) vwCl [(h0, .inr (6, [.ref q0, .null, .int 0])), (q0, .inl (cI, 60, .inl (fun _ => 0))), (q1, .inl (cI, 60, .inl (fun _ => 0)))] H := hP
  have hD : va_D A [(h0, .inr (6, [.ref q0, .null, .int 0])), (q0, .inl (cI, 60, .inl (fun _ => 0))), (q1, .inl (cI, 60, .inl (fun _ => 0)))] := hD
  refine va_putF (D := (dC, dI)) (ci := 6) (v := .ref q1) (ty := .array .int) (C := RX2) (T := TX2) (N := 3) hx hb hts (fun _ h => gI_wsX20 h) tyX2 tyX2_ok nmX2 hown hK.1 hP hD hS 0 rfl rfl 1 (by decide) (hts _ mG_2_15) (fun _ h9 => h9) rfl hin rfl (by decide +kernel) rfl rfl (Nat.le_of_ble_eq_true rfl) dX2_init_17 (fun H locs hP hD hS => ?_)
  have hP : va_P (dC, dI) vwCl [(h0, .inr (6, [.ref q0, .ref q1, .int 0])), (q0, .inl (cI, 60, .inl (fun _ => 0))), (q1, .inl (cI, 60, .inl (fun _ => 0)))] H := hP
  have hD : va_D A [(h0, .inr (6, [.ref q0, .ref q1, .int 0])), (q0, .inl (cI, 60, .inl (fun _ => 0))), (q1, .inl (cI, 60, .inl (fun _ => 0)))] := hD
  refine lv_aload_n hx hb dX2_init_20 rfl (lv_at hl 0 rfl) ?_
  refine lv_iconst (v := (0 : Int32)) hx hb dX2_init_21 (by decide) ?_
  refine va_put (D := (dC, dI)) (ci := 6) (v := .int (0 : Int32)) (ty := .int) (C := RX2) (T := TX2) (N := 3) hx hb hts (fun _ h => gI_wsX20 h) tyX2 tyX2_ok nmX2 hown hK.1 hP hD hS 0 rfl rfl 2 (by decide) (hts _ mG_2_16) (fun _ h9 => h9) rfl (by decide +kernel) rfl rfl (Nat.le_of_ble_eq_true rfl) dX2_init_22 (fun H locs hP hD hS => ?_)
  have hP : va_P (dC, dI) vwCl [(h0, .inr (6, [.ref q0, .ref q1, .int (0 : Int32)])), (q0, .inl (cI, 60, .inl (fun _ => 0))), (q1, .inl (cI, 60, .inl (fun _ => 0)))] H := hP
  have hD : va_D A [(h0, .inr (6, [.ref q0, .ref q1, .int (0 : Int32)])), (q0, .inl (cI, 60, .inl (fun _ => 0))), (q1, .inl (cI, 60, .inl (fun _ => 0)))] := hD
  rw [hQ]
  exact W.vret hx hb hr (fun t ht hW => ⟨⟨(q0, q1), rfl, trivial, by subst ht; exact hP, hD⟩, hS.F ht⟩) hS.2.2 dX2_init_25 hlk
theorem hs_X3_init : yX3_init.cls ≠ "java/lang/invoke/MethodHandle" ∧ yX3_init.cls ≠ "java/lang/invoke/VarHandle" ∧ (parseMethodDescriptor yX3_init.desc).map (fun d => d.parameters.length) = some 1 := by decide +kernel
theorem hd_X3_init : yX3_init.cls = RX3 ∧ yX3_init.cls ≠ "java/lang/invoke/MethodHandle" ∧ yX3_init.cls ≠ "java/lang/invoke/VarHandle" ∧ (parseMethodDescriptor yX3_init.desc).map (fun d => d.parameters.length) = some 1 := ⟨rfl, hs_X3_init⟩

abbrev rm_X3_init : Room := { frames := 1, cells := 0, slots := 0, locals := 12 }
set_option maxHeartbeats 8000000 in
set_option maxRecDepth 100000 in
theorem c_X3_init (l : Launch) (dC : Nat → ClassId) (dI : Nat → Nat → Nat) (cI cJ : ClassId) (h0 sz : Nat) (hp : Nat) : Met l yX3_init (Cond.code yX3_init cX3_init 2 none :: lw_G) rm_X3_init (nPcw (dC, dI) (tIJ cI cJ) sz [(h0, .inr (7, [.null, .int 0, .int 0, .int 0, .int 0]))] [.ref h0, .ref hp]) (va_Qv (fun _ : Unit => True) (fun u t => va_P (dC, dI) vwCl [(h0, .inr (7, [.ref hp, .int (1 : Int32), .int (0 : Int32), .int (0 : Int32), .int (0 : Int32)]))] t.heap ∧ va_D (va_A [(h0, .inr (7, [.null, .int 0, .int 0, .int 0, .int 0]))] sz) [(h0, .inr (7, [.ref hp, .int (1 : Int32), .int (0 : Int32), .int (0 : Int32), .int (0 : Int32)]))]) (va_A [(h0, .inr (7, [.null, .int 0, .int 0, .int 0, .int 0]))] sz)) 0 0 (va_A [(h0, .inr (7, [.null, .int 0, .int 0, .int 0, .int 0]))] sz) := by
  refine im_of (by decide) rfl (Nat.le_of_ble_eq_true rfl) ?_
  intro p e s m args below meth c Q ls A hAe hsz hQ hx hb hr hlk hml hin hown hts hP hK hD hS hA hl
  subst hsz
  rw [← hAe] at hQ
  have hown : s.vm.findClass RX3 = some m.cls := hown
  have hl : lv_has ls 2 [(0, .ref h0), (1, .ref hp)] := hl
  refine lv_aload_n hx hb dX3_init_0 rfl (lv_at hl 0 rfl) ?_
  refine W.objInit hx hb hown (hts _ mG_2_20) (hts _ mG_1_12) (hts _ mG_1_13) rfl (by rw [hml]; exact hl.1) rfl dX3_init_1 (Nat.le_of_ble_eq_true rfl) (Nat.le_of_ble_eq_true rfl) ?_
  refine W.eq (g2 := F0 m 4 ls []) rfl ?_
  refine lv_aload_n hx hb dX3_init_4 rfl (lv_at hl 0 rfl) ?_
  refine lv_iconst (v := (1 : Int32)) hx hb dX3_init_5 (by decide) ?_
  refine va_put (D := (dC, dI)) (ci := 7) (v := .int (1 : Int32)) (ty := .boolean) (C := RX3) (T := TX3) (N := 5) hx hb hts (fun _ h => gI_wsX30 h) tyX3 tyX3_ok nmX3 hown hK.1 hP hD hS 0 rfl rfl 1 (by decide) (hts _ mG_2_21) (fun _ h9 => h9) rfl (by decide +kernel) rfl rfl (Nat.le_of_ble_eq_true rfl) dX3_init_6 (fun H locs hP hD hS => ?_)
  have hP : va_P (dC, dI) vwCl [(h0, .inr (7, [.null, .int (1 : Int32), .int 0, .int 0, .int 0]))] H := hP
  have hD : va_D A [(h0, .inr (7, [.null, .int (1 : Int32), .int 0, .int 0, .int 0]))] := hD
  refine lv_aload_n hx hb dX3_init_9 rfl (lv_at hl 0 rfl) ?_
  refine lv_iconst (v := (0 : Int32)) hx hb dX3_init_10 (by decide) ?_
  refine va_put (D := (dC, dI)) (ci := 7) (v := .int (0 : Int32)) (ty := .int) (C := RX3) (T := TX3) (N := 5) hx hb hts (fun _ h => gI_wsX30 h) tyX3 tyX3_ok nmX3 hown hK.1 hP hD hS 0 rfl rfl 2 (by decide) (hts _ mG_2_22) (fun _ h9 => h9) rfl (by decide +kernel) rfl rfl (Nat.le_of_ble_eq_true rfl) dX3_init_11 (fun H locs hP hD hS => ?_)
  have hP : va_P (dC, dI) vwCl [(h0, .inr (7, [.null, .int (1 : Int32), .int (0 : Int32), .int 0, .int 0]))] H := hP
  have hD : va_D A [(h0, .inr (7, [.null, .int (1 : Int32), .int (0 : Int32), .int 0, .int 0]))] := hD
  refine lv_aload_n hx hb dX3_init_14 rfl (lv_at hl 0 rfl) ?_
  refine lv_iconst (v := (0 : Int32)) hx hb dX3_init_15 (by decide) ?_
  refine va_put (D := (dC, dI)) (ci := 7) (v := .int (0 : Int32)) (ty := .int) (C := RX3) (T := TX3) (N := 5) hx hb hts (fun _ h => gI_wsX30 h) tyX3 tyX3_ok nmX3 hown hK.1 hP hD hS 0 rfl rfl 3 (by decide) (hts _ mG_2_23) (fun _ h9 => h9) rfl (by decide +kernel) rfl rfl (Nat.le_of_ble_eq_true rfl) dX3_init_16 (fun H locs hP hD hS => ?_)
  have hP : va_P (dC, dI) vwCl [(h0, .inr (7, [.null, .int (1 : Int32), .int (0 : Int32), .int (0 : Int32), .int 0]))] H := hP
  have hD : va_D A [(h0, .inr (7, [.null, .int (1 : Int32), .int (0 : Int32), .int (0 : Int32), .int 0]))] := hD
  refine lv_aload_n hx hb dX3_init_19 rfl (lv_at hl 0 rfl) ?_
  refine lv_iconst (v := (0 : Int32)) hx hb dX3_init_20 (by decide) ?_
  refine va_put (D := (dC, dI)) (ci := 7) (v := .int (0 : Int32)) (ty := .int) (C := RX3) (T := TX3) (N := 5) hx hb hts (fun _ h => gI_wsX30 h) tyX3 tyX3_ok nmX3 hown hK.1 hP hD hS 0 rfl rfl 4 (by decide) (hts _ mG_3_0) (fun _ h9 => h9) rfl (by decide +kernel) rfl rfl (Nat.le_of_ble_eq_true rfl) dX3_init_21 (fun H locs hP hD hS => ?_)
  have hP : va_P (dC, dI) vwCl [(h0, .inr (7, [.null, .int (1 : Int32), .int (0 : Int32), .int (0 : Int32), .int (0 : Int32)]))] H := hP
  have hD : va_D A [(h0, .inr (7, [.null, .int (1 : Int32), .int (0 : Int32), .int (0 : Int32), .int (0 : Int32)]))] := hD
  refine lv_aload_n hx hb dX3_init_24 rfl (lv_at hl 0 rfl) ?_
  refine lv_aload_n hx hb dX3_init_25 rfl (lv_at hl 1 rfl) ?_
  refine va_putF (D := (dC, dI)) (ci := 7) (v := .ref hp) (ty := .object "OrderJudge$Points") (C := RX3) (T := TX3) (N := 5) hx hb hts (fun _ h => gI_wsX30 h) tyX3 tyX3_ok nmX3 hown hK.1 hP hD hS 0 rfl rfl 0 (by decide) (hts _ mG_3_1) (fun _ h9 => h9) rfl hin rfl (by decide +kernel) rfl rfl (Nat.le_of_ble_eq_true rfl) dX3_init_26 (fun H locs hP hD hS => ?_)
  have hP : va_P (dC, dI) vwCl [(h0, .inr (7, [.ref hp, .int (1 : Int32), .int (0 : Int32), .int (0 : Int32), .int (0 : Int32)]))] H := hP
  have hD : va_D A [(h0, .inr (7, [.ref hp, .int (1 : Int32), .int (0 : Int32), .int (0 : Int32), .int (0 : Int32)]))] := hD
  rw [hQ]
  exact W.vret hx hb hr (fun t ht hW => ⟨⟨(), rfl, trivial, by subst ht; exact hP, hD⟩, hS.F ht⟩) hS.2.2 dX3_init_29 hlk
theorem hs_X0_init : yX0_init.cls ≠ "java/lang/invoke/MethodHandle" ∧ yX0_init.cls ≠ "java/lang/invoke/VarHandle" ∧ (parseMethodDescriptor yX0_init.desc).map (fun d => d.parameters.length) = some 1 := by decide +kernel
theorem hd_X0_init : yX0_init.cls = RX0 ∧ yX0_init.cls ≠ "java/lang/invoke/MethodHandle" ∧ yX0_init.cls ≠ "java/lang/invoke/VarHandle" ∧ (parseMethodDescriptor yX0_init.desc).map (fun d => d.parameters.length) = some 1 := ⟨rfl, hs_X0_init⟩

abbrev rm_X0_init : Room := { frames := 1, cells := 0, slots := 0, locals := 12 }
set_option maxHeartbeats 8000000 in
set_option maxRecDepth 100000 in
theorem c_X0_init (l : Launch) (dC : Nat → ClassId) (dI : Nat → Nat → Nat) (cI cJ : ClassId) (h0 sz : Nat) (hp : Nat) : Met l yX0_init (Cond.code yX0_init cX0_init 2 none :: lw_G) rm_X0_init (nPcw (dC, dI) (tIJ cI cJ) sz [(h0, .inr (4, [.null]))] [.ref h0, .ref hp]) (va_Qv (fun _ : Unit => True) (fun u t => va_P (dC, dI) vwCl [(h0, .inr (4, [.ref hp]))] t.heap ∧ va_D (va_A [(h0, .inr (4, [.null]))] sz) [(h0, .inr (4, [.ref hp]))]) (va_A [(h0, .inr (4, [.null]))] sz)) 0 0 (va_A [(h0, .inr (4, [.null]))] sz) := by
  refine im_of (by decide) rfl (Nat.le_of_ble_eq_true rfl) ?_
  intro p e s m args below meth c Q ls A hAe hsz hQ hx hb hr hlk hml hin hown hts hP hK hD hS hA hl
  subst hsz
  rw [← hAe] at hQ
  have hown : s.vm.findClass RX0 = some m.cls := hown
  have hl : lv_has ls 2 [(0, .ref h0), (1, .ref hp)] := hl
  refine lv_aload_n hx hb dX0_init_0 rfl (lv_at hl 0 rfl) ?_
  refine W.objInit hx hb hown (hts _ mG_3_5) (hts _ mG_1_12) (hts _ mG_1_13) rfl (by rw [hml]; exact hl.1) rfl dX0_init_1 (Nat.le_of_ble_eq_true rfl) (Nat.le_of_ble_eq_true rfl) ?_
  refine W.eq (g2 := F0 m 4 ls []) rfl ?_
  refine lv_aload_n hx hb dX0_init_4 rfl (lv_at hl 0 rfl) ?_
  refine lv_aload_n hx hb dX0_init_5 rfl (lv_at hl 1 rfl) ?_
  refine va_putF (D := (dC, dI)) (ci := 4) (v := .ref hp) (ty := .object "OrderJudge$Points") (C := RX0) (T := TX0) (N := 1) hx hb hts (fun _ h => gI_wsX00 h) tyX0 tyX0_ok nmX0 hown hK.1 hP hD hS 0 rfl rfl 0 (by decide) (hts _ mG_3_6) (fun _ h9 => h9) rfl hin rfl (by decide +kernel) rfl rfl (Nat.le_of_ble_eq_true rfl) dX0_init_6 (fun H locs hP hD hS => ?_)
  have hP : va_P (dC, dI) vwCl [(h0, .inr (4, [.ref hp]))] H := hP
  have hD : va_D A [(h0, .inr (4, [.ref hp]))] := hD
  rw [hQ]
  exact W.vret hx hb hr (fun t ht hW => ⟨⟨(), rfl, trivial, by subst ht; exact hP, hD⟩, hS.F ht⟩) hS.2.2 dX0_init_9 hlk
theorem hs_X4_init : yX4_init.cls ≠ "java/lang/invoke/MethodHandle" ∧ yX4_init.cls ≠ "java/lang/invoke/VarHandle" ∧ (parseMethodDescriptor yX4_init.desc).map (fun d => d.parameters.length) = some 1 := by decide +kernel
theorem hd_X4_init : yX4_init.cls = RX4 ∧ yX4_init.cls ≠ "java/lang/invoke/MethodHandle" ∧ yX4_init.cls ≠ "java/lang/invoke/VarHandle" ∧ (parseMethodDescriptor yX4_init.desc).map (fun d => d.parameters.length) = some 1 := ⟨rfl, hs_X4_init⟩

abbrev rm_X4_init : Room := { frames := 1, cells := 1, slots := 24, locals := 12 }
set_option maxHeartbeats 8000000 in
set_option maxRecDepth 100000 in
theorem c_X4_init (l : Launch) (dC : Nat → ClassId) (dI : Nat → Nat → Nat) (cI cJ : ClassId) (h0 sz : Nat) (hp : Nat) : Met l yX4_init (Cond.code yX4_init cX4_init 2 none :: lw_G) rm_X4_init (nPcw (dC, dI) (tIJ cI cJ) sz [(h0, .inr (8, [.null, .null, .int 0]))] [.ref h0, .ref hp]) (va_Qv (fun _ : Nat => True) (fun u t => va_P (dC, dI) vwCl [(h0, .inr (8, [.ref hp, .ref u, .int (0 : Int32)])), (u, .inl (cI, 24, .inl (fun _ => 0)))] t.heap ∧ va_D (va_A [(h0, .inr (8, [.null, .null, .int 0]))] sz) [(h0, .inr (8, [.ref hp, .ref u, .int (0 : Int32)])), (u, .inl (cI, 24, .inl (fun _ => 0)))]) (va_A [(h0, .inr (8, [.null, .null, .int 0]))] sz)) 1 24 (va_A [(h0, .inr (8, [.null, .null, .int 0]))] sz) := by
  refine im_of (by decide) rfl (Nat.le_of_ble_eq_true rfl) ?_
  intro p e s m args below meth c Q ls A hAe hsz hQ hx hb hr hlk hml hin hown hts hP hK hD hS hA hl
  subst hsz
  rw [← hAe] at hQ
  have hown : s.vm.findClass RX4 = some m.cls := hown
  have hl : lv_has ls 2 [(0, .ref h0), (1, .ref hp)] := hl
  refine lv_aload_n hx hb dX4_init_0 rfl (lv_at hl 0 rfl) ?_
  refine W.objInit hx hb hown (hts _ mG_3_10) (hts _ mG_1_12) (hts _ mG_1_13) rfl (by rw [hml]; exact hl.1) rfl dX4_init_1 (Nat.le_of_ble_eq_true rfl) (Nat.le_of_ble_eq_true rfl) ?_
  refine W.eq (g2 := F0 m 4 ls []) rfl ?_
  refine lv_aload_n hx hb dX4_init_4 rfl (lv_at hl 0 rfl) ?_
  refine lv_bipush (v := (24 : Int32)) hx hb dX4_init_5 (by decide) ?_
  refine na_i (N := 24) hx hb (hts _ mG_2_13) hK hP hD hS hA (by decide) (by decide) (by decide) (Nat.le_of_ble_eq_true rfl) (Nat.le_of_ble_eq_true rfl) dX4_init_7 (fun q0 H hP hD hS => ?_)
  have hP : va_P (dC, dI) vwCl [(h0, .inr (8, [.null, .null, .int 0])), (q0, .inl (cI, 24, .inl (fun _ => 0)))] H := hP
  have hD : va_D A [(h0, .inr (8, [.null, .null, .int 0])), (q0, .inl (cI, 24, .inl (fun _ => 0)))] := hD
  refine va_putF (D := (dC, dI)) (ci := 8) (v := .ref q0) (ty := .array .int) (C := RX4) (T := TX4) (N := 3) hx hb hts (fun _ h => gI_wsX40 h) tyX4 tyX4_ok nmX4 hown hK.1 hP hD hS 0 rfl rfl 1 (by decide) (hts _ mG_3_11) (fun _ h9 => h9) rfl hin rfl (by decide +kernel) rfl rfl (Nat.le_of_ble_eq_true rfl) dX4_init_9 (fun H locs hP hD hS => ?_)
  have hP : va_P (dC, dI) vwCl [(h0, .inr (8, [.null, .ref q0, .int 0])), (q0, .inl (cI, 24, .inl (fun _ => 0)))] H := hP
  have hD : va_D A [(h0, .inr (8, [.null, .ref q0, .int 0])), (q0, .inl (cI, 24, .inl (fun _ => 0)))] := hD
  refine lv_aload_n hx hb dX4_init_12 rfl (lv_at hl 0 rfl) ?_
  refine lv_iconst (v := (0 : Int32)) hx hb dX4_init_13 (by decide) ?_
  refine va_put (D := (dC, dI)) (ci := 8) (v := .int (0 : Int32)) (ty := .int) (C := RX4) (T := TX4) (N := 3) hx hb hts (fun _ h => gI_wsX40 h) tyX4 tyX4_ok nmX4 hown hK.1 hP hD hS 0 rfl rfl 2 (by decide) (hts _ mG_3_12) (fun _ h9 => h9) rfl (by decide +kernel) rfl rfl (Nat.le_of_ble_eq_true rfl) dX4_init_14 (fun H locs hP hD hS => ?_)
  have hP : va_P (dC, dI) vwCl [(h0, .inr (8, [.null, .ref q0, .int (0 : Int32)])), (q0, .inl (cI, 24, .inl (fun _ => 0)))] H := hP
  have hD : va_D A [(h0, .inr (8, [.null, .ref q0, .int (0 : Int32)])), (q0, .inl (cI, 24, .inl (fun _ => 0)))] := hD
  refine lv_aload_n hx hb dX4_init_17 rfl (lv_at hl 0 rfl) ?_
  refine lv_aload_n hx hb dX4_init_18 rfl (lv_at hl 1 rfl) ?_
  refine va_putF (D := (dC, dI)) (ci := 8) (v := .ref hp) (ty := .object "OrderJudge$Points") (C := RX4) (T := TX4) (N := 3) hx hb hts (fun _ h => gI_wsX40 h) tyX4 tyX4_ok nmX4 hown hK.1 hP hD hS 0 rfl rfl 0 (by decide) (hts _ mG_3_13) (fun _ h9 => h9) rfl hin rfl (by decide +kernel) rfl rfl (Nat.le_of_ble_eq_true rfl) dX4_init_19 (fun H locs hP hD hS => ?_)
  have hP : va_P (dC, dI) vwCl [(h0, .inr (8, [.ref hp, .ref q0, .int (0 : Int32)])), (q0, .inl (cI, 24, .inl (fun _ => 0)))] H := hP
  have hD : va_D A [(h0, .inr (8, [.ref hp, .ref q0, .int (0 : Int32)])), (q0, .inl (cI, 24, .inl (fun _ => 0)))] := hD
  rw [hQ]
  exact W.vret hx hb hr (fun t ht hW => ⟨⟨(q0), rfl, trivial, by subst ht; exact hP, hD⟩, hS.F ht⟩) hS.2.2 dX4_init_22 hlk
theorem hs_X1_init : yX1_init.cls ≠ "java/lang/invoke/MethodHandle" ∧ yX1_init.cls ≠ "java/lang/invoke/VarHandle" ∧ (parseMethodDescriptor yX1_init.desc).map (fun d => d.parameters.length) = some 1 := by decide +kernel
theorem hd_X1_init : yX1_init.cls = RX1 ∧ yX1_init.cls ≠ "java/lang/invoke/MethodHandle" ∧ yX1_init.cls ≠ "java/lang/invoke/VarHandle" ∧ (parseMethodDescriptor yX1_init.desc).map (fun d => d.parameters.length) = some 1 := ⟨rfl, hs_X1_init⟩

abbrev rm_X1_init : Room := { frames := 1, cells := 4, slots := 48, locals := 12 }
set_option maxHeartbeats 8000000 in
set_option maxRecDepth 100000 in
theorem c_X1_init (l : Launch) (dC : Nat → ClassId) (dI : Nat → Nat → Nat) (cI cJ : ClassId) (h0 sz : Nat) (hp : Nat) : Met l yX1_init (Cond.code yX1_init cX1_init 2 none :: lw_G) rm_X1_init (nPcw (dC, dI) (tIJ cI cJ) sz [(h0, .inr (5, [.null, .null, .null, .null, .int 0, .null, .int 0, .int 0, .int 0, .int 0]))] [.ref h0, .ref hp]) (va_Qv (fun _ : Nat × Nat × Nat × Nat => True) (fun u t => va_P (dC, dI) vwCl [(h0, .inr (5, [.ref hp, .ref u.1, .ref u.2.1, .ref u.2.2.1, .int (0 : Int32), .ref u.2.2.2, .int (0 : Int32), .int (0 : Int32), .int (0 : Int32), .int (0 : Int32)])), (u.1, .inl (cJ, 12, .inr (.inl (fun _ => 0)))), (u.2.1, .inl (cJ, 12, .inr (.inl (fun _ => 0)))), (u.2.2.1, .inl (cJ, 12, .inr (.inl (fun _ => 0)))), (u.2.2.2, .inl (cI, 12, .inl (fun _ => 0)))] t.heap ∧ va_D (va_A [(h0, .inr (5, [.null, .null, .null, .null, .int 0, .null, .int 0, .int 0, .int 0, .int 0]))] sz) [(h0, .inr (5, [.ref hp, .ref u.1, .ref u.2.1, .ref u.2.2.1, .int (0 : Int32), .ref u.2.2.2, .int (0 : Int32), .int (0 : Int32), .int (0 : Int32), .int (0 : Int32)])), (u.1, .inl (cJ, 12, .inr (.inl (fun _ => 0)))), (u.2.1, .inl (cJ, 12, .inr (.inl (fun _ => 0)))), (u.2.2.1, .inl (cJ, 12, .inr (.inl (fun _ => 0)))), (u.2.2.2, .inl (cI, 12, .inl (fun _ => 0)))]) (va_A [(h0, .inr (5, [.null, .null, .null, .null, .int 0, .null, .int 0, .int 0, .int 0, .int 0]))] sz)) 4 48 (va_A [(h0, .inr (5, [.null, .null, .null, .null, .int 0, .null, .int 0, .int 0, .int 0, .int 0]))] sz) := by
  refine im_of (by decide) rfl (Nat.le_of_ble_eq_true rfl) ?_
  intro p e s m args below meth c Q ls A hAe hsz hQ hx hb hr hlk hml hin hown hts hP hK hD hS hA hl
  subst hsz
  rw [← hAe] at hQ
  have hown : s.vm.findClass RX1 = some m.cls := hown
  have hl : lv_has ls 2 [(0, .ref h0), (1, .ref hp)] := hl
  refine lv_aload_n hx hb dX1_init_0 rfl (lv_at hl 0 rfl) ?_
  refine W.objInit hx hb hown (hts _ mG_3_17) (hts _ mG_1_12) (hts _ mG_1_13) rfl (by rw [hml]; exact hl.1) rfl dX1_init_1 (Nat.le_of_ble_eq_true rfl) (Nat.le_of_ble_eq_true rfl) ?_
  refine W.eq (g2 := F0 m 4 ls []) rfl ?_
  refine lv_aload_n hx hb dX1_init_4 rfl (lv_at hl 0 rfl) ?_
  refine lv_bipush (v := (12 : Int32)) hx hb dX1_init_5 (by decide) ?_
  refine na_l (N := 12) hx hb (hts _ mG_1_6) hK hP hD hS hA (by decide) (by decide) (by decide) (Nat.le_of_ble_eq_true rfl) (Nat.le_of_ble_eq_true rfl) dX1_init_7 (fun q0 H hP hD hS => ?_)
  have hP : va_P (dC, dI) vwCl [(h0, .inr (5, [.null, .null, .null, .null, .int 0, .null, .int 0, .int 0, .int 0, .int 0])), (q0, .inl (cJ, 12, .inr (.inl (fun _ => 0))))] H := hP
  have hD : va_D A [(h0, .inr (5, [.null, .null, .null, .null, .int 0, .null, .int 0, .int 0, .int 0, .int 0])), (q0, .inl (cJ, 12, .inr (.inl (fun _ => 0))))] := hD
  refine va_putF (D := (dC, dI)) (ci := 5) (v := .ref q0) (ty := .array .long) (C := RX1) (T := TX1) (N := 10) hx hb hts (fun _ h => gI_wsX10 h) tyX1 tyX1_ok nmX1 hown hK.1 hP hD hS 0 rfl rfl 1 (by decide) (hts _ mG_3_18) (fun _ h9 => h9) rfl hin rfl (by decide +kernel) rfl rfl (Nat.le_of_ble_eq_true rfl) dX1_init_9 (fun H locs hP hD hS => ?_)
  have hP : va_P (dC, dI) vwCl [(h0, .inr (5, [.null, .ref q0, .null, .null, .int 0, .null, .int 0, .int 0, .int 0, .int 0])), (q0, .inl (cJ, 12, .inr (.inl (fun _ => 0))))] H := hP
  have hD : va_D A [(h0, .inr (5, [.null, .ref q0, .null, .null, .int 0, .null, .int 0, .int 0, .int 0, .int 0])), (q0, .inl (cJ, 12, .inr (.inl (fun _ => 0))))] := hD
  refine lv_aload_n hx hb dX1_init_12 rfl (lv_at hl 0 rfl) ?_
  refine lv_bipush (v := (12 : Int32)) hx hb dX1_init_13 (by decide) ?_
  refine na_l (N := 12) hx hb (hts _ mG_1_6) hK hP hD hS hA (by decide) (by decide) (by decide) (Nat.le_of_ble_eq_true rfl) (Nat.le_of_ble_eq_true rfl) dX1_init_15 (fun q1 H hP hD hS => ?_)
  have hP : va_P (dC, dI) vwCl [(h0, .inr (5, [.null, .ref q0, .null, .null, .int 0, .null, .int 0, .int 0, .int 0, .int 0])), (q0, .inl (cJ, 12, .inr (.inl (fun _ => 0)))), (q1, .inl (cJ, 12, .inr (.inl (fun _ => 0))))] H := hP
  have hD : va_D A [(h0, .inr (5, [.null, .ref q0, .null, .null, .int 0, .null, .int 0, .int 0, .int 0, .int 0])), (q0, .inl (cJ, 12, .inr (.inl (fun _ => 0)))), (q1, .inl (cJ, 12, .inr (.inl (fun _ => 0))))] := hD
  refine va_putF (D := (dC, dI)) (ci := 5) (v := .ref q1) (ty := .array .long) (C := RX1) (T := TX1) (N := 10) hx hb hts (fun _ h => gI_wsX10 h) tyX1 tyX1_ok nmX1 hown hK.1 hP hD hS 0 rfl rfl 2 (by decide) (hts _ mG_3_19) (fun _ h9 => h9) rfl hin rfl (by decide +kernel) rfl rfl (Nat.le_of_ble_eq_true rfl) dX1_init_17 (fun H locs hP hD hS => ?_)
  have hP : va_P (dC, dI) vwCl [(h0, .inr (5, [.null, .ref q0, .ref q1, .null, .int 0, .null, .int 0, .int 0, .int 0, .int 0])), (q0, .inl (cJ, 12, .inr (.inl (fun _ => 0)))), (q1, .inl (cJ, 12, .inr (.inl (fun _ => 0))))] H := hP
  have hD : va_D A [(h0, .inr (5, [.null, .ref q0, .ref q1, .null, .int 0, .null, .int 0, .int 0, .int 0, .int 0])), (q0, .inl (cJ, 12, .inr (.inl (fun _ => 0)))), (q1, .inl (cJ, 12, .inr (.inl (fun _ => 0))))] := hD
  refine lv_aload_n hx hb dX1_init_20 rfl (lv_at hl 0 rfl) ?_
  refine lv_bipush (v := (12 : Int32)) hx hb dX1_init_21 (by decide) ?_
  refine na_l (N := 12) hx hb (hts _ mG_1_6) hK hP hD hS hA (by decide) (by decide) (by decide) (Nat.le_of_ble_eq_true rfl) (Nat.le_of_ble_eq_true rfl) dX1_init_23 (fun q2 H hP hD hS => ?_)
  have hP : va_P (dC, dI) vwCl [(h0, .inr (5, [.null, .ref q0, .ref q1, .null, .int 0, .null, .int 0, .int 0, .int 0, .int 0])), (q0, .inl (cJ, 12, .inr (.inl (fun _ => 0)))), (q1, .inl (cJ, 12, .inr (.inl (fun _ => 0)))), (q2, .inl (cJ, 12, .inr (.inl (fun _ => 0))))] H := hP
  have hD : va_D A [(h0, .inr (5, [.null, .ref q0, .ref q1, .null, .int 0, .null, .int 0, .int 0, .int 0, .int 0])), (q0, .inl (cJ, 12, .inr (.inl (fun _ => 0)))), (q1, .inl (cJ, 12, .inr (.inl (fun _ => 0)))), (q2, .inl (cJ, 12, .inr (.inl (fun _ => 0))))] := hD
  refine va_putF (D := (dC, dI)) (ci := 5) (v := .ref q2) (ty := .array .long) (C := RX1) (T := TX1) (N := 10) hx hb hts (fun _ h => gI_wsX10 h) tyX1 tyX1_ok nmX1 hown hK.1 hP hD hS 0 rfl rfl 3 (by decide) (hts _ mG_3_20) (fun _ h9 => h9) rfl hin rfl (by decide +kernel) rfl rfl (Nat.le_of_ble_eq_true rfl) dX1_init_25 (fun H locs hP hD hS => ?_)
  have hP : va_P (dC, dI) vwCl [(h0, .inr (5, [.null, .ref q0, .ref q1, .ref q2, .int 0, .null, .int 0, .int 0, .int 0, .int 0])), (q0, .inl (cJ, 12, .inr (.inl (fun _ => 0)))), (q1, .inl (cJ, 12, .inr (.inl (fun _ => 0)))), (q2, .inl (cJ, 12, .inr (.inl (fun _ => 0))))] H := hP
  have hD : va_D A [(h0, .inr (5, [.null, .ref q0, .ref q1, .ref q2, .int 0, .null, .int 0, .int 0, .int 0, .int 0])), (q0, .inl (cJ, 12, .inr (.inl (fun _ => 0)))), (q1, .inl (cJ, 12, .inr (.inl (fun _ => 0)))), (q2, .inl (cJ, 12, .inr (.inl (fun _ => 0))))] := hD
  refine lv_aload_n hx hb dX1_init_28 rfl (lv_at hl 0 rfl) ?_
  refine lv_iconst (v := (0 : Int32)) hx hb dX1_init_29 (by decide) ?_
  refine va_put (D := (dC, dI)) (ci := 5) (v := .int (0 : Int32)) (ty := .int) (C := RX1) (T := TX1) (N := 10) hx hb hts (fun _ h => gI_wsX10 h) tyX1 tyX1_ok nmX1 hown hK.1 hP hD hS 0 rfl rfl 4 (by decide) (hts _ mG_3_21) (fun _ h9 => h9) rfl (by decide +kernel) rfl rfl (Nat.le_of_ble_eq_true rfl) dX1_init_30 (fun H locs hP hD hS => ?_)
  have hP : va_P (dC, dI) vwCl [(h0, .inr (5, [.null, .ref q0, .ref q1, .ref q2, .int (0 : Int32), .null, .int 0, .int 0, .int 0, .int 0])), (q0, .inl (cJ, 12, .inr (.inl (fun _ => 0)))), (q1, .inl (cJ, 12, .inr (.inl (fun _ => 0)))), (q2, .inl (cJ, 12, .inr (.inl (fun _ => 0))))] H := hP
  have hD : va_D A [(h0, .inr (5, [.null, .ref q0, .ref q1, .ref q2, .int (0 : Int32), .null, .int 0, .int 0, .int 0, .int 0])), (q0, .inl (cJ, 12, .inr (.inl (fun _ => 0)))), (q1, .inl (cJ, 12, .inr (.inl (fun _ => 0)))), (q2, .inl (cJ, 12, .inr (.inl (fun _ => 0))))] := hD
  refine lv_aload_n hx hb dX1_init_33 rfl (lv_at hl 0 rfl) ?_
  refine lv_bipush (v := (12 : Int32)) hx hb dX1_init_34 (by decide) ?_
  refine na_i (N := 12) hx hb (hts _ mG_2_13) hK hP hD hS hA (by decide) (by decide) (by decide) (Nat.le_of_ble_eq_true rfl) (Nat.le_of_ble_eq_true rfl) dX1_init_36 (fun q3 H hP hD hS => ?_)
  have hP : va_P (dC, dI) vwCl [(h0, .inr (5, [.null, .ref q0, .ref q1, .ref q2, .int (0 : Int32), .null, .int 0, .int 0, .int 0, .int 0])), (q0, .inl (cJ, 12, .inr (.inl (fun _ => 0)))), (q1, .inl (cJ, 12, .inr (.inl (fun _ => 0)))), (q2, .inl (cJ, 12, .inr (.inl (fun _ => 0)))), (q3, .inl (cI, 12, .inl (fun _ => 0)))] H := hP
  have hD : va_D A [(h0, .inr (5, [.null, .ref q0, .ref q1, .ref q2, .int (0 : Int32), .null, .int 0, .int 0, .int 0, .int 0])), (q0, .inl (cJ, 12, .inr (.inl (fun _ => 0)))), (q1, .inl (cJ, 12, .inr (.inl (fun _ => 0)))), (q2, .inl (cJ, 12, .inr (.inl (fun _ => 0)))), (q3, .inl (cI, 12, .inl (fun _ => 0)))] := hD
  refine va_putF (D := (dC, dI)) (ci := 5) (v := .ref q3) (ty := .array .int) (C := RX1) (T := TX1) (N := 10) hx hb hts (fun _ h => gI_wsX10 h) tyX1 tyX1_ok nmX1 hown hK.1 hP hD hS 0 rfl rfl 5 (by decide) (hts _ mG_3_22) (fun _ h9 => h9) rfl hin rfl (by decide +kernel) rfl rfl (Nat.le_of_ble_eq_true rfl) dX1_init_38 (fun H locs hP hD hS => ?_)
  have hP : va_P (dC, dI) vwCl [(h0, .inr (5, [.null, .ref q0, .ref q1, .ref q2, .int (0 : Int32), .ref q3, .int 0, .int 0, .int 0, .int 0])), (q0, .inl (cJ, 12, .inr (.inl (fun _ => 0)))), (q1, .inl (cJ, 12, .inr (.inl (fun _ => 0)))), (q2, .inl (cJ, 12, .inr (.inl (fun _ => 0)))), (q3, .inl (cI, 12, .inl (fun _ => 0)))] H := hP
  have hD : va_D A [(h0, .inr (5, [.null, .ref q0, .ref q1, .ref q2, .int (0 : Int32), .ref q3, .int 0, .int 0, .int 0, .int 0])), (q0, .inl (cJ, 12, .inr (.inl (fun _ => 0)))), (q1, .inl (cJ, 12, .inr (.inl (fun _ => 0)))), (q2, .inl (cJ, 12, .inr (.inl (fun _ => 0)))), (q3, .inl (cI, 12, .inl (fun _ => 0)))] := hD
  refine lv_aload_n hx hb dX1_init_41 rfl (lv_at hl 0 rfl) ?_
  refine lv_iconst (v := (0 : Int32)) hx hb dX1_init_42 (by decide) ?_
  refine va_put (D := (dC, dI)) (ci := 5) (v := .int (0 : Int32)) (ty := .int) (C := RX1) (T := TX1) (N := 10) hx hb hts (fun _ h => gI_wsX10 h) tyX1 tyX1_ok nmX1 hown hK.1 hP hD hS 0 rfl rfl 6 (by decide) (hts _ mG_3_23) (fun _ h9 => h9) rfl (by decide +kernel) rfl rfl (Nat.le_of_ble_eq_true rfl) dX1_init_43 (fun H locs hP hD hS => ?_)
  have hP : va_P (dC, dI) vwCl [(h0, .inr (5, [.null, .ref q0, .ref q1, .ref q2, .int (0 : Int32), .ref q3, .int (0 : Int32), .int 0, .int 0, .int 0])), (q0, .inl (cJ, 12, .inr (.inl (fun _ => 0)))), (q1, .inl (cJ, 12, .inr (.inl (fun _ => 0)))), (q2, .inl (cJ, 12, .inr (.inl (fun _ => 0)))), (q3, .inl (cI, 12, .inl (fun _ => 0)))] H := hP
  have hD : va_D A [(h0, .inr (5, [.null, .ref q0, .ref q1, .ref q2, .int (0 : Int32), .ref q3, .int (0 : Int32), .int 0, .int 0, .int 0])), (q0, .inl (cJ, 12, .inr (.inl (fun _ => 0)))), (q1, .inl (cJ, 12, .inr (.inl (fun _ => 0)))), (q2, .inl (cJ, 12, .inr (.inl (fun _ => 0)))), (q3, .inl (cI, 12, .inl (fun _ => 0)))] := hD
  refine lv_aload_n hx hb dX1_init_46 rfl (lv_at hl 0 rfl) ?_
  refine lv_iconst (v := (0 : Int32)) hx hb dX1_init_47 (by decide) ?_
  refine va_put (D := (dC, dI)) (ci := 5) (v := .int (0 : Int32)) (ty := .int) (C := RX1) (T := TX1) (N := 10) hx hb hts (fun _ h => gI_wsX10 h) tyX1 tyX1_ok nmX1 hown hK.1 hP hD hS 0 rfl rfl 7 (by decide) (hts _ mG_4_0) (fun _ h9 => h9) rfl (by decide +kernel) rfl rfl (Nat.le_of_ble_eq_true rfl) dX1_init_48 (fun H locs hP hD hS => ?_)
  have hP : va_P (dC, dI) vwCl [(h0, .inr (5, [.null, .ref q0, .ref q1, .ref q2, .int (0 : Int32), .ref q3, .int (0 : Int32), .int (0 : Int32), .int 0, .int 0])), (q0, .inl (cJ, 12, .inr (.inl (fun _ => 0)))), (q1, .inl (cJ, 12, .inr (.inl (fun _ => 0)))), (q2, .inl (cJ, 12, .inr (.inl (fun _ => 0)))), (q3, .inl (cI, 12, .inl (fun _ => 0)))] H := hP
  have hD : va_D A [(h0, .inr (5, [.null, .ref q0, .ref q1, .ref q2, .int (0 : Int32), .ref q3, .int (0 : Int32), .int (0 : Int32), .int 0, .int 0])), (q0, .inl (cJ, 12, .inr (.inl (fun _ => 0)))), (q1, .inl (cJ, 12, .inr (.inl (fun _ => 0)))), (q2, .inl (cJ, 12, .inr (.inl (fun _ => 0)))), (q3, .inl (cI, 12, .inl (fun _ => 0)))] := hD
  refine lv_aload_n hx hb dX1_init_51 rfl (lv_at hl 0 rfl) ?_
  refine lv_iconst (v := (0 : Int32)) hx hb dX1_init_52 (by decide) ?_
  refine va_put (D := (dC, dI)) (ci := 5) (v := .int (0 : Int32)) (ty := .int) (C := RX1) (T := TX1) (N := 10) hx hb hts (fun _ h => gI_wsX10 h) tyX1 tyX1_ok nmX1 hown hK.1 hP hD hS 0 rfl rfl 8 (by decide) (hts _ mG_4_1) (fun _ h9 => h9) rfl (by decide +kernel) rfl rfl (Nat.le_of_ble_eq_true rfl) dX1_init_53 (fun H locs hP hD hS => ?_)
  have hP : va_P (dC, dI) vwCl [(h0, .inr (5, [.null, .ref q0, .ref q1, .ref q2, .int (0 : Int32), .ref q3, .int (0 : Int32), .int (0 : Int32), .int (0 : Int32), .int 0])), (q0, .inl (cJ, 12, .inr (.inl (fun _ => 0)))), (q1, .inl (cJ, 12, .inr (.inl (fun _ => 0)))), (q2, .inl (cJ, 12, .inr (.inl (fun _ => 0)))), (q3, .inl (cI, 12, .inl (fun _ => 0)))] H := hP
  have hD : va_D A [(h0, .inr (5, [.null, .ref q0, .ref q1, .ref q2, .int (0 : Int32), .ref q3, .int (0 : Int32), .int (0 : Int32), .int (0 : Int32), .int 0])), (q0, .inl (cJ, 12, .inr (.inl (fun _ => 0)))), (q1, .inl (cJ, 12, .inr (.inl (fun _ => 0)))), (q2, .inl (cJ, 12, .inr (.inl (fun _ => 0)))), (q3, .inl (cI, 12, .inl (fun _ => 0)))] := hD
  refine lv_aload_n hx hb dX1_init_56 rfl (lv_at hl 0 rfl) ?_
  refine lv_iconst (v := (0 : Int32)) hx hb dX1_init_57 (by decide) ?_
  refine va_put (D := (dC, dI)) (ci := 5) (v := .int (0 : Int32)) (ty := .int) (C := RX1) (T := TX1) (N := 10) hx hb hts (fun _ h => gI_wsX10 h) tyX1 tyX1_ok nmX1 hown hK.1 hP hD hS 0 rfl rfl 9 (by decide) (hts _ mG_4_2) (fun _ h9 => h9) rfl (by decide +kernel) rfl rfl (Nat.le_of_ble_eq_true rfl) dX1_init_58 (fun H locs hP hD hS => ?_)
  have hP : va_P (dC, dI) vwCl [(h0, .inr (5, [.null, .ref q0, .ref q1, .ref q2, .int (0 : Int32), .ref q3, .int (0 : Int32), .int (0 : Int32), .int (0 : Int32), .int (0 : Int32)])), (q0, .inl (cJ, 12, .inr (.inl (fun _ => 0)))), (q1, .inl (cJ, 12, .inr (.inl (fun _ => 0)))), (q2, .inl (cJ, 12, .inr (.inl (fun _ => 0)))), (q3, .inl (cI, 12, .inl (fun _ => 0)))] H := hP
  have hD : va_D A [(h0, .inr (5, [.null, .ref q0, .ref q1, .ref q2, .int (0 : Int32), .ref q3, .int (0 : Int32), .int (0 : Int32), .int (0 : Int32), .int (0 : Int32)])), (q0, .inl (cJ, 12, .inr (.inl (fun _ => 0)))), (q1, .inl (cJ, 12, .inr (.inl (fun _ => 0)))), (q2, .inl (cJ, 12, .inr (.inl (fun _ => 0)))), (q3, .inl (cI, 12, .inl (fun _ => 0)))] := hD
  refine lv_aload_n hx hb dX1_init_61 rfl (lv_at hl 0 rfl) ?_
  refine lv_aload_n hx hb dX1_init_62 rfl (lv_at hl 1 rfl) ?_
  refine va_putF (D := (dC, dI)) (ci := 5) (v := .ref hp) (ty := .object "OrderJudge$Points") (C := RX1) (T := TX1) (N := 10) hx hb hts (fun _ h => gI_wsX10 h) tyX1 tyX1_ok nmX1 hown hK.1 hP hD hS 0 rfl rfl 0 (by decide) (hts _ mG_4_3) (fun _ h9 => h9) rfl hin rfl (by decide +kernel) rfl rfl (Nat.le_of_ble_eq_true rfl) dX1_init_63 (fun H locs hP hD hS => ?_)
  have hP : va_P (dC, dI) vwCl [(h0, .inr (5, [.ref hp, .ref q0, .ref q1, .ref q2, .int (0 : Int32), .ref q3, .int (0 : Int32), .int (0 : Int32), .int (0 : Int32), .int (0 : Int32)])), (q0, .inl (cJ, 12, .inr (.inl (fun _ => 0)))), (q1, .inl (cJ, 12, .inr (.inl (fun _ => 0)))), (q2, .inl (cJ, 12, .inr (.inl (fun _ => 0)))), (q3, .inl (cI, 12, .inl (fun _ => 0)))] H := hP
  have hD : va_D A [(h0, .inr (5, [.ref hp, .ref q0, .ref q1, .ref q2, .int (0 : Int32), .ref q3, .int (0 : Int32), .int (0 : Int32), .int (0 : Int32), .int (0 : Int32)])), (q0, .inl (cJ, 12, .inr (.inl (fun _ => 0)))), (q1, .inl (cJ, 12, .inr (.inl (fun _ => 0)))), (q2, .inl (cJ, 12, .inr (.inl (fun _ => 0)))), (q3, .inl (cI, 12, .inl (fun _ => 0)))] := hD
  rw [hQ]
  exact W.vret hx hb hr (fun t ht hW => ⟨⟨(q0, q1, q2, q3), rfl, trivial, by subst ht; exact hP, hD⟩, hS.F ht⟩) hS.2.2 dX1_init_66 hlk
theorem hs_X5_init : yX5_init.cls ≠ "java/lang/invoke/MethodHandle" ∧ yX5_init.cls ≠ "java/lang/invoke/VarHandle" ∧ (parseMethodDescriptor yX5_init.desc).map (fun d => d.parameters.length) = some 0 := by decide +kernel
theorem hd_X5_init : yX5_init.cls = RX5 ∧ yX5_init.cls ≠ "java/lang/invoke/MethodHandle" ∧ yX5_init.cls ≠ "java/lang/invoke/VarHandle" ∧ (parseMethodDescriptor yX5_init.desc).map (fun d => d.parameters.length) = some 0 := ⟨rfl, hs_X5_init⟩

abbrev rm_X5_init : Room := { frames := 2, cells := 12, slots := 214, locals := 33 }
set_option maxHeartbeats 8000000 in
set_option maxRecDepth 100000 in
theorem c_X5_init (l : Launch) (dC : Nat → ClassId) (dI : Nat → Nat → Nat) (cI cJ : ClassId) (h0 sz : Nat) : Met l yX5_init (Cond.code yX5_init cX5_init 1 none :: lw_G) rm_X5_init (nPcw (dC, dI) (tIJ cI cJ) sz [(h0, .inr (9, [.null, .null, .null, .null, .null]))] [.ref h0]) (va_Qv (fun _ : Nat × Nat × Nat × Nat × Nat × Nat × Nat × Nat × Nat × Nat × Nat × Nat => True) (fun u t => va_P (dC, dI) vwCl [(h0, .inr (9, [.ref u.1, .ref u.2.2.2.1, .ref u.2.2.2.2.1, .ref u.2.2.2.2.2.1, .ref u.2.2.2.2.2.2.2.1])), (u.1, .inr (6, [.ref u.2.1, .ref u.2.2.1, .int (0 : Int32)])), (u.2.1, .inl (cI, 60, .inl (fun _ => 0))), (u.2.2.1, .inl (cI, 60, .inl (fun _ => 0))), (u.2.2.2.1, .inr (7, [.ref u.1, .int (1 : Int32), .int (0 : Int32), .int (0 : Int32), .int (0 : Int32)])), (u.2.2.2.2.1, .inr (4, [.ref u.1])), (u.2.2.2.2.2.1, .inr (8, [.ref u.1, .ref u.2.2.2.2.2.2.1, .int (0 : Int32)])), (u.2.2.2.2.2.2.1, .inl (cI, 24, .inl (fun _ => 0))), (u.2.2.2.2.2.2.2.1, .inr (5, [.ref u.1, .ref u.2.2.2.2.2.2.2.2.1, .ref u.2.2.2.2.2.2.2.2.2.1, .ref u.2.2.2.2.2.2.2.2.2.2.1, .int (0 : Int32), .ref u.2.2.2.2.2.2.2.2.2.2.2, .int (0 : Int32), .int (0 : Int32), .int (0 : Int32), .int (0 : Int32)])), (u.2.2.2.2.2.2.2.2.1, .inl (cJ, 12, .inr (.inl (fun _ => 0)))), (u.2.2.2.2.2.2.2.2.2.1, .inl (cJ, 12, .inr (.inl (fun _ => 0)))), (u.2.2.2.2.2.2.2.2.2.2.1, .inl (cJ, 12, .inr (.inl (fun _ => 0)))), (u.2.2.2.2.2.2.2.2.2.2.2, .inl (cI, 12, .inl (fun _ => 0)))] t.heap ∧ va_D (va_A [(h0, .inr (9, [.null, .null, .null, .null, .null]))] sz) [(h0, .inr (9, [.ref u.1, .ref u.2.2.2.1, .ref u.2.2.2.2.1, .ref u.2.2.2.2.2.1, .ref u.2.2.2.2.2.2.2.1])), (u.1, .inr (6, [.ref u.2.1, .ref u.2.2.1, .int (0 : Int32)])), (u.2.1, .inl (cI, 60, .inl (fun _ => 0))), (u.2.2.1, .inl (cI, 60, .inl (fun _ => 0))), (u.2.2.2.1, .inr (7, [.ref u.1, .int (1 : Int32), .int (0 : Int32), .int (0 : Int32), .int (0 : Int32)])), (u.2.2.2.2.1, .inr (4, [.ref u.1])), (u.2.2.2.2.2.1, .inr (8, [.ref u.1, .ref u.2.2.2.2.2.2.1, .int (0 : Int32)])), (u.2.2.2.2.2.2.1, .inl (cI, 24, .inl (fun _ => 0))), (u.2.2.2.2.2.2.2.1, .inr (5, [.ref u.1, .ref u.2.2.2.2.2.2.2.2.1, .ref u.2.2.2.2.2.2.2.2.2.1, .ref u.2.2.2.2.2.2.2.2.2.2.1, .int (0 : Int32), .ref u.2.2.2.2.2.2.2.2.2.2.2, .int (0 : Int32), .int (0 : Int32), .int (0 : Int32), .int (0 : Int32)])), (u.2.2.2.2.2.2.2.2.1, .inl (cJ, 12, .inr (.inl (fun _ => 0)))), (u.2.2.2.2.2.2.2.2.2.1, .inl (cJ, 12, .inr (.inl (fun _ => 0)))), (u.2.2.2.2.2.2.2.2.2.2.1, .inl (cJ, 12, .inr (.inl (fun _ => 0)))), (u.2.2.2.2.2.2.2.2.2.2.2, .inl (cI, 12, .inl (fun _ => 0)))]) (va_A [(h0, .inr (9, [.null, .null, .null, .null, .null]))] sz)) 12 214 (va_A [(h0, .inr (9, [.null, .null, .null, .null, .null]))] sz) := by
  refine im_of (by decide) rfl (Nat.le_of_ble_eq_true rfl) ?_
  intro p e s m args below meth c Q ls A hAe hsz hQ hx hb hr hlk hml hin hown hts hP hK hD hS hA hl
  subst hsz
  rw [← hAe] at hQ
  have hown : s.vm.findClass RX5 = some m.cls := hown
  have hl : lv_has ls 1 [(0, .ref h0)] := hl
  refine lv_aload_n hx hb dX5_init_0 rfl (lv_at hl 0 rfl) ?_
  refine W.objInit hx hb hown (hts _ mG_1_11) (hts _ mG_1_12) (hts _ mG_1_13) rfl (by rw [hml]; exact hl.1) rfl dX5_init_1 (Nat.le_of_ble_eq_true rfl) (Nat.le_of_ble_eq_true rfl) ?_
  refine W.eq (g2 := F0 m 4 ls []) rfl ?_
  refine lv_aload_n hx hb dX5_init_4 rfl (lv_at hl 0 rfl) ?_
  refine va_new (ci := 6) (fs := [.null, .null, .int 0]) (C := RX2) (T := TX2) (N := 3) hx hb hts (fun _ h => gI_wsX20 h) tyX2 tyX2_ok hown (hts _ mG_1_14) (hts _ mG_1_15) (hts _ mG_1_16) hK.1 hP hD hS hA rfl (fun j hj => by rcases (show j = 0 ∨ j = 1 ∨ j = 2 by omega) with rfl | rfl | rfl <;> rfl) (Nat.le_of_ble_eq_true rfl) (Nat.le_of_ble_eq_true rfl) dX5_init_5 (fun q0 H hP hD hS => ?_)
  have hP : va_P (dC, dI) vwCl [(h0, .inr (9, [.null, .null, .null, .null, .null])), (q0, .inr (6, [.null, .null, .int 0]))] H := hP
  have hD : va_D A [(h0, .inr (9, [.null, .null, .null, .null, .null])), (q0, .inr (6, [.null, .null, .int 0]))] := hD
  refine lv_dup hx hb dX5_init_8 rfl ?_
  have hPc := hP.sub (ws' := [(q0, .inr (6, [.null, .null, .int 0]))]) [1] rfl
  have hDc := hD.sub (ws' := [(q0, .inr (6, [.null, .null, .int 0]))]) [1] (by decide) rfl
  have hFc := va_free (wc := [(q0, .inr (6, [.null, .null, .int 0]))]) hD hS hA [1] rfl
  refine va_callv (va_runIN (As := []) (rest := [.ref q0, .ref h0]) ⟨hx, hb, hml, hown, hts⟩ (c_X2_init l dC dI cI cJ q0 H.size) ⟨va_cnB 0 hts (gG_c mG_2_11 gG_G) rfl rfl rfl hK.2.2 (hts _ mG_1_16) hs_X2_init ⟨Nat.le_of_ble_eq_true rfl, Nat.le_of_ble_eq_true rfl⟩, rfl, hts _ mG_2_10⟩ ⟨fun a U g mk q => ⟨q.1, q.2.1, q.2.2.1, q.2.2.2.1.call, q.2.2.2.2⟩, fun U hU hW => ⟨rfl, by rw [hU], by rw [hU]; exact hPc, hK.warm hW, hDc.weaken (fun _ _ _ _ => trivial)⟩⟩ rfl rfl hl.1 rfl (lv_room (Nat.le_of_ble_eq_true rfl)) dX5_init_9 ⟨Nat.le_of_ble_eq_true rfl, Nat.le_of_ble_eq_true rfl⟩) hS (fun q _ h => hFc q h) hFc (fun u t H1 locs ht hvm hw hB hz1 hk1 hS => ?_)
  obtain ⟨q1, q2⟩ := u
  obtain ⟨hP1, hD1⟩ := hB
  rw [ht] at hP1
  try dsimp only at hP1 hD1
  obtain ⟨hP, hD⟩ := va_join (wr := [(h0, .inr (9, [.null, .null, .null, .null, .null]))]) (w1 := [(q0, .inr (6, [.ref q1, .ref q2, .int (0 : Int32)])), (q1, .inl (cI, 60, .inl (fun _ => 0))), (q2, .inl (cI, 60, .inl (fun _ => 0)))]) hP hD [1] [0] rfl rfl (by decide) (by decide) hk1 hFc hP1 hD1
  generalize H1 = H at hP hS ⊢
  have hP : va_P (dC, dI) vwCl [(h0, .inr (9, [.null, .null, .null, .null, .null])), (q0, .inr (6, [.ref q1, .ref q2, .int (0 : Int32)])), (q1, .inl (cI, 60, .inl (fun _ => 0))), (q2, .inl (cI, 60, .inl (fun _ => 0)))] H := hP
  have hD : va_D A [(h0, .inr (9, [.null, .null, .null, .null, .null])), (q0, .inr (6, [.ref q1, .ref q2, .int (0 : Int32)])), (q1, .inl (cI, 60, .inl (fun _ => 0))), (q2, .inl (cI, 60, .inl (fun _ => 0)))] := hD
  refine va_putF (D := (dC, dI)) (ci := 9) (v := .ref q0) (ty := .object "OrderJudge$Points") (C := RX5) (T := TX5) (N := 5) hx hb hts (fun _ h => gI_wsX50 h) tyX5 tyX5_ok nmX5 hown hK.1 hP hD hS 0 rfl rfl 0 (by decide) (hts _ mG_1_17) (fun _ h9 => h9) rfl hin rfl (by decide +kernel) rfl rfl (Nat.le_of_ble_eq_true rfl) dX5_init_12 (fun H locs hP hD hS => ?_)
  have hP : va_P (dC, dI) vwCl [(h0, .inr (9, [.ref q0, .null, .null, .null, .null])), (q0, .inr (6, [.ref q1, .ref q2, .int (0 : Int32)])), (q1, .inl (cI, 60, .inl (fun _ => 0))), (q2, .inl (cI, 60, .inl (fun _ => 0)))] H := hP
  have hD : va_D A [(h0, .inr (9, [.ref q0, .null, .null, .null, .null])), (q0, .inr (6, [.ref q1, .ref q2, .int (0 : Int32)])), (q1, .inl (cI, 60, .inl (fun _ => 0))), (q2, .inl (cI, 60, .inl (fun _ => 0)))] := hD
  refine lv_aload_n hx hb dX5_init_15 rfl (lv_at hl 0 rfl) ?_
  refine va_new (ci := 7) (fs := [.null, .int 0, .int 0, .int 0, .int 0]) (C := RX3) (T := TX3) (N := 5) hx hb hts (fun _ h => gI_wsX30 h) tyX3 tyX3_ok hown (hts _ mG_1_18) (hts _ mG_1_19) (hts _ mG_1_20) hK.1 hP hD hS hA rfl (fun j hj => by rcases (show j = 0 ∨ j = 1 ∨ j = 2 ∨ j = 3 ∨ j = 4 by omega) with rfl | rfl | rfl | rfl | rfl <;> rfl) (Nat.le_of_ble_eq_true rfl) (Nat.le_of_ble_eq_true rfl) dX5_init_16 (fun q3 H hP hD hS => ?_)
  have hP : va_P (dC, dI) vwCl [(h0, .inr (9, [.ref q0, .null, .null, .null, .null])), (q0, .inr (6, [.ref q1, .ref q2, .int (0 : Int32)])), (q1, .inl (cI, 60, .inl (fun _ => 0))), (q2, .inl (cI, 60, .inl (fun _ => 0))), (q3, .inr (7, [.null, .int 0, .int 0, .int 0, .int 0]))] H := hP
  have hD : va_D A [(h0, .inr (9, [.ref q0, .null, .null, .null, .null])), (q0, .inr (6, [.ref q1, .ref q2, .int (0 : Int32)])), (q1, .inl (cI, 60, .inl (fun _ => 0))), (q2, .inl (cI, 60, .inl (fun _ => 0))), (q3, .inr (7, [.null, .int 0, .int 0, .int 0, .int 0]))] := hD
  refine lv_dup hx hb dX5_init_19 rfl ?_
  refine lv_aload_n hx hb dX5_init_20 rfl (lv_at hl 0 rfl) ?_
  refine va_get (D := (dC, dI)) (ci := 9) (v := .ref q0) (C := RX5) (T := TX5) (N := 5) hx hb hts (fun _ h => gI_wsX50 h) hown hK.1 hP 0 rfl rfl 0 (by decide) (hts _ mG_1_17) (fun _ h9 => h9) rfl dX5_init_21 ?_
  have hPc := hP.sub (ws' := [(q3, .inr (7, [.null, .int 0, .int 0, .int 0, .int 0]))]) [4] rfl
  have hDc := hD.sub (ws' := [(q3, .inr (7, [.null, .int 0, .int 0, .int 0, .int 0]))]) [4] (by decide) rfl
  have hFc := va_free (wc := [(q3, .inr (7, [.null, .int 0, .int 0, .int 0, .int 0]))]) hD hS hA [4] rfl
  refine va_callv (va_runI (As := [.ref q0]) (rest := [.ref q3, .ref h0]) ⟨hx, hb, hml, hown, hts⟩ (c_X3_init l dC dI cI cJ q3 H.size q0) (cwI 1 hts (gG_c mG_2_19 gG_G) rfl rfl rfl (hts _ mG_1_20) (hts _ mG_2_17) (hts _ mG_2_18) rfl hs_X3_init ⟨Nat.le_of_ble_eq_true rfl, Nat.le_of_ble_eq_true rfl⟩) ⟨fun a U g mk q => ⟨q.1, q.2.1, q.2.2.1, q.2.2.2.1.call, q.2.2.2.2⟩, fun U hU hW => ⟨rfl, by rw [hU], by rw [hU]; exact hPc, hK.warm hW, hDc.weaken (fun _ _ _ _ => trivial)⟩⟩ rfl rfl hl.1 rfl (lv_room (Nat.le_of_ble_eq_true rfl)) dX5_init_24 ⟨Nat.le_of_ble_eq_true rfl, Nat.le_of_ble_eq_true rfl⟩) hS (fun q _ h => hFc q h) hFc (fun u t H1 locs ht hvm hw hB hz1 hk1 hS => ?_)
  obtain ⟨hP1, hD1⟩ := hB
  rw [ht] at hP1
  try dsimp only at hP1 hD1
  obtain ⟨hP, hD⟩ := va_join (wr := [(h0, .inr (9, [.ref q0, .null, .null, .null, .null])), (q0, .inr (6, [.ref q1, .ref q2, .int (0 : Int32)])), (q1, .inl (cI, 60, .inl (fun _ => 0))), (q2, .inl (cI, 60, .inl (fun _ => 0)))]) (w1 := [(q3, .inr (7, [.ref q0, .int (1 : Int32), .int (0 : Int32), .int (0 : Int32), .int (0 : Int32)]))]) hP hD [4] [0, 1, 2, 3] rfl rfl (by decide) (by decide) hk1 hFc hP1 hD1
  generalize H1 = H at hP hS ⊢
  have hP : va_P (dC, dI) vwCl [(h0, .inr (9, [.ref q0, .null, .null, .null, .null])), (q0, .inr (6, [.ref q1, .ref q2, .int (0 : Int32)])), (q1, .inl (cI, 60, .inl (fun _ => 0))), (q2, .inl (cI, 60, .inl (fun _ => 0))), (q3, .inr (7, [.ref q0, .int (1 : Int32), .int (0 : Int32), .int (0 : Int32), .int (0 : Int32)]))] H := hP
  have hD : va_D A [(h0, .inr (9, [.ref q0, .null, .null, .null, .null])), (q0, .inr (6, [.ref q1, .ref q2, .int (0 : Int32)])), (q1, .inl (cI, 60, .inl (fun _ => 0))), (q2, .inl (cI, 60, .inl (fun _ => 0))), (q3, .inr (7, [.ref q0, .int (1 : Int32), .int (0 : Int32), .int (0 : Int32), .int (0 : Int32)]))] := hD
  refine va_putF (D := (dC, dI)) (ci := 9) (v := .ref q3) (ty := .object "OrderJudge$QuickFilter") (C := RX5) (T := TX5) (N := 5) hx hb hts (fun _ h => gI_wsX50 h) tyX5 tyX5_ok nmX5 hown hK.1 hP hD hS 0 rfl rfl 1 (by decide) (hts _ mG_1_21) (fun _ h9 => h9) rfl hin rfl (by decide +kernel) rfl rfl (Nat.le_of_ble_eq_true rfl) dX5_init_27 (fun H locs hP hD hS => ?_)
  have hP : va_P (dC, dI) vwCl [(h0, .inr (9, [.ref q0, .ref q3, .null, .null, .null])), (q0, .inr (6, [.ref q1, .ref q2, .int (0 : Int32)])), (q1, .inl (cI, 60, .inl (fun _ => 0))), (q2, .inl (cI, 60, .inl (fun _ => 0))), (q3, .inr (7, [.ref q0, .int (1 : Int32), .int (0 : Int32), .int (0 : Int32), .int (0 : Int32)]))] H := hP
  have hD : va_D A [(h0, .inr (9, [.ref q0, .ref q3, .null, .null, .null])), (q0, .inr (6, [.ref q1, .ref q2, .int (0 : Int32)])), (q1, .inl (cI, 60, .inl (fun _ => 0))), (q2, .inl (cI, 60, .inl (fun _ => 0))), (q3, .inr (7, [.ref q0, .int (1 : Int32), .int (0 : Int32), .int (0 : Int32), .int (0 : Int32)]))] := hD
  refine lv_aload_n hx hb dX5_init_30 rfl (lv_at hl 0 rfl) ?_
  refine va_new (ci := 4) (fs := [.null]) (C := RX0) (T := TX0) (N := 1) hx hb hts (fun _ h => gI_wsX00 h) tyX0 tyX0_ok hown (hts _ mG_1_22) (hts _ mG_1_23) (hts _ mG_2_0) hK.1 hP hD hS hA rfl (fun j hj => by rcases (show j = 0 by omega) with rfl <;> rfl) (Nat.le_of_ble_eq_true rfl) (Nat.le_of_ble_eq_true rfl) dX5_init_31 (fun q4 H hP hD hS => ?_)
  have hP : va_P (dC, dI) vwCl [(h0, .inr (9, [.ref q0, .ref q3, .null, .null, .null])), (q0, .inr (6, [.ref q1, .ref q2, .int (0 : Int32)])), (q1, .inl (cI, 60, .inl (fun _ => 0))), (q2, .inl (cI, 60, .inl (fun _ => 0))), (q3, .inr (7, [.ref q0, .int (1 : Int32), .int (0 : Int32), .int (0 : Int32), .int (0 : Int32)])), (q4, .inr (4, [.null]))] H := hP
  have hD : va_D A [(h0, .inr (9, [.ref q0, .ref q3, .null, .null, .null])), (q0, .inr (6, [.ref q1, .ref q2, .int (0 : Int32)])), (q1, .inl (cI, 60, .inl (fun _ => 0))), (q2, .inl (cI, 60, .inl (fun _ => 0))), (q3, .inr (7, [.ref q0, .int (1 : Int32), .int (0 : Int32), .int (0 : Int32), .int (0 : Int32)])), (q4, .inr (4, [.null]))] := hD
  refine lv_dup hx hb dX5_init_34 rfl ?_
  refine lv_aload_n hx hb dX5_init_35 rfl (lv_at hl 0 rfl) ?_
  refine va_get (D := (dC, dI)) (ci := 9) (v := .ref q0) (C := RX5) (T := TX5) (N := 5) hx hb hts (fun _ h => gI_wsX50 h) hown hK.1 hP 0 rfl rfl 0 (by decide) (hts _ mG_1_17) (fun _ h9 => h9) rfl dX5_init_36 ?_
  have hPc := hP.sub (ws' := [(q4, .inr (4, [.null]))]) [5] rfl
  have hDc := hD.sub (ws' := [(q4, .inr (4, [.null]))]) [5] (by decide) rfl
  have hFc := va_free (wc := [(q4, .inr (4, [.null]))]) hD hS hA [5] rfl
  refine va_callv (va_runI (As := [.ref q0]) (rest := [.ref q4, .ref h0]) ⟨hx, hb, hml, hown, hts⟩ (c_X0_init l dC dI cI cJ q4 H.size q0) (cwI 1 hts (gG_c mG_3_4 gG_G) rfl rfl rfl (hts _ mG_2_0) (hts _ mG_3_2) (hts _ mG_3_3) rfl hs_X0_init ⟨Nat.le_of_ble_eq_true rfl, Nat.le_of_ble_eq_true rfl⟩) ⟨fun a U g mk q => ⟨q.1, q.2.1, q.2.2.1, q.2.2.2.1.call, q.2.2.2.2⟩, fun U hU hW => ⟨rfl, by rw [hU], by rw [hU]; exact hPc, hK.warm hW, hDc.weaken (fun _ _ _ _ => trivial)⟩⟩ rfl rfl hl.1 rfl (lv_room (Nat.le_of_ble_eq_true rfl)) dX5_init_39 ⟨Nat.le_of_ble_eq_true rfl, Nat.le_of_ble_eq_true rfl⟩) hS (fun q _ h => hFc q h) hFc (fun u t H1 locs ht hvm hw hB hz1 hk1 hS => ?_)
  obtain ⟨hP1, hD1⟩ := hB
  rw [ht] at hP1
  try dsimp only at hP1 hD1
  obtain ⟨hP, hD⟩ := va_join (wr := [(h0, .inr (9, [.ref q0, .ref q3, .null, .null, .null])), (q0, .inr (6, [.ref q1, .ref q2, .int (0 : Int32)])), (q1, .inl (cI, 60, .inl (fun _ => 0))), (q2, .inl (cI, 60, .inl (fun _ => 0))), (q3, .inr (7, [.ref q0, .int (1 : Int32), .int (0 : Int32), .int (0 : Int32), .int (0 : Int32)]))]) (w1 := [(q4, .inr (4, [.ref q0]))]) hP hD [5] [0, 1, 2, 3, 4] rfl rfl (by decide) (by decide) hk1 hFc hP1 hD1
  generalize H1 = H at hP hS ⊢
  have hP : va_P (dC, dI) vwCl [(h0, .inr (9, [.ref q0, .ref q3, .null, .null, .null])), (q0, .inr (6, [.ref q1, .ref q2, .int (0 : Int32)])), (q1, .inl (cI, 60, .inl (fun _ => 0))), (q2, .inl (cI, 60, .inl (fun _ => 0))), (q3, .inr (7, [.ref q0, .int (1 : Int32), .int (0 : Int32), .int (0 : Int32), .int (0 : Int32)])), (q4, .inr (4, [.ref q0]))] H := hP
  have hD : va_D A [(h0, .inr (9, [.ref q0, .ref q3, .null, .null, .null])), (q0, .inr (6, [.ref q1, .ref q2, .int (0 : Int32)])), (q1, .inl (cI, 60, .inl (fun _ => 0))), (q2, .inl (cI, 60, .inl (fun _ => 0))), (q3, .inr (7, [.ref q0, .int (1 : Int32), .int (0 : Int32), .int (0 : Int32), .int (0 : Int32)])), (q4, .inr (4, [.ref q0]))] := hD
  refine va_putF (D := (dC, dI)) (ci := 9) (v := .ref q4) (ty := .object "OrderJudge$Few") (C := RX5) (T := TX5) (N := 5) hx hb hts (fun _ h => gI_wsX50 h) tyX5 tyX5_ok nmX5 hown hK.1 hP hD hS 0 rfl rfl 2 (by decide) (hts _ mG_2_1) (fun _ h9 => h9) rfl hin rfl (by decide +kernel) rfl rfl (Nat.le_of_ble_eq_true rfl) dX5_init_42 (fun H locs hP hD hS => ?_)
  have hP : va_P (dC, dI) vwCl [(h0, .inr (9, [.ref q0, .ref q3, .ref q4, .null, .null])), (q0, .inr (6, [.ref q1, .ref q2, .int (0 : Int32)])), (q1, .inl (cI, 60, .inl (fun _ => 0))), (q2, .inl (cI, 60, .inl (fun _ => 0))), (q3, .inr (7, [.ref q0, .int (1 : Int32), .int (0 : Int32), .int (0 : Int32), .int (0 : Int32)])), (q4, .inr (4, [.ref q0]))] H := hP
  have hD : va_D A [(h0, .inr (9, [.ref q0, .ref q3, .ref q4, .null, .null])), (q0, .inr (6, [.ref q1, .ref q2, .int (0 : Int32)])), (q1, .inl (cI, 60, .inl (fun _ => 0))), (q2, .inl (cI, 60, .inl (fun _ => 0))), (q3, .inr (7, [.ref q0, .int (1 : Int32), .int (0 : Int32), .int (0 : Int32), .int (0 : Int32)])), (q4, .inr (4, [.ref q0]))] := hD
  refine lv_aload_n hx hb dX5_init_45 rfl (lv_at hl 0 rfl) ?_
  refine va_new (ci := 8) (fs := [.null, .null, .int 0]) (C := RX4) (T := TX4) (N := 3) hx hb hts (fun _ h => gI_wsX40 h) tyX4 tyX4_ok hown (hts _ mG_2_2) (hts _ mG_2_3) (hts _ mG_2_4) hK.1 hP hD hS hA rfl (fun j hj => by rcases (show j = 0 ∨ j = 1 ∨ j = 2 by omega) with rfl | rfl | rfl <;> rfl) (Nat.le_of_ble_eq_true rfl) (Nat.le_of_ble_eq_true rfl) dX5_init_46 (fun q5 H hP hD hS => ?_)
  have hP : va_P (dC, dI) vwCl [(h0, .inr (9, [.ref q0, .ref q3, .ref q4, .null, .null])), (q0, .inr (6, [.ref q1, .ref q2, .int (0 : Int32)])), (q1, .inl (cI, 60, .inl (fun _ => 0))), (q2, .inl (cI, 60, .inl (fun _ => 0))), (q3, .inr (7, [.ref q0, .int (1 : Int32), .int (0 : Int32), .int (0 : Int32), .int (0 : Int32)])), (q4, .inr (4, [.ref q0])), (q5, .inr (8, [.null, .null, .int 0]))] H := hP
  have hD : va_D A [(h0, .inr (9, [.ref q0, .ref q3, .ref q4, .null, .null])), (q0, .inr (6, [.ref q1, .ref q2, .int (0 : Int32)])), (q1, .inl (cI, 60, .inl (fun _ => 0))), (q2, .inl (cI, 60, .inl (fun _ => 0))), (q3, .inr (7, [.ref q0, .int (1 : Int32), .int (0 : Int32), .int (0 : Int32), .int (0 : Int32)])), (q4, .inr (4, [.ref q0])), (q5, .inr (8, [.null, .null, .int 0]))] := hD
  refine lv_dup hx hb dX5_init_49 rfl ?_
  refine lv_aload_n hx hb dX5_init_50 rfl (lv_at hl 0 rfl) ?_
  refine va_get (D := (dC, dI)) (ci := 9) (v := .ref q0) (C := RX5) (T := TX5) (N := 5) hx hb hts (fun _ h => gI_wsX50 h) hown hK.1 hP 0 rfl rfl 0 (by decide) (hts _ mG_1_17) (fun _ h9 => h9) rfl dX5_init_51 ?_
  have hPc := hP.sub (ws' := [(q5, .inr (8, [.null, .null, .int 0]))]) [6] rfl
  have hDc := hD.sub (ws' := [(q5, .inr (8, [.null, .null, .int 0]))]) [6] (by decide) rfl
  have hFc := va_free (wc := [(q5, .inr (8, [.null, .null, .int 0]))]) hD hS hA [6] rfl
  refine va_callv (va_runI (As := [.ref q0]) (rest := [.ref q5, .ref h0]) ⟨hx, hb, hml, hown, hts⟩ (c_X4_init l dC dI cI cJ q5 H.size q0) (cwI 1 hts (gG_c mG_3_9 gG_G) rfl rfl rfl (hts _ mG_2_4) (hts _ mG_3_7) (hts _ mG_3_8) rfl hs_X4_init ⟨Nat.le_of_ble_eq_true rfl, Nat.le_of_ble_eq_true rfl⟩) ⟨fun a U g mk q => ⟨q.1, q.2.1, q.2.2.1, q.2.2.2.1.call, q.2.2.2.2⟩, fun U hU hW => ⟨rfl, by rw [hU], by rw [hU]; exact hPc, hK.warm hW, hDc.weaken (fun _ _ _ _ => trivial)⟩⟩ rfl rfl hl.1 rfl (lv_room (Nat.le_of_ble_eq_true rfl)) dX5_init_54 ⟨Nat.le_of_ble_eq_true rfl, Nat.le_of_ble_eq_true rfl⟩) hS (fun q _ h => hFc q h) hFc (fun u t H1 locs ht hvm hw hB hz1 hk1 hS => ?_)
  obtain ⟨q6, rfl⟩ : ∃ z, z = u := ⟨_, rfl⟩
  obtain ⟨hP1, hD1⟩ := hB
  rw [ht] at hP1
  try dsimp only at hP1 hD1
  obtain ⟨hP, hD⟩ := va_join (wr := [(h0, .inr (9, [.ref q0, .ref q3, .ref q4, .null, .null])), (q0, .inr (6, [.ref q1, .ref q2, .int (0 : Int32)])), (q1, .inl (cI, 60, .inl (fun _ => 0))), (q2, .inl (cI, 60, .inl (fun _ => 0))), (q3, .inr (7, [.ref q0, .int (1 : Int32), .int (0 : Int32), .int (0 : Int32), .int (0 : Int32)])), (q4, .inr (4, [.ref q0]))]) (w1 := [(q5, .inr (8, [.ref q0, .ref q6, .int (0 : Int32)])), (q6, .inl (cI, 24, .inl (fun _ => 0)))]) hP hD [6] [0, 1, 2, 3, 4, 5] rfl rfl (by decide) (by decide) hk1 hFc hP1 hD1
  generalize H1 = H at hP hS ⊢
  have hP : va_P (dC, dI) vwCl [(h0, .inr (9, [.ref q0, .ref q3, .ref q4, .null, .null])), (q0, .inr (6, [.ref q1, .ref q2, .int (0 : Int32)])), (q1, .inl (cI, 60, .inl (fun _ => 0))), (q2, .inl (cI, 60, .inl (fun _ => 0))), (q3, .inr (7, [.ref q0, .int (1 : Int32), .int (0 : Int32), .int (0 : Int32), .int (0 : Int32)])), (q4, .inr (4, [.ref q0])), (q5, .inr (8, [.ref q0, .ref q6, .int (0 : Int32)])), (q6, .inl (cI, 24, .inl (fun _ => 0)))] H := hP
  have hD : va_D A [(h0, .inr (9, [.ref q0, .ref q3, .ref q4, .null, .null])), (q0, .inr (6, [.ref q1, .ref q2, .int (0 : Int32)])), (q1, .inl (cI, 60, .inl (fun _ => 0))), (q2, .inl (cI, 60, .inl (fun _ => 0))), (q3, .inr (7, [.ref q0, .int (1 : Int32), .int (0 : Int32), .int (0 : Int32), .int (0 : Int32)])), (q4, .inr (4, [.ref q0])), (q5, .inr (8, [.ref q0, .ref q6, .int (0 : Int32)])), (q6, .inl (cI, 24, .inl (fun _ => 0)))] := hD
  refine va_putF (D := (dC, dI)) (ci := 9) (v := .ref q5) (ty := .object "OrderJudge$Row") (C := RX5) (T := TX5) (N := 5) hx hb hts (fun _ h => gI_wsX50 h) tyX5 tyX5_ok nmX5 hown hK.1 hP hD hS 0 rfl rfl 3 (by decide) (hts _ mG_2_5) (fun _ h9 => h9) rfl hin rfl (by decide +kernel) rfl rfl (Nat.le_of_ble_eq_true rfl) dX5_init_57 (fun H locs hP hD hS => ?_)
  have hP : va_P (dC, dI) vwCl [(h0, .inr (9, [.ref q0, .ref q3, .ref q4, .ref q5, .null])), (q0, .inr (6, [.ref q1, .ref q2, .int (0 : Int32)])), (q1, .inl (cI, 60, .inl (fun _ => 0))), (q2, .inl (cI, 60, .inl (fun _ => 0))), (q3, .inr (7, [.ref q0, .int (1 : Int32), .int (0 : Int32), .int (0 : Int32), .int (0 : Int32)])), (q4, .inr (4, [.ref q0])), (q5, .inr (8, [.ref q0, .ref q6, .int (0 : Int32)])), (q6, .inl (cI, 24, .inl (fun _ => 0)))] H := hP
  have hD : va_D A [(h0, .inr (9, [.ref q0, .ref q3, .ref q4, .ref q5, .null])), (q0, .inr (6, [.ref q1, .ref q2, .int (0 : Int32)])), (q1, .inl (cI, 60, .inl (fun _ => 0))), (q2, .inl (cI, 60, .inl (fun _ => 0))), (q3, .inr (7, [.ref q0, .int (1 : Int32), .int (0 : Int32), .int (0 : Int32), .int (0 : Int32)])), (q4, .inr (4, [.ref q0])), (q5, .inr (8, [.ref q0, .ref q6, .int (0 : Int32)])), (q6, .inl (cI, 24, .inl (fun _ => 0)))] := hD
  refine lv_aload_n hx hb dX5_init_60 rfl (lv_at hl 0 rfl) ?_
  refine va_new (ci := 5) (fs := [.null, .null, .null, .null, .int 0, .null, .int 0, .int 0, .int 0, .int 0]) (C := RX1) (T := TX1) (N := 10) hx hb hts (fun _ h => gI_wsX10 h) tyX1 tyX1_ok hown (hts _ mG_2_6) (hts _ mG_2_7) (hts _ mG_2_8) hK.1 hP hD hS hA rfl (fun j hj => by rcases (show j = 0 ∨ j = 1 ∨ j = 2 ∨ j = 3 ∨ j = 4 ∨ j = 5 ∨ j = 6 ∨ j = 7 ∨ j = 8 ∨ j = 9 by omega) with rfl | rfl | rfl | rfl | rfl | rfl | rfl | rfl | rfl | rfl <;> rfl) (Nat.le_of_ble_eq_true rfl) (Nat.le_of_ble_eq_true rfl) dX5_init_61 (fun q7 H hP hD hS => ?_)
  have hP : va_P (dC, dI) vwCl [(h0, .inr (9, [.ref q0, .ref q3, .ref q4, .ref q5, .null])), (q0, .inr (6, [.ref q1, .ref q2, .int (0 : Int32)])), (q1, .inl (cI, 60, .inl (fun _ => 0))), (q2, .inl (cI, 60, .inl (fun _ => 0))), (q3, .inr (7, [.ref q0, .int (1 : Int32), .int (0 : Int32), .int (0 : Int32), .int (0 : Int32)])), (q4, .inr (4, [.ref q0])), (q5, .inr (8, [.ref q0, .ref q6, .int (0 : Int32)])), (q6, .inl (cI, 24, .inl (fun _ => 0))), (q7, .inr (5, [.null, .null, .null, .null, .int 0, .null, .int 0, .int 0, .int 0, .int 0]))] H := hP
  have hD : va_D A [(h0, .inr (9, [.ref q0, .ref q3, .ref q4, .ref q5, .null])), (q0, .inr (6, [.ref q1, .ref q2, .int (0 : Int32)])), (q1, .inl (cI, 60, .inl (fun _ => 0))), (q2, .inl (cI, 60, .inl (fun _ => 0))), (q3, .inr (7, [.ref q0, .int (1 : Int32), .int (0 : Int32), .int (0 : Int32), .int (0 : Int32)])), (q4, .inr (4, [.ref q0])), (q5, .inr (8, [.ref q0, .ref q6, .int (0 : Int32)])), (q6, .inl (cI, 24, .inl (fun _ => 0))), (q7, .inr (5, [.null, .null, .null, .null, .int 0, .null, .int 0, .int 0, .int 0, .int 0]))] := hD
  refine lv_dup hx hb dX5_init_64 rfl ?_
  refine lv_aload_n hx hb dX5_init_65 rfl (lv_at hl 0 rfl) ?_
  refine va_get (D := (dC, dI)) (ci := 9) (v := .ref q0) (C := RX5) (T := TX5) (N := 5) hx hb hts (fun _ h => gI_wsX50 h) hown hK.1 hP 0 rfl rfl 0 (by decide) (hts _ mG_1_17) (fun _ h9 => h9) rfl dX5_init_66 ?_
  have hPc := hP.sub (ws' := [(q7, .inr (5, [.null, .null, .null, .null, .int 0, .null, .int 0, .int 0, .int 0, .int 0]))]) [8] rfl
  have hDc := hD.sub (ws' := [(q7, .inr (5, [.null, .null, .null, .null, .int 0, .null, .int 0, .int 0, .int 0, .int 0]))]) [8] (by decide) rfl
  have hFc := va_free (wc := [(q7, .inr (5, [.null, .null, .null, .null, .int 0, .null, .int 0, .int 0, .int 0, .int 0]))]) hD hS hA [8] rfl
  refine va_callv (va_runI (As := [.ref q0]) (rest := [.ref q7, .ref h0]) ⟨hx, hb, hml, hown, hts⟩ (c_X1_init l dC dI cI cJ q7 H.size q0) (cwI 1 hts (gG_c mG_3_16 gG_G) rfl rfl rfl (hts _ mG_2_8) (hts _ mG_3_14) (hts _ mG_3_15) rfl hs_X1_init ⟨Nat.le_of_ble_eq_true rfl, Nat.le_of_ble_eq_true rfl⟩) ⟨fun a U g mk q => ⟨q.1, q.2.1, q.2.2.1, q.2.2.2.1.call, q.2.2.2.2⟩, fun U hU hW => ⟨rfl, by rw [hU], by rw [hU]; exact hPc, hK.warm hW, hDc.weaken (fun _ _ _ _ => trivial)⟩⟩ rfl rfl hl.1 rfl (lv_room (Nat.le_of_ble_eq_true rfl)) dX5_init_69 ⟨Nat.le_of_ble_eq_true rfl, Nat.le_of_ble_eq_true rfl⟩) hS (fun q _ h => hFc q h) hFc (fun u t H1 locs ht hvm hw hB hz1 hk1 hS => ?_)
  obtain ⟨q8, q9, q10, q11⟩ := u
  obtain ⟨hP1, hD1⟩ := hB
  rw [ht] at hP1
  try dsimp only at hP1 hD1
  obtain ⟨hP, hD⟩ := va_join (wr := [(h0, .inr (9, [.ref q0, .ref q3, .ref q4, .ref q5, .null])), (q0, .inr (6, [.ref q1, .ref q2, .int (0 : Int32)])), (q1, .inl (cI, 60, .inl (fun _ => 0))), (q2, .inl (cI, 60, .inl (fun _ => 0))), (q3, .inr (7, [.ref q0, .int (1 : Int32), .int (0 : Int32), .int (0 : Int32), .int (0 : Int32)])), (q4, .inr (4, [.ref q0])), (q5, .inr (8, [.ref q0, .ref q6, .int (0 : Int32)])), (q6, .inl (cI, 24, .inl (fun _ => 0)))]) (w1 := [(q7, .inr (5, [.ref q0, .ref q8, .ref q9, .ref q10, .int (0 : Int32), .ref q11, .int (0 : Int32), .int (0 : Int32), .int (0 : Int32), .int (0 : Int32)])), (q8, .inl (cJ, 12, .inr (.inl (fun _ => 0)))), (q9, .inl (cJ, 12, .inr (.inl (fun _ => 0)))), (q10, .inl (cJ, 12, .inr (.inl (fun _ => 0)))), (q11, .inl (cI, 12, .inl (fun _ => 0)))]) hP hD [8] [0, 1, 2, 3, 4, 5, 6, 7] rfl rfl (by decide) (by decide) hk1 hFc hP1 hD1
  generalize H1 = H at hP hS ⊢
  have hP : va_P (dC, dI) vwCl [(h0, .inr (9, [.ref q0, .ref q3, .ref q4, .ref q5, .null])), (q0, .inr (6, [.ref q1, .ref q2, .int (0 : Int32)])), (q1, .inl (cI, 60, .inl (fun _ => 0))), (q2, .inl (cI, 60, .inl (fun _ => 0))), (q3, .inr (7, [.ref q0, .int (1 : Int32), .int (0 : Int32), .int (0 : Int32), .int (0 : Int32)])), (q4, .inr (4, [.ref q0])), (q5, .inr (8, [.ref q0, .ref q6, .int (0 : Int32)])), (q6, .inl (cI, 24, .inl (fun _ => 0))), (q7, .inr (5, [.ref q0, .ref q8, .ref q9, .ref q10, .int (0 : Int32), .ref q11, .int (0 : Int32), .int (0 : Int32), .int (0 : Int32), .int (0 : Int32)])), (q8, .inl (cJ, 12, .inr (.inl (fun _ => 0)))), (q9, .inl (cJ, 12, .inr (.inl (fun _ => 0)))), (q10, .inl (cJ, 12, .inr (.inl (fun _ => 0)))), (q11, .inl (cI, 12, .inl (fun _ => 0)))] H := hP
  have hD : va_D A [(h0, .inr (9, [.ref q0, .ref q3, .ref q4, .ref q5, .null])), (q0, .inr (6, [.ref q1, .ref q2, .int (0 : Int32)])), (q1, .inl (cI, 60, .inl (fun _ => 0))), (q2, .inl (cI, 60, .inl (fun _ => 0))), (q3, .inr (7, [.ref q0, .int (1 : Int32), .int (0 : Int32), .int (0 : Int32), .int (0 : Int32)])), (q4, .inr (4, [.ref q0])), (q5, .inr (8, [.ref q0, .ref q6, .int (0 : Int32)])), (q6, .inl (cI, 24, .inl (fun _ => 0))), (q7, .inr (5, [.ref q0, .ref q8, .ref q9, .ref q10, .int (0 : Int32), .ref q11, .int (0 : Int32), .int (0 : Int32), .int (0 : Int32), .int (0 : Int32)])), (q8, .inl (cJ, 12, .inr (.inl (fun _ => 0)))), (q9, .inl (cJ, 12, .inr (.inl (fun _ => 0)))), (q10, .inl (cJ, 12, .inr (.inl (fun _ => 0)))), (q11, .inl (cI, 12, .inl (fun _ => 0)))] := hD
  refine va_putF (D := (dC, dI)) (ci := 9) (v := .ref q7) (ty := .object "OrderJudge$LineSet") (C := RX5) (T := TX5) (N := 5) hx hb hts (fun _ h => gI_wsX50 h) tyX5 tyX5_ok nmX5 hown hK.1 hP hD hS 0 rfl rfl 4 (by decide) (hts _ mG_2_9) (fun _ h9 => h9) rfl hin rfl (by decide +kernel) rfl rfl (Nat.le_of_ble_eq_true rfl) dX5_init_72 (fun H locs hP hD hS => ?_)
  have hP : va_P (dC, dI) vwCl [(h0, .inr (9, [.ref q0, .ref q3, .ref q4, .ref q5, .ref q7])), (q0, .inr (6, [.ref q1, .ref q2, .int (0 : Int32)])), (q1, .inl (cI, 60, .inl (fun _ => 0))), (q2, .inl (cI, 60, .inl (fun _ => 0))), (q3, .inr (7, [.ref q0, .int (1 : Int32), .int (0 : Int32), .int (0 : Int32), .int (0 : Int32)])), (q4, .inr (4, [.ref q0])), (q5, .inr (8, [.ref q0, .ref q6, .int (0 : Int32)])), (q6, .inl (cI, 24, .inl (fun _ => 0))), (q7, .inr (5, [.ref q0, .ref q8, .ref q9, .ref q10, .int (0 : Int32), .ref q11, .int (0 : Int32), .int (0 : Int32), .int (0 : Int32), .int (0 : Int32)])), (q8, .inl (cJ, 12, .inr (.inl (fun _ => 0)))), (q9, .inl (cJ, 12, .inr (.inl (fun _ => 0)))), (q10, .inl (cJ, 12, .inr (.inl (fun _ => 0)))), (q11, .inl (cI, 12, .inl (fun _ => 0)))] H := hP
  have hD : va_D A [(h0, .inr (9, [.ref q0, .ref q3, .ref q4, .ref q5, .ref q7])), (q0, .inr (6, [.ref q1, .ref q2, .int (0 : Int32)])), (q1, .inl (cI, 60, .inl (fun _ => 0))), (q2, .inl (cI, 60, .inl (fun _ => 0))), (q3, .inr (7, [.ref q0, .int (1 : Int32), .int (0 : Int32), .int (0 : Int32), .int (0 : Int32)])), (q4, .inr (4, [.ref q0])), (q5, .inr (8, [.ref q0, .ref q6, .int (0 : Int32)])), (q6, .inl (cI, 24, .inl (fun _ => 0))), (q7, .inr (5, [.ref q0, .ref q8, .ref q9, .ref q10, .int (0 : Int32), .ref q11, .int (0 : Int32), .int (0 : Int32), .int (0 : Int32), .int (0 : Int32)])), (q8, .inl (cJ, 12, .inr (.inl (fun _ => 0)))), (q9, .inl (cJ, 12, .inr (.inl (fun _ => 0)))), (q10, .inl (cJ, 12, .inr (.inl (fun _ => 0)))), (q11, .inl (cI, 12, .inl (fun _ => 0)))] := hD
  rw [hQ]
  exact W.vret hx hb hr (fun t ht hW => ⟨⟨(q0, q1, q2, q3, q4, q5, q6, q7, q8, q9, q10, q11), rfl, trivial, by subst ht; exact hP, hD⟩, hS.F ht⟩) hS.2.2 dX5_init_75 hlk
theorem hs_X6_init : yX6_init.cls ≠ "java/lang/invoke/MethodHandle" ∧ yX6_init.cls ≠ "java/lang/invoke/VarHandle" ∧ (parseMethodDescriptor yX6_init.desc).map (fun d => d.parameters.length) = some 0 := by decide +kernel
theorem hd_X6_init : yX6_init.cls = RX6 ∧ yX6_init.cls ≠ "java/lang/invoke/MethodHandle" ∧ yX6_init.cls ≠ "java/lang/invoke/VarHandle" ∧ (parseMethodDescriptor yX6_init.desc).map (fun d => d.parameters.length) = some 0 := ⟨rfl, hs_X6_init⟩

abbrev rm_X6_init : Room := { frames := 1, cells := 6, slots := 180, locals := 12 }
abbrev mW0 (h0 : Nat) (u : Nat × Nat × Nat × Nat × Nat × Nat) (cI cJ : ClassId) (f : Nat → Int32) : va_W := [(h0, .inr (10, [.int 0, .int 0, .ref u.1, .ref u.2.1, .int 0, .ref u.2.2.1, .int (1 : Int32), .int 0, .int 0, .int 0, .int 0, .ref u.2.2.2.1, .ref u.2.2.2.2.1, .ref u.2.2.2.2.2])), (u.1, .inl (cI, 60, .inl (fun _ => 0))), (u.2.1, .inl (cI, 60, .inl (fun _ => 0))), (u.2.2.1, .inl (cI, 24, .inl f)), (u.2.2.2.1, .inl (cJ, 12, .inr (.inl (fun _ => 0)))), (u.2.2.2.2.1, .inl (cJ, 12, .inr (.inl (fun _ => 0)))), (u.2.2.2.2.2, .inl (cJ, 12, .inr (.inl (fun _ => 0))))]
set_option maxHeartbeats 8000000 in
set_option maxRecDepth 100000 in
theorem c_X6_init (l : Launch) (dC : Nat → ClassId) (dI : Nat → Nat → Nat) (cI cJ : ClassId) (h0 sz : Nat) : Met l yX6_init (Cond.code yX6_init cX6_init 2 none :: lw_G) rm_X6_init (nPcw (dC, dI) (tIJ cI cJ) sz [(h0, .inr (10, [.int 0, .int 0, .null, .null, .int 0, .null, .int 0, .int 0, .int 0, .int 0, .int 0, .null, .null, .null]))] [.ref h0]) (va_Qv (fun _ : Nat × Nat × Nat × Nat × Nat × Nat => True) (fun u t => va_P (dC, dI) vwCl (mW0 h0 u cI cJ (f_ini 25 0 (fun _ => 0))) t.heap ∧ va_D (va_A [(h0, .inr (10, [.int 0, .int 0, .null, .null, .int 0, .null, .int 0, .int 0, .int 0, .int 0, .int 0, .null, .null, .null]))] sz) (mW0 h0 u cI cJ (f_ini 25 0 (fun _ => 0)))) (va_A [(h0, .inr (10, [.int 0, .int 0, .null, .null, .int 0, .null, .int 0, .int 0, .int 0, .int 0, .int 0, .null, .null, .null]))] sz)) 6 180 (va_A [(h0, .inr (10, [.int 0, .int 0, .null, .null, .int 0, .null, .int 0, .int 0, .int 0, .int 0, .int 0, .null, .null, .null]))] sz) := by
  refine im_of (by decide) rfl (Nat.le_of_ble_eq_true rfl) ?_
  intro p e s m args below meth c Q ls A hAe hsz hQ hx hb hr hlk hml hin hown hts hP hK hD hS hA hl
  subst hsz
  rw [← hAe] at hQ
  have hown : s.vm.findClass RX6 = some m.cls := hown
  have hl : lv_has ls 2 [(0, .ref h0)] := hl
  refine lv_aload_n hx hb dX6_init_0 rfl (lv_at hl 0 rfl) ?_
  refine W.objInit hx hb hown (hts _ mG_4_7) (hts _ mG_1_12) (hts _ mG_1_13) rfl (by rw [hml]; exact hl.1) rfl dX6_init_1 (Nat.le_of_ble_eq_true rfl) (Nat.le_of_ble_eq_true rfl) ?_
  refine W.eq (g2 := F0 m 4 ls []) rfl ?_
  refine lv_aload_n hx hb dX6_init_4 rfl (lv_at hl 0 rfl) ?_
  refine lv_bipush (v := (60 : Int32)) hx hb dX6_init_5 (by decide) ?_
  refine na_i (N := 60) hx hb (hts _ mG_2_13) hK hP hD hS hA (by decide) (by decide) (by decide) (Nat.le_of_ble_eq_true rfl) (Nat.le_of_ble_eq_true rfl) dX6_init_7 (fun q0 H hP hD hS => ?_)
  have hP : va_P (dC, dI) vwCl [(h0, .inr (10, [.int 0, .int 0, .null, .null, .int 0, .null, .int 0, .int 0, .int 0, .int 0, .int 0, .null, .null, .null])), (q0, .inl (cI, 60, .inl (fun _ => 0)))] H := hP
  have hD : va_D A [(h0, .inr (10, [.int 0, .int 0, .null, .null, .int 0, .null, .int 0, .int 0, .int 0, .int 0, .int 0, .null, .null, .null])), (q0, .inl (cI, 60, .inl (fun _ => 0)))] := hD
  refine va_putF (D := (dC, dI)) (ci := 10) (v := .ref q0) (ty := .array .int) (C := RX6) (T := TX6) (N := 14) hx hb hts (fun _ h => gI_wsX60 h) tyX6 tyX6_ok nmX6 hown hK.1 hP hD hS 0 rfl rfl 2 (by decide) (hts _ mG_4_8) (fun _ h9 => h9) rfl hin rfl (by decide +kernel) rfl rfl (Nat.le_of_ble_eq_true rfl) dX6_init_9 (fun H locs hP hD hS => ?_)
  have hP : va_P (dC, dI) vwCl [(h0, .inr (10, [.int 0, .int 0, .ref q0, .null, .int 0, .null, .int 0, .int 0, .int 0, .int 0, .int 0, .null, .null, .null])), (q0, .inl (cI, 60, .inl (fun _ => 0)))] H := hP
  have hD : va_D A [(h0, .inr (10, [.int 0, .int 0, .ref q0, .null, .int 0, .null, .int 0, .int 0, .int 0, .int 0, .int 0, .null, .null, .null])), (q0, .inl (cI, 60, .inl (fun _ => 0)))] := hD
  refine lv_aload_n hx hb dX6_init_12 rfl (lv_at hl 0 rfl) ?_
  refine lv_bipush (v := (60 : Int32)) hx hb dX6_init_13 (by decide) ?_
  refine na_i (N := 60) hx hb (hts _ mG_2_13) hK hP hD hS hA (by decide) (by decide) (by decide) (Nat.le_of_ble_eq_true rfl) (Nat.le_of_ble_eq_true rfl) dX6_init_15 (fun q1 H hP hD hS => ?_)
  have hP : va_P (dC, dI) vwCl [(h0, .inr (10, [.int 0, .int 0, .ref q0, .null, .int 0, .null, .int 0, .int 0, .int 0, .int 0, .int 0, .null, .null, .null])), (q0, .inl (cI, 60, .inl (fun _ => 0))), (q1, .inl (cI, 60, .inl (fun _ => 0)))] H := hP
  have hD : va_D A [(h0, .inr (10, [.int 0, .int 0, .ref q0, .null, .int 0, .null, .int 0, .int 0, .int 0, .int 0, .int 0, .null, .null, .null])), (q0, .inl (cI, 60, .inl (fun _ => 0))), (q1, .inl (cI, 60, .inl (fun _ => 0)))] := hD
  refine va_putF (D := (dC, dI)) (ci := 10) (v := .ref q1) (ty := .array .int) (C := RX6) (T := TX6) (N := 14) hx hb hts (fun _ h => gI_wsX60 h) tyX6 tyX6_ok nmX6 hown hK.1 hP hD hS 0 rfl rfl 3 (by decide) (hts _ mG_4_9) (fun _ h9 => h9) rfl hin rfl (by decide +kernel) rfl rfl (Nat.le_of_ble_eq_true rfl) dX6_init_17 (fun H locs hP hD hS => ?_)
  have hP : va_P (dC, dI) vwCl [(h0, .inr (10, [.int 0, .int 0, .ref q0, .ref q1, .int 0, .null, .int 0, .int 0, .int 0, .int 0, .int 0, .null, .null, .null])), (q0, .inl (cI, 60, .inl (fun _ => 0))), (q1, .inl (cI, 60, .inl (fun _ => 0)))] H := hP
  have hD : va_D A [(h0, .inr (10, [.int 0, .int 0, .ref q0, .ref q1, .int 0, .null, .int 0, .int 0, .int 0, .int 0, .int 0, .null, .null, .null])), (q0, .inl (cI, 60, .inl (fun _ => 0))), (q1, .inl (cI, 60, .inl (fun _ => 0)))] := hD
  refine lv_aload_n hx hb dX6_init_20 rfl (lv_at hl 0 rfl) ?_
  refine lv_bipush (v := (24 : Int32)) hx hb dX6_init_21 (by decide) ?_
  refine na_i (N := 24) hx hb (hts _ mG_2_13) hK hP hD hS hA (by decide) (by decide) (by decide) (Nat.le_of_ble_eq_true rfl) (Nat.le_of_ble_eq_true rfl) dX6_init_23 (fun q2 H hP hD hS => ?_)
  have hP : va_P (dC, dI) vwCl [(h0, .inr (10, [.int 0, .int 0, .ref q0, .ref q1, .int 0, .null, .int 0, .int 0, .int 0, .int 0, .int 0, .null, .null, .null])), (q0, .inl (cI, 60, .inl (fun _ => 0))), (q1, .inl (cI, 60, .inl (fun _ => 0))), (q2, .inl (cI, 24, .inl (fun _ => 0)))] H := hP
  have hD : va_D A [(h0, .inr (10, [.int 0, .int 0, .ref q0, .ref q1, .int 0, .null, .int 0, .int 0, .int 0, .int 0, .int 0, .null, .null, .null])), (q0, .inl (cI, 60, .inl (fun _ => 0))), (q1, .inl (cI, 60, .inl (fun _ => 0))), (q2, .inl (cI, 24, .inl (fun _ => 0)))] := hD
  refine va_putF (D := (dC, dI)) (ci := 10) (v := .ref q2) (ty := .array .int) (C := RX6) (T := TX6) (N := 14) hx hb hts (fun _ h => gI_wsX60 h) tyX6 tyX6_ok nmX6 hown hK.1 hP hD hS 0 rfl rfl 5 (by decide) (hts _ mG_4_10) (fun _ h9 => h9) rfl hin rfl (by decide +kernel) rfl rfl (Nat.le_of_ble_eq_true rfl) dX6_init_25 (fun H locs hP hD hS => ?_)
  have hP : va_P (dC, dI) vwCl [(h0, .inr (10, [.int 0, .int 0, .ref q0, .ref q1, .int 0, .ref q2, .int 0, .int 0, .int 0, .int 0, .int 0, .null, .null, .null])), (q0, .inl (cI, 60, .inl (fun _ => 0))), (q1, .inl (cI, 60, .inl (fun _ => 0))), (q2, .inl (cI, 24, .inl (fun _ => 0)))] H := hP
  have hD : va_D A [(h0, .inr (10, [.int 0, .int 0, .ref q0, .ref q1, .int 0, .ref q2, .int 0, .int 0, .int 0, .int 0, .int 0, .null, .null, .null])), (q0, .inl (cI, 60, .inl (fun _ => 0))), (q1, .inl (cI, 60, .inl (fun _ => 0))), (q2, .inl (cI, 24, .inl (fun _ => 0)))] := hD
  refine lv_aload_n hx hb dX6_init_28 rfl (lv_at hl 0 rfl) ?_
  refine lv_iconst (v := (1 : Int32)) hx hb dX6_init_29 (by decide) ?_
  refine va_put (D := (dC, dI)) (ci := 10) (v := .int (1 : Int32)) (ty := .boolean) (C := RX6) (T := TX6) (N := 14) hx hb hts (fun _ h => gI_wsX60 h) tyX6 tyX6_ok nmX6 hown hK.1 hP hD hS 0 rfl rfl 6 (by decide) (hts _ mG_4_11) (fun _ h9 => h9) rfl (by decide +kernel) rfl rfl (Nat.le_of_ble_eq_true rfl) dX6_init_30 (fun H locs hP hD hS => ?_)
  have hP : va_P (dC, dI) vwCl [(h0, .inr (10, [.int 0, .int 0, .ref q0, .ref q1, .int 0, .ref q2, .int (1 : Int32), .int 0, .int 0, .int 0, .int 0, .null, .null, .null])), (q0, .inl (cI, 60, .inl (fun _ => 0))), (q1, .inl (cI, 60, .inl (fun _ => 0))), (q2, .inl (cI, 24, .inl (fun _ => 0)))] H := hP
  have hD : va_D A [(h0, .inr (10, [.int 0, .int 0, .ref q0, .ref q1, .int 0, .ref q2, .int (1 : Int32), .int 0, .int 0, .int 0, .int 0, .null, .null, .null])), (q0, .inl (cI, 60, .inl (fun _ => 0))), (q1, .inl (cI, 60, .inl (fun _ => 0))), (q2, .inl (cI, 24, .inl (fun _ => 0)))] := hD
  refine lv_aload_n hx hb dX6_init_33 rfl (lv_at hl 0 rfl) ?_
  refine lv_bipush (v := (12 : Int32)) hx hb dX6_init_34 (by decide) ?_
  refine na_l (N := 12) hx hb (hts _ mG_1_6) hK hP hD hS hA (by decide) (by decide) (by decide) (Nat.le_of_ble_eq_true rfl) (Nat.le_of_ble_eq_true rfl) dX6_init_36 (fun q3 H hP hD hS => ?_)
  have hP : va_P (dC, dI) vwCl [(h0, .inr (10, [.int 0, .int 0, .ref q0, .ref q1, .int 0, .ref q2, .int (1 : Int32), .int 0, .int 0, .int 0, .int 0, .null, .null, .null])), (q0, .inl (cI, 60, .inl (fun _ => 0))), (q1, .inl (cI, 60, .inl (fun _ => 0))), (q2, .inl (cI, 24, .inl (fun _ => 0))), (q3, .inl (cJ, 12, .inr (.inl (fun _ => 0))))] H := hP
  have hD : va_D A [(h0, .inr (10, [.int 0, .int 0, .ref q0, .ref q1, .int 0, .ref q2, .int (1 : Int32), .int 0, .int 0, .int 0, .int 0, .null, .null, .null])), (q0, .inl (cI, 60, .inl (fun _ => 0))), (q1, .inl (cI, 60, .inl (fun _ => 0))), (q2, .inl (cI, 24, .inl (fun _ => 0))), (q3, .inl (cJ, 12, .inr (.inl (fun _ => 0))))] := hD
  refine va_putF (D := (dC, dI)) (ci := 10) (v := .ref q3) (ty := .array .long) (C := RX6) (T := TX6) (N := 14) hx hb hts (fun _ h => gI_wsX60 h) tyX6 tyX6_ok nmX6 hown hK.1 hP hD hS 0 rfl rfl 11 (by decide) (hts _ mG_4_12) (fun _ h9 => h9) rfl hin rfl (by decide +kernel) rfl rfl (Nat.le_of_ble_eq_true rfl) dX6_init_38 (fun H locs hP hD hS => ?_)
  have hP : va_P (dC, dI) vwCl [(h0, .inr (10, [.int 0, .int 0, .ref q0, .ref q1, .int 0, .ref q2, .int (1 : Int32), .int 0, .int 0, .int 0, .int 0, .ref q3, .null, .null])), (q0, .inl (cI, 60, .inl (fun _ => 0))), (q1, .inl (cI, 60, .inl (fun _ => 0))), (q2, .inl (cI, 24, .inl (fun _ => 0))), (q3, .inl (cJ, 12, .inr (.inl (fun _ => 0))))] H := hP
  have hD : va_D A [(h0, .inr (10, [.int 0, .int 0, .ref q0, .ref q1, .int 0, .ref q2, .int (1 : Int32), .int 0, .int 0, .int 0, .int 0, .ref q3, .null, .null])), (q0, .inl (cI, 60, .inl (fun _ => 0))), (q1, .inl (cI, 60, .inl (fun _ => 0))), (q2, .inl (cI, 24, .inl (fun _ => 0))), (q3, .inl (cJ, 12, .inr (.inl (fun _ => 0))))] := hD
  refine lv_aload_n hx hb dX6_init_41 rfl (lv_at hl 0 rfl) ?_
  refine lv_bipush (v := (12 : Int32)) hx hb dX6_init_42 (by decide) ?_
  refine na_l (N := 12) hx hb (hts _ mG_1_6) hK hP hD hS hA (by decide) (by decide) (by decide) (Nat.le_of_ble_eq_true rfl) (Nat.le_of_ble_eq_true rfl) dX6_init_44 (fun q4 H hP hD hS => ?_)
  have hP : va_P (dC, dI) vwCl [(h0, .inr (10, [.int 0, .int 0, .ref q0, .ref q1, .int 0, .ref q2, .int (1 : Int32), .int 0, .int 0, .int 0, .int 0, .ref q3, .null, .null])), (q0, .inl (cI, 60, .inl (fun _ => 0))), (q1, .inl (cI, 60, .inl (fun _ => 0))), (q2, .inl (cI, 24, .inl (fun _ => 0))), (q3, .inl (cJ, 12, .inr (.inl (fun _ => 0)))), (q4, .inl (cJ, 12, .inr (.inl (fun _ => 0))))] H := hP
  have hD : va_D A [(h0, .inr (10, [.int 0, .int 0, .ref q0, .ref q1, .int 0, .ref q2, .int (1 : Int32), .int 0, .int 0, .int 0, .int 0, .ref q3, .null, .null])), (q0, .inl (cI, 60, .inl (fun _ => 0))), (q1, .inl (cI, 60, .inl (fun _ => 0))), (q2, .inl (cI, 24, .inl (fun _ => 0))), (q3, .inl (cJ, 12, .inr (.inl (fun _ => 0)))), (q4, .inl (cJ, 12, .inr (.inl (fun _ => 0))))] := hD
  refine va_putF (D := (dC, dI)) (ci := 10) (v := .ref q4) (ty := .array .long) (C := RX6) (T := TX6) (N := 14) hx hb hts (fun _ h => gI_wsX60 h) tyX6 tyX6_ok nmX6 hown hK.1 hP hD hS 0 rfl rfl 12 (by decide) (hts _ mG_4_13) (fun _ h9 => h9) rfl hin rfl (by decide +kernel) rfl rfl (Nat.le_of_ble_eq_true rfl) dX6_init_46 (fun H locs hP hD hS => ?_)
  have hP : va_P (dC, dI) vwCl [(h0, .inr (10, [.int 0, .int 0, .ref q0, .ref q1, .int 0, .ref q2, .int (1 : Int32), .int 0, .int 0, .int 0, .int 0, .ref q3, .ref q4, .null])), (q0, .inl (cI, 60, .inl (fun _ => 0))), (q1, .inl (cI, 60, .inl (fun _ => 0))), (q2, .inl (cI, 24, .inl (fun _ => 0))), (q3, .inl (cJ, 12, .inr (.inl (fun _ => 0)))), (q4, .inl (cJ, 12, .inr (.inl (fun _ => 0))))] H := hP
  have hD : va_D A [(h0, .inr (10, [.int 0, .int 0, .ref q0, .ref q1, .int 0, .ref q2, .int (1 : Int32), .int 0, .int 0, .int 0, .int 0, .ref q3, .ref q4, .null])), (q0, .inl (cI, 60, .inl (fun _ => 0))), (q1, .inl (cI, 60, .inl (fun _ => 0))), (q2, .inl (cI, 24, .inl (fun _ => 0))), (q3, .inl (cJ, 12, .inr (.inl (fun _ => 0)))), (q4, .inl (cJ, 12, .inr (.inl (fun _ => 0))))] := hD
  refine lv_aload_n hx hb dX6_init_49 rfl (lv_at hl 0 rfl) ?_
  refine lv_bipush (v := (12 : Int32)) hx hb dX6_init_50 (by decide) ?_
  refine na_l (N := 12) hx hb (hts _ mG_1_6) hK hP hD hS hA (by decide) (by decide) (by decide) (Nat.le_of_ble_eq_true rfl) (Nat.le_of_ble_eq_true rfl) dX6_init_52 (fun q5 H hP hD hS => ?_)
  have hP : va_P (dC, dI) vwCl [(h0, .inr (10, [.int 0, .int 0, .ref q0, .ref q1, .int 0, .ref q2, .int (1 : Int32), .int 0, .int 0, .int 0, .int 0, .ref q3, .ref q4, .null])), (q0, .inl (cI, 60, .inl (fun _ => 0))), (q1, .inl (cI, 60, .inl (fun _ => 0))), (q2, .inl (cI, 24, .inl (fun _ => 0))), (q3, .inl (cJ, 12, .inr (.inl (fun _ => 0)))), (q4, .inl (cJ, 12, .inr (.inl (fun _ => 0)))), (q5, .inl (cJ, 12, .inr (.inl (fun _ => 0))))] H := hP
  have hD : va_D A [(h0, .inr (10, [.int 0, .int 0, .ref q0, .ref q1, .int 0, .ref q2, .int (1 : Int32), .int 0, .int 0, .int 0, .int 0, .ref q3, .ref q4, .null])), (q0, .inl (cI, 60, .inl (fun _ => 0))), (q1, .inl (cI, 60, .inl (fun _ => 0))), (q2, .inl (cI, 24, .inl (fun _ => 0))), (q3, .inl (cJ, 12, .inr (.inl (fun _ => 0)))), (q4, .inl (cJ, 12, .inr (.inl (fun _ => 0)))), (q5, .inl (cJ, 12, .inr (.inl (fun _ => 0))))] := hD
  refine va_putF (D := (dC, dI)) (ci := 10) (v := .ref q5) (ty := .array .long) (C := RX6) (T := TX6) (N := 14) hx hb hts (fun _ h => gI_wsX60 h) tyX6 tyX6_ok nmX6 hown hK.1 hP hD hS 0 rfl rfl 13 (by decide) (hts _ mG_4_14) (fun _ h9 => h9) rfl hin rfl (by decide +kernel) rfl rfl (Nat.le_of_ble_eq_true rfl) dX6_init_54 (fun H locs hP hD hS => ?_)
  have hP : va_P (dC, dI) vwCl [(h0, .inr (10, [.int 0, .int 0, .ref q0, .ref q1, .int 0, .ref q2, .int (1 : Int32), .int 0, .int 0, .int 0, .int 0, .ref q3, .ref q4, .ref q5])), (q0, .inl (cI, 60, .inl (fun _ => 0))), (q1, .inl (cI, 60, .inl (fun _ => 0))), (q2, .inl (cI, 24, .inl (fun _ => 0))), (q3, .inl (cJ, 12, .inr (.inl (fun _ => 0)))), (q4, .inl (cJ, 12, .inr (.inl (fun _ => 0)))), (q5, .inl (cJ, 12, .inr (.inl (fun _ => 0))))] H := hP
  have hD : va_D A [(h0, .inr (10, [.int 0, .int 0, .ref q0, .ref q1, .int 0, .ref q2, .int (1 : Int32), .int 0, .int 0, .int 0, .int 0, .ref q3, .ref q4, .ref q5])), (q0, .inl (cI, 60, .inl (fun _ => 0))), (q1, .inl (cI, 60, .inl (fun _ => 0))), (q2, .inl (cI, 24, .inl (fun _ => 0))), (q3, .inl (cJ, 12, .inr (.inl (fun _ => 0)))), (q4, .inl (cJ, 12, .inr (.inl (fun _ => 0)))), (q5, .inl (cJ, 12, .inr (.inl (fun _ => 0))))] := hD
  refine lv_iconst (v := (0 : Int32)) hx hb dX6_init_57 (by decide) ?_
  refine lv_istore_n (lv' := [(1, .int (0 : Int32)), (0, .ref h0)]) hx hb dX6_init_58 rfl hl (by decide) rfl (fun ls hl => ?_)
  have K : ∀ (n : Nat) (i : Int32) (f : Nat → Int32), 0 ≤ i → ((24 : Int32).toInt - i.toInt).toNat < n → ∀ (H : Heap) (locs : List Loc), va_P (dC, dI) vwCl [(h0, .inr (10, [.int 0, .int 0, .ref q0, .ref q1, .int 0, .ref q2, .int (1 : Int32), .int 0, .int 0, .int 0, .int 0, .ref q3, .ref q4, .ref q5])), (q0, .inl (cI, 60, .inl (fun _ => 0))), (q1, .inl (cI, 60, .inl (fun _ => 0))), (q2, .inl (cI, 24, .inl f)), (q3, .inl (cJ, 12, .inr (.inl (fun _ => 0)))), (q4, .inl (cJ, 12, .inr (.inl (fun _ => 0)))), (q5, .inl (cJ, 12, .inr (.inl (fun _ => 0))))] H → va_D A [(h0, .inr (10, [.int 0, .int 0, .ref q0, .ref q1, .int 0, .ref q2, .int (1 : Int32), .int 0, .int 0, .int 0, .int 0, .ref q3, .ref q4, .ref q5])), (q0, .inl (cI, 60, .inl (fun _ => 0))), (q1, .inl (cI, 60, .inl (fun _ => 0))), (q2, .inl (cI, 24, .inl f)), (q3, .inl (cJ, 12, .inr (.inl (fun _ => 0)))), (q4, .inl (cJ, 12, .inr (.inl (fun _ => 0)))), (q5, .inl (cJ, 12, .inr (.inl (fun _ => 0))))] → va_S A s.heap H locs → ∀ (ls : Array Slot), lv_has ls 2 [(0, .ref h0), (1, .int i)] → W p l e rm_X6_init s m args below meth c H locs 6 180 (MQ below (va_Qv (fun _ : Nat × Nat × Nat × Nat × Nat × Nat => True) (fun u t => va_P (dC, dI) vwCl (mW0 h0 u cI cJ (f_ini n i f)) t.heap ∧ va_D A (mW0 h0 u cI cJ (f_ini n i f))) A) args s 6 180 A) (F0 m 59 ls []) := by
    intro n
    induction n with
    | zero => intro i f h0 hf; exact absurd hf (Nat.not_lt_zero _)
    | succ n ih =>
      intro i f hi hf H locs hP hD hS ls hl
      refine lv_iload_n hx hb dX6_init_59 rfl (lv_at hl 1 rfl) ?_
      refine lv_bipush (v := (24 : Int32)) hx hb dX6_init_60 (by decide) ?_
      refine lv_icmp_ge (tgt := 78) hx hb dX6_init_62 (by decide) (fun c1 => ?_) (fun c1 => ?_)
      · have hU : f_ini (n + 1) i f = f := if_pos c1
        rw [hU]
        exact W.vret hx hb hr (fun t ht hW => ⟨⟨(q0, q1, q2, q3, q4, q5), rfl, trivial, by subst ht; exact hP, hD⟩, hS.F ht⟩) hS.2.2 dX6_init_78 hlk
      · have hU : f_ini (n + 1) i f = f_ini n (i + 1) (upd f (Int32.toNatClampNeg i) (-1)) := if_neg c1
        rw [hU]
        refine lv_aload_n hx hb dX6_init_65 rfl (lv_at hl 0 rfl) ?_
        refine va_get (D := (dC, dI)) (ci := 10) (v := .ref q2) (C := RX6) (T := TX6) (N := 14) hx hb hts (fun _ h => gI_wsX60 h) hown hK.1 hP 0 rfl rfl 5 (by decide) (hts _ mG_4_10) (fun _ h9 => h9) rfl dX6_init_66 ?_
        refine lv_iload_n hx hb dX6_init_69 rfl (lv_at hl 1 rfl) ?_
        refine lv_iconst (v := (-1 : Int32)) hx hb dX6_init_70 (by decide) ?_
        refine va_iast hx hb hK.1 hP hD hS 3 0 rfl rfl (ix_lt hi c1 (by decide)) dX6_init_71 (fun H locs hP hD hS => ?_)
        refine lv_iinc (v := (i + 1)) (lv' := [(1, .int (i + 1)), (0, .ref h0)]) hx hb dX6_init_72 hl (k := 1) rfl rfl (by decide) rfl (fun ls hl => ?_)
        refine lv_goto (tgt := 59) hx hb dX6_init_75 (by decide) ?_
        exact ih (i + 1) _ (lp_pos hi c1) (lp_dec c1 hf) _ _ hP hD hS ls (lv_sub hl [1, 0] rfl)
  rw [hQ]
  exact K 25 0 (fun _ => 0) (by decide) (lp_fuel (by decide) (by decide)) _ _ hP hD hS ls (lv_sub hl [1, 0] rfl)
