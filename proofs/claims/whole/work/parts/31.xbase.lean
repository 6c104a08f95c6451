/-! what a throwing method needs beside its world -/
abbrev tUn : String := "UNASSIGNED_STACK"
abbrev tSu : String := "SUPPRESSED_SENTINEL"
/-- the words that the tables alone decide, kept from state to state by rows of their own -/
def kZ (U : State) : Prop := va_Nw (dS "java/lang/RuntimeException") U ∧ va_Nw (dS "java/lang/Exception") U ∧ va_Nw (dS "java/lang/Throwable") U ∧ va_Nw (dS "java/lang/IndexOutOfBoundsException") U ∧ va_Nw (.castable eN1 eN1) U ∧ va_Nw (.castable eA1 eA1) U ∧ va_Nw (.castable eR1 eR1) U ∧ (va_Nw (.castable eP1 eP1) U ∧ va_Nw (.castable "java/lang/RuntimeException" "java/lang/Throwable") U) ∧ va_Nc eP1 eA1 U
theorem kZ.warm {s U : State} (hW : s.WarmedH U.vm) (h : kZ s) : kZ U := ⟨va_Nw.warmD hW h.1, va_Nw.warmD hW h.2.1, va_Nw.warmD hW h.2.2.1, va_Nw.warmD hW h.2.2.2.1, va_Nw.warmC hW h.2.2.2.2.1, va_Nw.warmC hW h.2.2.2.2.2.1, va_Nw.warmC hW h.2.2.2.2.2.2.1, ⟨va_Nw.warmC hW h.2.2.2.2.2.2.2.1.1, va_Nw.warmC hW h.2.2.2.2.2.2.2.1.2⟩, va_Nc.moved hW.alike h.2.2.2.2.2.2.2.2⟩
def kX (A : Nat → Prop) (sa : Nat → Nat) (U : State) (H : Heap) : Prop := vx_Zq Bundle.tN tUn Bundle.steD A U H ∧ vx_Zq Bundle.tN tSu Bundle.listD A U H ∧ vk_R RX5 59 "n is below 0" (sa 0) U ∧ vk_R RX5 77 "no such place" (sa 1) U ∧ vk_R RX5 177 "by is 0" (sa 2) U ∧ vk_R RX5 89 "the place has no point" (sa 3) U ∧ kZ U
theorem kX.at {A B : Nat → Prop} {sa : Nat → Nat} {s U : State} {H0 H : Heap} {locs : List Loc} (h : kX A sa s H0) (hS : va_S A H0 H locs) (hB : ∀ q, B q → A q) (hW : s.WarmedH U.vm) : kX B sa U H := by
  obtain ⟨h1, h2, h3, h4, h5, h6, h7⟩ := h
  exact ⟨((h1.kept hS.2.1).moved hW.alike).narrow hB, ((h2.kept hS.2.1).moved hW.alike).narrow hB, h3.warm hW, h4.warm hW, h5.warm hW, h6.warm hW, h7.warm hW⟩
theorem kX.call {A : Nat → Prop} {sa : Nat → Nat} {U : State} {g : JFrame} {mk : MethodId} {a : Array Value} (h : kX A sa U U.heap) : kX A sa (U.calling g mk a) (U.calling g mk a).heap := kX.at (U := U.calling g mk a) h va_S.rf (fun _ h => h) (State.WarmedH.refl U)
/-- a throwing method's start and ends -/
abbrev xPc (D : va_G) (tys : List (ClassId × FieldType)) (sa : Nat → Nat) (ws : va_W) (av : List Value) : Array Value → State → Prop := va_Pc av (fun U => va_P D vwCl ws U.heap ∧ kK D tys U ∧ va_D (fun _ => True) ws ∧ kX (wA ws) sa U U.heap)
abbrev xQi (D : va_G) (A : Nat → Prop) (ws1 : va_W) (k r0 : Int32) : Array Value → State → Outcome → State → Prop := va_Qi (fun (r : Int32) (_ : Unit) => k = 0 ∧ r = r0) (fun _ t => va_P D vwCl ws1 t.heap) A
abbrev xQl (D : va_G) (A : Nat → Prop) (ws1 : va_W) (k : Int32) (r0 : Int64) : Array Value → State → Outcome → State → Prop := va_Ql (fun (r : Int64) (_ : Unit) => k = 0 ∧ r = r0) (fun _ t => va_P D vwCl ws1 t.heap) A
abbrev xX (D : va_G) (A : Nat → Prop) (ws : va_W) (k : Int32) (E1 E2 : String) : String → State → State → Prop := vx_X (fun (_ : Unit) => True) (fun E _ t => ((E = E1 ∧ k = 1) ∨ (E = E2 ∧ k = 2)) ∧ va_P D vwCl ws t.heap) A
theorem xPcV {D : va_G} {tys : List (ClassId × FieldType)} {sa : Nat → Nat} {ws : va_W} {s : State} {H : Heap} {locs : List Loc} {A : Nat → Prop} {As : List Value} {b ci q0 N : Nat} {C : String} {T : u_T} {fs : List Value} (hK : kK D tys s) (hP : va_P D vwCl ws H) (hD : va_D A ws) (hX : kX A sa s s.heap) (hS : va_S A s.heap H locs) (hc : vwCl[ci]? = some (C, T, N)) (he : ws[q0]? = some (b, .inr (ci, fs))) : PreV s H C b (xPc D tys sa ws (.ref b :: As)) As :=
  ⟨fun a U g mk q => ⟨q.1, q.2.1, q.2.2.1.call, q.2.2.2.1, q.2.2.2.2.call⟩, va_recv hK.1 hP hc he, fun U hU hW => ⟨rfl, by rw [hU]; exact hP, hK.warm hW, ⟨hD.1, fun _ _ _ => trivial⟩, by rw [hU]; exact hX.at hS (wA.sub hD) hW⟩⟩
theorem xm_of {l : Launch} {y : MethodName} {rm : Room} {D : va_G} {tys : List (ClassId × FieldType)} {sa : Nat → Nat} {ws : va_W} {av : List Value} {Qc : Array Value → State → Outcome → State → Prop} {XC : String → State → State → Prop} {cc : ByteArray} {maxL : Nat} {ret : Option FieldType} (hy : plainName y.cls = true) (hlen : (lg_sl av).length ≤ maxL)
    (body : ∀ (p : Program) (e : Env) (s : State) (m : MethodId) (args : Array Value) (below : List Frame) (meth : Method) (c : Code) (Q : State → Prop) (ls : Array Slot), Q = vx_MQ below Qc XC args s 1 8 (wA ws) → p.tables.exec = Jvm.exec → c.code = cc → meth.sig.returnType = ret → meth.locks = false → c.maxLocals = maxL → s.vm.findClass y.cls = some m.cls → (∀ w ∈ lw_H, w.before args s = true) → (∀ x ∈ c.exceptionTable.toList, False) → va_P D vwCl ws s.heap → kK D tys s → va_D (wA ws) ws → kX (wA ws) sa s s.heap → va_S (wA ws) s.heap s.heap [] → lv_has ls maxL (lv_args 0 av) → W p l e rm s m args below meth c s.heap [] 0 0 Q (F0 m 0 ls [])) : vx_Met l y (Cond.code y cc maxL ret :: lw_H) rm (xPc D tys sa ws av) Qc XC 1 8 (wA ws) := by
  refine vx_ofW (cc := cc) (maxL := maxL) (ret := ret) hy rfl ?_
  intro p e s m args below meth c s₁ B hml htab hv
  obtain ⟨rfl, hP, hK, hD, hX⟩ := hv
  rw [lg_entry_eq]
  exact body p e s m _ below meth c _ _ rfl B.exec B.bytes B.returns B.notSynchronized hml (findClass_of_methodNamed B.named) (fun w h => atoms_spec (ws := Cond.code y cc maxL ret :: lw_H) B.pre w (List.mem_cons_of_mem _ h)) htab hP hK ⟨hD.1, fun k q h => ⟨k, q.2, h⟩⟩ hX va_S.rf (lv_entry av hlen)
section XB
variable {p : Program} {l : Launch} {e : Env} {R : Room} {s : State} {m : MethodId} {args : Array Value} {below : List Frame} {meth : Method} {c : Code} {H : Heap} {locs : List Loc} {Q : State → Prop}
variable {pc : Nat} {ls : Array Slot} {rest : List Value} {A : Nat → Prop} {D : va_G} {ws ws1 : va_W}
theorem rx_i {cc : ByteArray} {v k r0 : Int32} {XC : String → State → State → Prop} (hQ : Q = vx_MQ below (xQi D A ws1 k r0) XC args s 1 8 A) (hx : p.tables.exec = Jvm.exec) (hb : c.code = cc) (hr : meth.sig.returnType = some .int) (hlk : meth.locks = false) (hP : va_P D vwCl ws1 H) (hS : va_S A s.heap H locs) (ek : k = 0) (ev : v = r0) (hdg : decode cc pc = .ok (.ireturn, 1)) : W p l e R s m args below meth c H locs 0 0 Q (F0 m pc ls [.int v]) := by
  subst hQ
  refine vx_ret ?_
  refine W.widen (k := 1) (n := 8) (by decide) (by decide) ?_
  exact W.iret hx hb hr (fun t ht hW => ⟨⟨v, (), rfl, ⟨ek, ev⟩, by subst ht; exact hP⟩, hS.F ht⟩) hS.2.2 hdg hlk
theorem rx_l {cc : ByteArray} {v : Int64} {k : Int32} {r0 : Int64} {XC : String → State → State → Prop} (hQ : Q = vx_MQ below (xQl D A ws1 k r0) XC args s 1 8 A) (hx : p.tables.exec = Jvm.exec) (hb : c.code = cc) (hr : meth.sig.returnType = some .long) (hlk : meth.locks = false) (hP : va_P D vwCl ws1 H) (hS : va_S A s.heap H locs) (ek : k = 0) (ev : v = r0) (hdg : decode cc pc = .ok (.lreturn, 1)) : W p l e R s m args below meth c H locs 0 0 Q (F0 m pc ls [.long v]) := by
  subst hQ
  refine vx_ret ?_
  refine W.widen (k := 1) (n := 8) (by decide) (by decide) ?_
  exact W.lret hx hb hr (fun t ht hW => ⟨⟨v, (), rfl, ⟨ek, ev⟩, by subst ht; exact hP⟩, hS.F ht⟩) hS.2.2 hdg hlk
theorem tx {cc : ByteArray} {k : Int32} {E1 E2 cls text : String} {names : List String} {ik is ic sa : Nat} {Qc : Array Value → State → Outcome → State → Prop} (hQ : Q = vx_MQ below Qc (xX D A ws k E1 E2) args s 1 8 A) (hE : (cls = E1 ∧ k = 1) ∨ (cls = E2 ∧ k = 2)) (hx : p.tables.exec = Jvm.exec) (hb : c.code = cc) (hlt : l.stackTraces = false) (hown : s.vm.findClass RX5 = some m.cls) (hcls : Bundle.fit cls = true) (hnames : ∀ n ∈ names, Bundle.fit n = true)
    (hk : (Cond.classLink RX5 ik cls).before args s = true) (hini : (Cond.initialized cls).before args s = true) (hstr : vk_R RX5 is text sa s) (hat : ∀ w ∈ vx_atS RX5 ic cls names, w.before args s = true) (hgood : ∀ w ∈ Cond.classLink RX5 ik cls :: Cond.initialized cls :: vx_atS RX5 ic cls names, vx_ot w = true)
    (hU : vx_Zq Bundle.tN tUn Bundle.steD A s s.heap) (hN : vx_Zq Bundle.tN tSu Bundle.listD A s s.heap) (hS : va_S A s.heap H locs) (hsize : ls.size = c.maxLocals) (hlk : meth.locks = false) (hP : va_P D vwCl ws H) (htab : ∀ x ∈ c.exceptionTable.toList, False)
    (hRf : names.length + 3 < R.frames) (hRl : (rest.map fun v => v.category).sum + (13 * (names.length + 1) + 43) ≤ R.locals) (hRc : 0 + 1 ≤ R.cells) (hRs : 0 + 6 ≤ R.slots)
    (d0 : decode cc pc = .ok (.new ik, 3)) (d3 : decode cc (pc + 3) = .ok (.dup, 1)) (d4 : decode cc (pc + 4) = .ok (.ldc is, 2)) (d6 : decode cc (pc + 6) = .ok (.invokespecial ic, 3)) (d9 : decode cc (pc + 9) = .ok (.athrow, 1)) : W p l e R s m args below meth c H locs 0 0 Q (F0 m pc ls rest) := by
  subst hQ
  exact vx_throwS hx hb hlt hown hcls hnames hk hini hstr hat hgood hU hN hS hsize d0 d3 d4 d6 d9 (fun x h => (htab x h).elim) hRf hRl hRc hRs hlk (fun t hvm hz hk => ⟨(), trivial, ⟨hE, hP.kept (fun k q h => hk q.1 (hP k q h).lt)⟩, ⟨Nat.le_trans hS.1 hz, fun q h1 h2 => by rw [hk q (Nat.lt_of_lt_of_le h1 hS.1)]; exact hS.2.1 q h1 h2⟩⟩) hS.2.2 (by decide) (by decide)
end XB
theorem hat_N {args : Array Value} {s : State} (h : ∀ w ∈ lw_H, w.before args s = true) (z : kZ s) : ∀ w ∈ vx_atS RX5 61 eN1 nR2, w.before args s = true :=
  vx_hat (B := [dS "java/lang/RuntimeException", dS "java/lang/Exception", dS "java/lang/Throwable", .castable eN1 eN1]) (fun w hw => h w (List.mem_append_left _ (List.mem_append_left _ hw))) (fun w hw => by rw [x_no_N] at hw; exact hw) (vx_c (va_Nw.use rfl z.1) (vx_c (va_Nw.use rfl z.2.1) (vx_c (va_Nw.use rfl z.2.2.1) (vx_c (va_Nw.use rfl z.2.2.2.2.1) vx_n))))
theorem hat_A {args : Array Value} {s : State} (h : ∀ w ∈ lw_H, w.before args s = true) (z : kZ s) : ∀ w ∈ vx_atS RX5 79 eA1 nR3, w.before args s = true :=
  vx_hat (B := [dS "java/lang/IndexOutOfBoundsException", dS "java/lang/RuntimeException", dS "java/lang/Exception", dS "java/lang/Throwable", .castable eA1 eA1]) (fun w hw => h w (List.mem_append_left _ (List.mem_append_right _ (List.mem_append_left _ hw)))) (fun w hw => by rw [x_no_A] at hw; exact hw) (vx_c (va_Nw.use rfl z.2.2.2.1) (vx_c (va_Nw.use rfl z.1) (vx_c (va_Nw.use rfl z.2.1) (vx_c (va_Nw.use rfl z.2.2.1) (vx_c (va_Nw.use rfl z.2.2.2.2.2.1) vx_n)))))
theorem hat_R {args : Array Value} {s : State} (h : ∀ w ∈ lw_H, w.before args s = true) (z : kZ s) : ∀ w ∈ vx_atS RX5 179 eR1 nR2, w.before args s = true :=
  vx_hat (B := [dS "java/lang/RuntimeException", dS "java/lang/Exception", dS "java/lang/Throwable", .castable eR1 eR1]) (fun w hw => h w (List.mem_append_left _ (List.mem_append_right _ (List.mem_append_right _ (List.mem_append_left _ hw))))) (fun w hw => by rw [x_no_R] at hw; exact hw) (vx_c (va_Nw.use rfl z.1) (vx_c (va_Nw.use rfl z.2.1) (vx_c (va_Nw.use rfl z.2.2.1) (vx_c (va_Nw.use rfl z.2.2.2.2.2.2.1) vx_n))))
theorem hat_P {args : Array Value} {s : State} (h : ∀ w ∈ lw_H, w.before args s = true) (z : kZ s) : ∀ w ∈ (tn_at RX5 91).filter vx_no, w.before args s = true :=
  vx_hat (B := [dS "java/lang/RuntimeException", dS "java/lang/Exception", dS "java/lang/Throwable", .castable "java/lang/RuntimeException" "java/lang/Throwable", .castable eP1 eP1]) (fun w hw => h w (List.mem_append_left _ (List.mem_append_right _ (List.mem_append_right _ (List.mem_append_right _ hw))))) (fun w hw => by rw [x_no_P] at hw; exact hw) (vx_c (va_Nw.use rfl z.1) (vx_c (va_Nw.use rfl z.2.1) (vx_c (va_Nw.use rfl z.2.2.1) (vx_c (va_Nw.use rfl z.2.2.2.2.2.2.2.1.2) (vx_c (va_Nw.use rfl z.2.2.2.2.2.2.2.1.1) vx_n)))))
theorem tx_P {p : Program} {l : Launch} {e : Env} {R : Room} {s : State} {m : MethodId} {args : Array Value} {below : List Frame} {meth : Method} {c : Code} {H : Heap} {locs : List Loc} {Q : State → Prop} {pc : Nat} {ls : Array Slot} {rest : List Value} {A : Nat → Prop} {D : va_G} {ws : va_W} {sa : Nat → Nat} {cc : ByteArray} {k : Int32} {E1 : String} {Qc : Array Value → State → Outcome → State → Prop} (hQ : Q = vx_MQ below Qc (xX D A ws k E1 eP1) args s 1 8 A) (hE : k = 2) (hx : p.tables.exec = Jvm.exec) (hb : c.code = cc) (hlt : l.stackTraces = false) (hown : s.vm.findClass RX5 = some m.cls) (htH : ∀ w ∈ lw_H, w.before args s = true) (hX : kX A sa s s.heap) (hS : va_S A s.heap H locs) (hsize : ls.size = c.maxLocals) (hlk : meth.locks = false) (hP : va_P D vwCl ws H) (htab : ∀ x ∈ c.exceptionTable.toList, False)
    (hk : (Cond.classLink RX5 87 eP1).before args s = true) (hini : (Cond.initialized eP1).before args s = true)
    (hRf : 10 ≤ R.frames) (hRl : (rest.map fun v => v.category).sum + 10270 ≤ R.locals) (hRc : 0 + 1 ≤ R.cells) (hRs : 0 + 8 ≤ R.slots)
    (d0 : decode cc pc = .ok (.new 87, 3)) (d3 : decode cc (pc + 3) = .ok (.dup, 1)) (d4 : decode cc (pc + 4) = .ok (.ldc 89, 2)) (d6 : decode cc (pc + 6) = .ok (.invokespecial 91, 3)) (d9 : decode cc (pc + 9) = .ok (.athrow, 1)) : W p l e R s m args below meth c H locs 0 0 Q (F0 m pc ls rest) := by
  subst hQ
  intro T hT X
  have htr : e.platform.stackTraces = false := (show e.platform.stackTraces = l.stackTraces by rw [X.admits.platform]).trans hlt
  have Y := vx_rebase X (R' := { frames := R.frames, locals := R.locals, cells := 1, slots := 8 }) (Nat.le_refl _) (Nat.le_refl _) hRc hRs
  obtain ⟨s', hA⟩ : ∃ z, z = (T.setVm s.vm).setFrames (.invoking m args :: below) := ⟨_, rfl⟩
  rw [← hA] at Y
  have hvm : s'.vm = s.vm := by rw [hA]; rfl
  have hhp : s'.heap = H := by rw [hA]; exact hT
  have hW0 : s.WarmedH s'.vm := by rw [hvm]; exact State.WarmedH.refl s
  have hat' : ∀ w ∈ (tn_at RX5 91).filter vx_no, w.before args s' = true := fun w hw => vx_ot_at hW0 hvm.symm (x_ot_P w (List.mem_cons_of_mem _ (List.mem_cons_of_mem _ hw))) (hat_P htH hX.2.2.2.2.2.2 w hw)
  have hk' : (Cond.classLink RX5 87 eP1).before args s' = true := vx_ot_at hW0 hvm.symm (x_ot_P _ List.mem_cons_self) hk
  have hini' : (Cond.initialized eP1).before args s' = true := vx_ot_at hW0 hvm.symm (x_ot_P _ (List.mem_cons_of_mem _ List.mem_cons_self)) hini
  have hU' : vx_Zq Bundle.tN "UNASSIGNED_STACK" Bundle.steD A s' s'.heap := by rw [hhp]; exact vx_Zq.moved hW0.alike (hX.1.kept hS.2.1)
  have hN' : vx_Zq Bundle.tN "SUPPRESSED_SENTINEL" Bundle.listD A s' s'.heap := by rw [hhp]; exact vx_Zq.moved hW0.alike (hX.2.1.kept hS.2.1)
  have h : ∀ w ∈ tn_at RX5 91, w.before args s' = true := vx_own hat' (vx_isRefq hU'.1) (vx_isRefq hN'.1) hU'.2.word hN'.2.word
  have hown' : s'.vm.findClass RX5 = some m.cls := by rw [hvm]; exact hown
  have hins : (Cond.instantiable eP1 8).before args s' = true := h (.instantiable Bundle.nN 8) (by simp [tn_at])
  obtain ⟨vm₁, cX, kX', hfX, hkX, -, -, X₁, st1⟩ := Y.newCold hx (own := RX5) (C := eP1) (index := 87) (n := 8) hown' hk' hins hini' (g := F0 m pc ls rest) rfl (by rw [hb]; exact d0) (Nat.le_refl _) (Nat.le_refl _)
  generalize hT1 : (T.setVm vm₁).pushCell { cls := cX, slots := kX'.instanceTypes.map defaultValue, vm := .none } = T1 at X₁ st1
  have hcat : (Value.ref T.heap.size).category = 1 := rfl
  have hcellA : T1.heap[T.heap.size]? = some (freshCell cX kX') := by rw [← hT1]; exact State.heap_pushCell_size _ _
  have d3' : decode c.code (pc + 3) = .ok (.dup, 1) := by rw [hb]; exact d3
  have d4' : decode c.code (pc + 4) = .ok (.ldc 89, 2) := by rw [hb]; exact d4
  have hstr' : vk_R RX5 89 "the place has no point" (sa 3) s' := vk_R.warm hW0 hX.2.2.2.2.2.1
  obtain ⟨U, hsteps, hrun, hend, hW, hsame, ce, hce, hcc, hcv⟩ := tn_throw X₁ hx htr (own := RX5) (ic := 91) hown' h (fun x hx => nomatch hx) hfX hkX hcellA (by rw [hhp, hT]; exact Nat.le_refl _) (msg := .ref (sa 3)) rfl
    (g := { method := m, pc := pc + 6, locals := ls, stack := .ref (sa 3) :: .ref T.heap.size :: .ref T.heap.size :: rest, locked := none }) rfl hsize rfl rfl (rest := rest) rfl
    (by rw [hb]; exact d6) (by rw [hb]; exact d9) (fun x h9 => (htab x h9).elim) (by show 6 < R.frames; omega) (by simp only [List.map_cons, List.sum_cons, hcat]; show 2 * 0 + _ + 95 ≤ R.locals; omega) hlk
  obtain ⟨f1, f2⟩ := vx_frame hsame
  rw [hhp] at f1 f2
  have hWs : s.WarmedH U.vm := State.WarmedH.trans hW0 hW
  have hcl : s.vm.findClass eP1 = some ce.cls := by
    have h9 := hfX
    rw [hvm] at h9
    rw [hcc]; exact h9
  have hall : s.sameButNew ({ U with vm := s.vm } : State) locs 1 8 := by
    subst hA
    obtain ⟨e1, e2⟩ := hsame
    rw [State.setFrames_setFrames] at e1
    have h2 : (T.setVm s.vm).sameButNew ({ U with vm := s.vm } : State) [] (0 + 1) (0 + 8) := ⟨e1, e2⟩
    have h3 := X.same.trans h2
    rw [List.append_nil] at h3
    exact h3.mono (by decide) (by decide)
  refine ⟨U, ?_, .threw T.heap.size, hrun, hend, Or.inr ⟨T.heap.size, rfl, eP1, ce, locs, ⟨(), trivial, ⟨Or.inr ⟨rfl, hE⟩, hP.kept (fun k q h => f2 q.1 (hP k q h).lt (fun z hz => nomatch hz))⟩, ⟨Nat.le_trans hS.1 f1, fun q h1 h2 => by rw [f2 q (Nat.lt_of_lt_of_le h1 hS.1) (fun z hz => nomatch hz)]; exact hS.2.1 q h1 h2⟩⟩, hce, hcv, hcl, hWs, hall, hS.2.2⟩⟩
  refine st1 _ ?_
  show Steps p.tables e below (T1.setTop { method := m, pc := pc + 3, locals := ls, stack := .ref T.heap.size :: rest, locked := none }) _
  jvm_step X₁.here [X₁.here.top, hx, d3', Value.category]
  exact X₁.ldcString hx (own := RX5) (text := "the place has no point") (index := 89) (a := sa 3) hown' hstr'.1 hstr'.2
    (g := { method := m, pc := pc + 4, locals := ls, stack := .ref T.heap.size :: .ref T.heap.size :: rest, locked := none }) rfl d4' _ hsteps
