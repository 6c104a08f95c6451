/-! what a throwing method needs beside its world -/
abbrev tUn : String := "UNASSIGNED_STACK"
abbrev tSu : String := "SUPPRESSED_SENTINEL"
/-- the words that the tables alone decide, kept from state to state by rows of their own -/
def kZ (U : State) : Prop := va_Nw (dS "java/lang/RuntimeException") U ∧ va_Nw (dS "java/lang/Exception") U ∧ va_Nw (dS "java/lang/Throwable") U ∧ va_Nw (dS "java/lang/IndexOutOfBoundsException") U ∧ va_Nw (.castable eN1 eN1) U ∧ va_Nw (.castable eA1 eA1) U ∧ va_Nw (.castable eR1 eR1) U ∧ va_Nw (.castable eP1 eP1) U ∧ va_Nc eP1 eA1 U
theorem kZ.warm {s U : State} (hW : s.WarmedH U.vm) (h : kZ s) : kZ U := ⟨va_Nw.warmD hW h.1, va_Nw.warmD hW h.2.1, va_Nw.warmD hW h.2.2.1, va_Nw.warmD hW h.2.2.2.1, va_Nw.warmC hW h.2.2.2.2.1, va_Nw.warmC hW h.2.2.2.2.2.1, va_Nw.warmC hW h.2.2.2.2.2.2.1, va_Nw.warmC hW h.2.2.2.2.2.2.2.1, va_Nc.moved hW.alike h.2.2.2.2.2.2.2.2⟩
def kX (A : Nat → Prop) (sa : Nat → Nat) (U : State) (H : Heap) : Prop := vx_Zq Bundle.tN tUn Bundle.steD A U H ∧ vx_Zq Bundle.tN tSu Bundle.listD A U H ∧ vk_R RX5 59 "n is below 0" (sa 0) U ∧ vk_R RX5 77 "no such place" (sa 1) U ∧ vk_R RX5 177 "by is 0" (sa 2) U ∧ vk_R RX5 89 "the place has no point" (sa 3) U ∧ kZ U
theorem kX.at {A B : Nat → Prop} {sa : Nat → Nat} {s U : State} {H0 H : Heap} {locs : List Loc} (h : kX A sa s H0) (hS : va_S A H0 H locs) (hB : ∀ q, B q → A q) (hW : s.WarmedH U.vm) : kX B sa U H := by
  obtain ⟨h1, h2, h3, h4, h5, h6, h7⟩ := h
  exact ⟨((h1.kept hS.2.1).moved hW.alike).narrow hB, ((h2.kept hS.2.1).moved hW.alike).narrow hB, h3.warm hW, h4.warm hW, h5.warm hW, h6.warm hW, h7.warm hW⟩
theorem kX.call {A : Nat → Prop} {sa : Nat → Nat} {U : State} {g : JFrame} {mk : MethodId} {a : Array Value} (h : kX A sa U U.heap) : kX A sa (U.calling g mk a) (U.calling g mk a).heap := kX.at (U := U.calling g mk a) h va_S.rf (fun _ h => h) (State.WarmedH.refl U)
/-- a throwing method's start and ends -/
abbrev xPc (D : va_G) (tys : List (ClassId × FieldType)) (sa : Nat → Nat) (ws : va_W) (av : List Value) : Array Value → State → Prop := va_Pc av (fun U => va_P D vwCl ws U.heap ∧ kK D tys U ∧ va_D (fun _ => True) ws ∧ kX (wA ws) sa U U.heap)
abbrev xQi (D : va_G) (A : Nat → Prop) (ws1 : va_W) (k r0 : Int32) : Array Value → State → Outcome → State → Prop := va_Qi (fun (r : Int32) (_ : Unit) => k = 0 ∧ r = r0) (fun _ t => va_P D vwCl ws1 t.heap) A
abbrev xQl (D : va_G) (A : Nat → Prop) (ws1 : va_W) (k : Int32) (r0 : Int64) : Array Value → State → Outcome → State → Prop := va_Ql (fun (r : Int64) (_ : Unit) => k = 0 ∧ r = r0) (fun _ t => va_P D vwCl ws1 t.heap) A
abbrev xX (D : va_G) (A : Nat → Prop) (ws : va_W) (k : Int32) (E1 E2 : String) : String → State → State → Prop := vx_X (fun (_ : Unit) => True) (fun E _ t => ((E = E1 ∧ k = 1) ∨ (E = E2 ∧ k = 2)) ∧ va_P D vwCl ws t.heap) A
theorem xPcV {D : va_G} {tys : List (ClassId × FieldType)} {sa : Nat → Nat} {ws : va_W} {s : State} {H : Heap} {locs : List Loc} {A : Nat → Prop} {As : List Value} {b ci q0 N : Nat} {C : String} {T : u_T} {fs : List Value} (hK : kK D tys s) (hP : va_P D vwCl ws H) (hD : va_D A ws) (hX : kX A sa s s.heap) (hS : va_S A s.heap H locs) (hc : vwCl[ci]? = some (C, T, N)) (he : ws[q0]? = some (b, .inr (ci, fs))) : PreV s H C b (xPc D tys sa ws (.ref b :: As)) As :=
  ⟨fun a U g mk q => ⟨q.1, q.2.1, q.2.2.1.call, q.2.2.2.1, q.2.2.2.2.call⟩, va_recv hK.1 hP hc he, fun U hU hW => ⟨rfl, by rw [hU]; exact hP, hK.warm hW, ⟨hD.1, fun _ _ _ => trivial⟩, by rw [hU]; exact hX.at hS (wA.sub hD) hW⟩⟩
theorem xm_of {l : Launch} {y : MethodName} {rm : Room} {D : va_G} {tys : List (ClassId × FieldType)} {sa : Nat → Nat} {ws : va_W} {av : List Value} {Qc : Array Value → State → Outcome → State → Prop} {XC : String → State → State → Prop} {cc : ByteArray} {maxL : Nat} {ret : Option FieldType} (hy : plainName y.cls = true) (hlen : (lg_sl av).length ≤ maxL)
    (body : ∀ (p : Program) (e : Env) (s : State) (m : MethodId) (args : Array Value) (below : List Frame) (meth : Method) (c : Code) (Q : State → Prop) (ls : Array Slot), Q = vx_MQ below Qc XC args s 1 8 (wA ws) → p.tables.exec = Jvm.exec → c.code = cc → meth.sig.returnType = ret → meth.locks = false → c.maxLocals = maxL → s.vm.findClass y.cls = some m.cls → (∀ w ∈ lw_H, w.before args s = true) → (∀ x ∈ c.exceptionTable.toList, False) → va_P D vwCl ws s.heap → kK D tys s → va_D (wA ws) ws → kX (wA ws) sa s s.heap → va_S (wA ws) s.heap s.heap [] → lv_has ls maxL (lv_args 0 av) → W p l e rm s m args below meth c s.heap [] 0 0 Q (F0 m 0 ls [])) : vx_Met l y (Cond.code y cc maxL ret :: lw_H) rm (xPc D tys sa ws av) Qc XC 1 8 (wA ws) := by
  refine vx_ofW (cc := cc) (maxL := maxL) (ret := ret) hy rfl ?_
  intro p e s m args below meth c s₁ B hml htab hv
  obtain ⟨rfl, hP, hK, hD, hX⟩ := hv
  rw [lg_entry_eq]
  exact body p e s m _ below meth c _ _ rfl B.exec B.bytes B.returns B.notSynchronized hml (findClass_of_methodNamed B.named) (fun w h => atoms_spec (ws := Cond.code y cc maxL ret :: lw_H) B.pre w (List.mem_cons_of_mem _ h)) htab hP hK ⟨hD.1, fun k q h => ⟨k, q.2, h⟩⟩ hX va_S.rf (lv_entry av hlen)
section XB
variable {p : Program} {l : Launch} {e : Env} {R : Room} {s : State} {m : MethodId} {args : Array Value} {below : List Frame} {meth : Method} {c : Code} {H : Heap} {locs : List Loc} {Q : State → Prop}
variable {pc : Nat} {ls : Array Slot} {rest : List Value} {A : Nat → Prop} {D : va_G} {ws ws1 : va_W}
theorem rx_i {cc : ByteArray} {v k r0 : Int32} {XC : String → State → State → Prop} (hQ : Q = vx_MQ below (xQi D A ws1 k r0) XC args s 1 8 A) (hx : p.tables.exec = Jvm.exec) (hb : c.code = cc) (hr : meth.sig.returnType = some .int) (hlk : meth.locks = false) (hP : va_P D vwCl ws1 H) (hS : va_S A s.heap H locs) (ek : k = 0) (ev : v = r0) (hdg : decode cc pc = .ok (.ireturn, 1)) : W p l e R s m args below meth c H locs 0 0 Q (F0 m pc ls [.int v]) := by
  subst hQ
  refine vx_ret ?_
  refine W.widen (k := 1) (n := 8) (by decide) (by decide) ?_
  exact W.iret hx hb hr (fun t ht hW => ⟨⟨v, (), rfl, ⟨ek, ev⟩, by subst ht; exact hP⟩, hS.F ht⟩) hS.2.2 hdg hlk
theorem rx_l {cc : ByteArray} {v : Int64} {k : Int32} {r0 : Int64} {XC : String → State → State → Prop} (hQ : Q = vx_MQ below (xQl D A ws1 k r0) XC args s 1 8 A) (hx : p.tables.exec = Jvm.exec) (hb : c.code = cc) (hr : meth.sig.returnType = some .long) (hlk : meth.locks = false) (hP : va_P D vwCl ws1 H) (hS : va_S A s.heap H locs) (ek : k = 0) (ev : v = r0) (hdg : decode cc pc = .ok (.lreturn, 1)) : W p l e R s m args below meth c H locs 0 0 Q (F0 m pc ls [.long v]) := by
  subst hQ
  refine vx_ret ?_
  refine W.widen (k := 1) (n := 8) (by decide) (by decide) ?_
  exact W.lret hx hb hr (fun t ht hW => ⟨⟨v, (), rfl, ⟨ek, ev⟩, by subst ht; exact hP⟩, hS.F ht⟩) hS.2.2 hdg hlk
theorem tx {cc : ByteArray} {k : Int32} {E1 E2 cls text : String} {names : List String} {ik is ic sa : Nat} {Qc : Array Value → State → Outcome → State → Prop} (hQ : Q = vx_MQ below Qc (xX D A ws k E1 E2) args s 1 8 A) (hE : (cls = E1 ∧ k = 1) ∨ (cls = E2 ∧ k = 2)) (hx : p.tables.exec = Jvm.exec) (hb : c.code = cc) (hlt : l.stackTraces = false) (hown : s.vm.findClass RX5 = some m.cls) (hcls : Bundle.fit cls = true) (hnames : ∀ n ∈ names, Bundle.fit n = true)
    (hk : (Cond.classLink RX5 ik cls).before args s = true) (hini : (Cond.initialized cls).before args s = true) (hstr : vk_R RX5 is text sa s) (hat : ∀ w ∈ vx_atS RX5 ic cls names, w.before args s = true) (hgood : ∀ w ∈ Cond.classLink RX5 ik cls :: Cond.initialized cls :: vx_atS RX5 ic cls names, vx_ot w = true)
    (hU : vx_Zq Bundle.tN tUn Bundle.steD A s s.heap) (hN : vx_Zq Bundle.tN tSu Bundle.listD A s s.heap) (hS : va_S A s.heap H locs) (hsize : ls.size = c.maxLocals) (hlk : meth.locks = false) (hP : va_P D vwCl ws H) (htab : ∀ x ∈ c.exceptionTable.toList, False)
    (hRf : names.length + 3 < R.frames) (hRl : (rest.map fun v => v.category).sum + (13 * (names.length + 1) + 43) ≤ R.locals) (hRc : 0 + 1 ≤ R.cells) (hRs : 0 + 6 ≤ R.slots)
    (d0 : decode cc pc = .ok (.new ik, 3)) (d3 : decode cc (pc + 3) = .ok (.dup, 1)) (d4 : decode cc (pc + 4) = .ok (.ldc is, 2)) (d6 : decode cc (pc + 6) = .ok (.invokespecial ic, 3)) (d9 : decode cc (pc + 9) = .ok (.athrow, 1)) : W p l e R s m args below meth c H locs 0 0 Q (F0 m pc ls rest) := by
  subst hQ
  exact vx_throwS hx hb hlt hown hcls hnames hk hini hstr hat hgood hU hN hS hsize d0 d3 d4 d6 d9 (fun x h => (htab x h).elim) hRf hRl hRc hRs hlk (fun t hvm hz hk => ⟨(), trivial, ⟨hE, hP.kept (fun k q h => hk q.1 (hP k q h).lt)⟩, ⟨Nat.le_trans hS.1 hz, fun q h1 h2 => by rw [hk q (Nat.lt_of_lt_of_le h1 hS.1)]; exact hS.2.1 q h1 h2⟩⟩) hS.2.2 (by decide) (by decide)
end XB
theorem hat_N {args : Array Value} {s : State} (h : ∀ w ∈ lw_H, w.before args s = true) (z : kZ s) : ∀ w ∈ vx_atS RX5 61 eN1 nR2, w.before args s = true :=
  vx_hat (B := [dS "java/lang/RuntimeException", dS "java/lang/Exception", dS "java/lang/Throwable", .castable eN1 eN1]) (fun w hw => h w (List.mem_append_left _ (List.mem_append_left _ hw))) (fun w hw => by rw [x_no_N] at hw; exact hw) (vx_c (va_Nw.use rfl z.1) (vx_c (va_Nw.use rfl z.2.1) (vx_c (va_Nw.use rfl z.2.2.1) (vx_c (va_Nw.use rfl z.2.2.2.2.1) vx_n))))
theorem hat_A {args : Array Value} {s : State} (h : ∀ w ∈ lw_H, w.before args s = true) (z : kZ s) : ∀ w ∈ vx_atS RX5 79 eA1 nR3, w.before args s = true :=
  vx_hat (B := [dS "java/lang/IndexOutOfBoundsException", dS "java/lang/RuntimeException", dS "java/lang/Exception", dS "java/lang/Throwable", .castable eA1 eA1]) (fun w hw => h w (List.mem_append_left _ (List.mem_append_right _ (List.mem_append_left _ hw)))) (fun w hw => by rw [x_no_A] at hw; exact hw) (vx_c (va_Nw.use rfl z.2.2.2.1) (vx_c (va_Nw.use rfl z.1) (vx_c (va_Nw.use rfl z.2.1) (vx_c (va_Nw.use rfl z.2.2.1) (vx_c (va_Nw.use rfl z.2.2.2.2.2.1) vx_n)))))
theorem hat_R {args : Array Value} {s : State} (h : ∀ w ∈ lw_H, w.before args s = true) (z : kZ s) : ∀ w ∈ vx_atS RX5 179 eR1 nR2, w.before args s = true :=
  vx_hat (B := [dS "java/lang/RuntimeException", dS "java/lang/Exception", dS "java/lang/Throwable", .castable eR1 eR1]) (fun w hw => h w (List.mem_append_left _ (List.mem_append_right _ (List.mem_append_right _ hw)))) (fun w hw => by rw [x_no_R] at hw; exact hw) (vx_c (va_Nw.use rfl z.1) (vx_c (va_Nw.use rfl z.2.1) (vx_c (va_Nw.use rfl z.2.2.1) (vx_c (va_Nw.use rfl z.2.2.2.2.2.2.1) vx_n))))
