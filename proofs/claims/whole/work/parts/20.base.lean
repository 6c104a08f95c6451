/-! base: worlds, what the tables say, pure calls and ends -/
section BS
variable {p : Program} {l : Launch} {e : Env} {R : Room} {s : State} {m : MethodId} {args : Array Value} {below : List Frame} {meth : Method} {c : Code} {H : Heap} {locs : List Loc} {cells slots : Nat} {Q : State → Prop}
variable {pc : Nat} {ls : Array Slot} {rest st0 : List Value} {a : Array Value} {A0 : Nat → Prop} {H0 : Heap} {D : va_G} {ws : va_W}
abbrev pNo : Nat → Prop := fun _ => False
abbrev pQi (r0 : Int32) : Array Value → State → Outcome → State → Prop := va_Qi (fun (r : Int32) (_ : Unit) => r = r0) (fun _ _ => True) pNo
abbrev pQl (r0 : Int64) : Array Value → State → Outcome → State → Prop := va_Ql (fun (r : Int64) (_ : Unit) => r = r0) (fun _ _ => True) pNo
abbrev pQf (r0 : UInt32) : Array Value → State → Outcome → State → Prop := va_Qf (fun (r : UInt32) (_ : Unit) => r = r0) (fun _ _ => True) pNo
/-- the addresses of a world -/
def wA (ws : va_W) : Nat → Prop := fun q => ∃ (k : Nat) (x : va_E), ws[k]? = some (q, x)
abbrev wQi (D : va_G) (A : Nat → Prop) (ws1 : va_W) (r0 : Int32) : Array Value → State → Outcome → State → Prop := va_Qi (fun (r : Int32) (_ : Unit) => r = r0) (fun _ t => va_P D vwCl ws1 t.heap) A
abbrev wQl (D : va_G) (A : Nat → Prop) (ws1 : va_W) (r0 : Int64) : Array Value → State → Outcome → State → Prop := va_Ql (fun (r : Int64) (_ : Unit) => r = r0) (fun _ t => va_P D vwCl ws1 t.heap) A
abbrev wQv (D : va_G) (A : Nat → Prop) (ws1 : va_W) : Array Value → State → Outcome → State → Prop := va_Qv (fun (_ : Unit) => True) (fun _ t => va_P D vwCl ws1 t.heap) A
/-- what the tables say: classes, array classes, the two links between nest mates -/
def kK (D : va_G) (tys : List (ClassId × FieldType)) (U : State) : Prop := va_K D vwCl tys U ∧ va_Nw (.methodLinkNest RX2 33 yX5_signOf "OrderJudge") U ∧ va_Nw (.methodLinkNest RX5 9 yX2_init "OrderJudge") U
theorem kK.call {tys : List (ClassId × FieldType)} {U : State} {g : JFrame} {mk : MethodId} {a : Array Value} (h : kK D tys U) : kK D tys (U.calling g mk a) := ⟨va_K.moved (u := U) (U := U.calling g mk a) (Vm.Alike.refl U.vm) h.1, va_Nw.same rfl rfl h.2.1, va_Nw.same rfl rfl h.2.2⟩
theorem kK.warm {tys : List (ClassId × FieldType)} {U : State} (hW : s.WarmedH U.vm) (h : kK D tys s) : kK D tys U := ⟨va_K.moved hW.alike h.1, va_Nw.warmM hW h.2.1, va_Nw.warmM hW h.2.2⟩
/-- a method's start: the world, the tables -/
abbrev pPc (D : va_G) (tys : List (ClassId × FieldType)) (ws : va_W) (av : List Value) : Array Value → State → Prop := va_Pc av (fun U => va_P D vwCl ws U.heap ∧ kK D tys U)
/-- .. of one that writes: its cells are apart -/
abbrev wPc (D : va_G) (tys : List (ClassId × FieldType)) (ws : va_W) (av : List Value) : Array Value → State → Prop := va_Pc av (fun U => va_P D vwCl ws U.heap ∧ kK D tys U ∧ va_D (fun _ => True) ws)
/-- .. of one that needs no world -/
abbrev nPc (av : List Value) : Array Value → State → Prop := va_Pc av (fun _ => True)
theorem pPcV {tys : List (ClassId × FieldType)} {As : List Value} {b ci q0 N : Nat} {C : String} {T : u_T} {fs : List Value} (hK : kK D tys s) (hP : va_P D vwCl ws H) (hc : vwCl[ci]? = some (C, T, N)) (he : ws[q0]? = some (b, .inr (ci, fs))) : PreV s H C b (pPc D tys ws (.ref b :: As)) As :=
  ⟨fun a U g mk q => ⟨q.1, q.2.1, q.2.2.call⟩, va_recv hK.1 hP hc he, fun U hU hW => ⟨rfl, by rw [hU]; exact hP, hK.warm hW⟩⟩
theorem wPcV {tys : List (ClassId × FieldType)} {As : List Value} {b ci q0 N : Nat} {C : String} {T : u_T} {fs : List Value} {A : Nat → Prop} (hK : kK D tys s) (hP : va_P D vwCl ws H) (hD : va_D A ws) (hc : vwCl[ci]? = some (C, T, N)) (he : ws[q0]? = some (b, .inr (ci, fs))) : PreV s H C b (wPc D tys ws (.ref b :: As)) As :=
  ⟨fun a U g mk q => ⟨q.1, q.2.1, q.2.2.1.call, q.2.2.2⟩, va_recv hK.1 hP hc he, fun U hU hW => ⟨rfl, by rw [hU]; exact hP, hK.warm hW, ⟨hD.1, fun _ _ _ => trivial⟩⟩⟩
theorem nPcS {As : List Value} : PreS s H (nPc As) As := ⟨fun a U g mk q => q, fun U hU hW => ⟨rfl, trivial⟩⟩
theorem nPcV {As : List Value} {b ci q0 N : Nat} {C : String} {T : u_T} {fs : List Value} {tys : List (ClassId × FieldType)} (hK : kK D tys s) (hP : va_P D vwCl ws H) (hc : vwCl[ci]? = some (C, T, N)) (he : ws[q0]? = some (b, .inr (ci, fs))) : PreV s H C b (nPc (.ref b :: As)) As :=
  ⟨fun a U g mk q => q, va_recv hK.1 hP hc he, fun U hU hW => ⟨rfl, trivial⟩⟩
theorem cp_i {r0 : Int32} (hr : va_Run p l e R s m args below meth c H locs cells slots 0 0 (F0 m pc ls st0) rest (pQi r0 a) pNo) (hP : va_P D vwCl ws H) (hS : va_S A0 H0 H locs)
    (kk : ∀ H1 : Heap, va_P D vwCl ws H1 → va_S A0 H0 H1 locs → W p l e R s m args below meth c H1 locs cells slots Q (F0 m (pc + 3) ls (.int r0 :: rest))) : W p l e R s m args below meth c H locs cells slots Q (F0 m pc ls st0) := by
  intro T hT X
  obtain ⟨v, st₀, t, T', L, h0, X', hL, e1, e2, ⟨⟨r, u, hv, hp, hb⟩, hz, hk⟩, st⟩ := hr T hT X
  cases hv
  cases hp
  rw [h0] at hz hk
  have hL0 : L = [] := List.eq_nil_iff_forall_not_mem.mpr (fun q h => hL q h)
  subst hL0
  rw [List.append_nil] at X'
  have hk' : ∀ q : Nat, q < H.size → T'.heap[q]? = H[q]? := fun q h => by rw [e1]; exact hk q h (fun z => z)
  obtain ⟨t2, a1, b1⟩ := kk T'.heap (hP.kept (fun k q h => hk' q.1 (hP k q h).lt)) ⟨Nat.le_trans hS.1 (by rw [e1]; exact hz), fun q h1 h2 => by rw [hk' q (Nat.lt_of_lt_of_le h1 hS.1)]; exact hS.2.1 q h1 h2, hS.2.2⟩ T' rfl X'
  exact ⟨t2, st t2 a1, b1⟩
theorem cp_l {r0 : Int64} (hr : va_Run p l e R s m args below meth c H locs cells slots 0 0 (F0 m pc ls st0) rest (pQl r0 a) pNo) (hP : va_P D vwCl ws H) (hS : va_S A0 H0 H locs)
    (kk : ∀ H1 : Heap, va_P D vwCl ws H1 → va_S A0 H0 H1 locs → W p l e R s m args below meth c H1 locs cells slots Q (F0 m (pc + 3) ls (.long r0 :: rest))) : W p l e R s m args below meth c H locs cells slots Q (F0 m pc ls st0) := by
  intro T hT X
  obtain ⟨v, st₀, t, T', L, h0, X', hL, e1, e2, ⟨⟨r, u, hv, hp, hb⟩, hz, hk⟩, st⟩ := hr T hT X
  cases hv
  cases hp
  rw [h0] at hz hk
  have hL0 : L = [] := List.eq_nil_iff_forall_not_mem.mpr (fun q h => hL q h)
  subst hL0
  rw [List.append_nil] at X'
  have hk' : ∀ q : Nat, q < H.size → T'.heap[q]? = H[q]? := fun q h => by rw [e1]; exact hk q h (fun z => z)
  obtain ⟨t2, a1, b1⟩ := kk T'.heap (hP.kept (fun k q h => hk' q.1 (hP k q h).lt)) ⟨Nat.le_trans hS.1 (by rw [e1]; exact hz), fun q h1 h2 => by rw [hk' q (Nat.lt_of_lt_of_le h1 hS.1)]; exact hS.2.1 q h1 h2, hS.2.2⟩ T' rfl X'
  exact ⟨t2, st t2 a1, b1⟩
theorem cp_f {r0 : UInt32} (hr : va_Run p l e R s m args below meth c H locs cells slots 0 0 (F0 m pc ls st0) rest (pQf r0 a) pNo) (hP : va_P D vwCl ws H) (hS : va_S A0 H0 H locs)
    (kk : ∀ H1 : Heap, va_P D vwCl ws H1 → va_S A0 H0 H1 locs → W p l e R s m args below meth c H1 locs cells slots Q (F0 m (pc + 3) ls (.float r0 :: rest))) : W p l e R s m args below meth c H locs cells slots Q (F0 m pc ls st0) := by
  intro T hT X
  obtain ⟨v, st₀, t, T', L, h0, X', hL, e1, e2, ⟨⟨r, u, hv, hp, hb⟩, hz, hk⟩, st⟩ := hr T hT X
  cases hv
  cases hp
  rw [h0] at hz hk
  have hL0 : L = [] := List.eq_nil_iff_forall_not_mem.mpr (fun q h => hL q h)
  subst hL0
  rw [List.append_nil] at X'
  have hk' : ∀ q : Nat, q < H.size → T'.heap[q]? = H[q]? := fun q h => by rw [e1]; exact hk q h (fun z => z)
  obtain ⟨t2, a1, b1⟩ := kk T'.heap (hP.kept (fun k q h => hk' q.1 (hP k q h).lt)) ⟨Nat.le_trans hS.1 (by rw [e1]; exact hz), fun q h1 h2 => by rw [hk' q (Nat.lt_of_lt_of_le h1 hS.1)]; exact hS.2.1 q h1 h2, hS.2.2⟩ T' rfl X'
  exact ⟨t2, st t2 a1, b1⟩
/-- a pure call where no world is at hand -/
theorem cn_i {r0 : Int32} (hr : va_Run p l e R s m args below meth c H locs cells slots 0 0 (F0 m pc ls st0) rest (pQi r0 a) pNo) (hS : va_S A0 H0 H locs)
    (kk : ∀ H1 : Heap, va_S A0 H0 H1 locs → W p l e R s m args below meth c H1 locs cells slots Q (F0 m (pc + 3) ls (.int r0 :: rest))) : W p l e R s m args below meth c H locs cells slots Q (F0 m pc ls st0) :=
  cp_i (D := (fun _ => 0, fun _ _ => 0)) (ws := []) hr (fun k q h => by simp at h) hS (fun H1 _ h => kk H1 h)
/-- a call of one that writes: A1 are its own cells -/
theorem va_D.addr {A : Nat → Prop} {w1 : va_W} (h : va_D A ws) (e : w1.map Prod.fst = ws.map Prod.fst) : va_D A w1 := by
  have key : ∀ (k : Nat) (q : Nat × va_E), w1[k]? = some q → ∃ q', ws[k]? = some q' ∧ q'.1 = q.1 := by
    intro k q hq
    have h1 : (w1.map Prod.fst)[k]? = some q.1 := by rw [List.getElem?_map, hq]; rfl
    rw [e, List.getElem?_map] at h1
    cases hw : ws[k]? with
    | none => rw [hw] at h1; cases h1
    | some q' => rw [hw] at h1; exact ⟨q', rfl, Option.some.inj h1⟩
  refine ⟨fun i j p q hi hj e1 => ?_, fun k q hk => ?_⟩
  · obtain ⟨p', hp', e2⟩ := key i p hi
    obtain ⟨q', hq', e3⟩ := key j q hj
    exact h.1 i j p' q' hp' hq' (by rw [e2, e3, e1])
  · obtain ⟨q', hq', e3⟩ := key k q hk
    rw [← e3]
    exact h.2 k q' hq'
theorem wA.sub {A : Nat → Prop} (h : va_D A ws) : ∀ q, wA ws q → A q := fun q ⟨k, x, hk⟩ => h.2 k (q, x) hk
theorem cw_i {r0 : Int32} {ws1 : va_W} {A1 : Nat → Prop} (hr : va_Run p l e R s m args below meth c H locs cells slots 0 0 (F0 m pc ls st0) rest (wQi D A1 ws1 r0 a) A1) (hA : ∀ q, A1 q → A0 q) (hS : va_S A0 H0 H locs)
    (kk : ∀ (H1 : Heap) (locs1 : List Loc), va_P D vwCl ws1 H1 → (∀ q : Nat, q < H.size → ¬ A1 q → H1[q]? = H[q]?) → va_S A0 H0 H1 locs1 → W p l e R s m args below meth c H1 locs1 cells slots Q (F0 m (pc + 3) ls (.int r0 :: rest))) : W p l e R s m args below meth c H locs cells slots Q (F0 m pc ls st0) := by
  refine va_calli hr hS (fun q _ h => hA q h) hA (fun r u t H1 locs1 ht hvm hw hB hz1 hk1 hS1 => ?_)
  cases hw
  rw [ht] at hB
  exact kk H1 locs1 hB hk1 hS1
theorem cw_l {r0 : Int64} {ws1 : va_W} {A1 : Nat → Prop} (hr : va_Run p l e R s m args below meth c H locs cells slots 0 0 (F0 m pc ls st0) rest (wQl D A1 ws1 r0 a) A1) (hA : ∀ q, A1 q → A0 q) (hS : va_S A0 H0 H locs)
    (kk : ∀ (H1 : Heap) (locs1 : List Loc), va_P D vwCl ws1 H1 → (∀ q : Nat, q < H.size → ¬ A1 q → H1[q]? = H[q]?) → va_S A0 H0 H1 locs1 → W p l e R s m args below meth c H1 locs1 cells slots Q (F0 m (pc + 3) ls (.long r0 :: rest))) : W p l e R s m args below meth c H locs cells slots Q (F0 m pc ls st0) := by
  refine va_calll hr hS (fun q _ h => hA q h) hA (fun r u t H1 locs1 ht hvm hw hB hz1 hk1 hS1 => ?_)
  cases hw
  rw [ht] at hB
  exact kk H1 locs1 hB hk1 hS1
theorem cw_v {ws1 : va_W} {A1 : Nat → Prop} (hr : va_Run p l e R s m args below meth c H locs cells slots 0 0 (F0 m pc ls st0) rest (wQv D A1 ws1 a) A1) (hA : ∀ q, A1 q → A0 q) (hS : va_S A0 H0 H locs)
    (kk : ∀ (H1 : Heap) (locs1 : List Loc), va_P D vwCl ws1 H1 → (∀ q : Nat, q < H.size → ¬ A1 q → H1[q]? = H[q]?) → va_S A0 H0 H1 locs1 → W p l e R s m args below meth c H1 locs1 cells slots Q (F0 m (pc + 3) ls rest)) : W p l e R s m args below meth c H locs cells slots Q (F0 m pc ls st0) := by
  refine va_callv hr hS (fun q _ h => hA q h) hA (fun u t H1 locs1 ht hvm hw hB hz1 hk1 hS1 => ?_)
  rw [ht] at hB
  exact kk H1 locs1 hB hk1 hS1
/-- ends -/
theorem rp_i {cc : ByteArray} {v r0 : Int32} (hQ : Q = MQ below (pQi r0) args s 0 0 pNo) (hx : p.tables.exec = Jvm.exec) (hb : c.code = cc) (hr : meth.sig.returnType = some .int) (hlk : meth.locks = false) (hS : va_S pNo s.heap H locs) (ev : v = r0) (hdg : decode cc pc = .ok (.ireturn, 1)) : W p l e R s m args below meth c H locs 0 0 Q (F0 m pc ls [.int v]) := by
  subst hQ
  exact W.iret hx hb hr (fun t ht hW => ⟨⟨v, (), rfl, ev, trivial⟩, hS.F ht⟩) hS.2.2 hdg hlk
theorem rp_z {cc : ByteArray} {v r0 : Int32} (hQ : Q = MQ below (pQi r0) args s 0 0 pNo) (hx : p.tables.exec = Jvm.exec) (hb : c.code = cc) (hr : meth.sig.returnType = some .boolean) (hlk : meth.locks = false) (hS : va_S pNo s.heap H locs) (ev : v = r0) (hn : narrow .boolean (.int v) = .int v) (hdg : decode cc pc = .ok (.ireturn, 1)) : W p l e R s m args below meth c H locs 0 0 Q (F0 m pc ls [.int v]) := by
  subst hQ
  exact W.zret hx hb hr hn (fun t ht hW => ⟨⟨v, (), rfl, ev, trivial⟩, hS.F ht⟩) hS.2.2 hdg hlk
theorem rp_l {cc : ByteArray} {v r0 : Int64} (hQ : Q = MQ below (pQl r0) args s 0 0 pNo) (hx : p.tables.exec = Jvm.exec) (hb : c.code = cc) (hr : meth.sig.returnType = some .long) (hlk : meth.locks = false) (hS : va_S pNo s.heap H locs) (ev : v = r0) (hdg : decode cc pc = .ok (.lreturn, 1)) : W p l e R s m args below meth c H locs 0 0 Q (F0 m pc ls [.long v]) := by
  subst hQ
  exact W.lret hx hb hr (fun t ht hW => ⟨⟨v, (), rfl, ev, trivial⟩, hS.F ht⟩) hS.2.2 hdg hlk
theorem rp_f {cc : ByteArray} {v r0 : UInt32} (hQ : Q = MQ below (pQf r0) args s 0 0 pNo) (hx : p.tables.exec = Jvm.exec) (hb : c.code = cc) (hr : meth.sig.returnType = some .float) (hlk : meth.locks = false) (hS : va_S pNo s.heap H locs) (ev : v = r0) (hdg : decode cc pc = .ok (.freturn, 1)) : W p l e R s m args below meth c H locs 0 0 Q (F0 m pc ls [.float v]) := by
  subst hQ
  exact W.fret hx hb hr (fun t ht hW => ⟨⟨v, (), rfl, ev, trivial⟩, hS.F ht⟩) hS.2.2 hdg hlk
theorem rw_i {cc : ByteArray} {v r0 : Int32} {A : Nat → Prop} {ws1 : va_W} (hQ : Q = MQ below (wQi D A ws1 r0) args s 0 0 A) (hx : p.tables.exec = Jvm.exec) (hb : c.code = cc) (hr : meth.sig.returnType = some .int) (hlk : meth.locks = false) (hP : va_P D vwCl ws1 H) (hS : va_S A s.heap H locs) (ev : v = r0) (hdg : decode cc pc = .ok (.ireturn, 1)) : W p l e R s m args below meth c H locs 0 0 Q (F0 m pc ls [.int v]) := by
  subst hQ
  exact W.iret hx hb hr (fun t ht hW => ⟨⟨v, (), rfl, ev, by subst ht; exact hP⟩, hS.F ht⟩) hS.2.2 hdg hlk
theorem rw_l {cc : ByteArray} {v r0 : Int64} {A : Nat → Prop} {ws1 : va_W} (hQ : Q = MQ below (wQl D A ws1 r0) args s 0 0 A) (hx : p.tables.exec = Jvm.exec) (hb : c.code = cc) (hr : meth.sig.returnType = some .long) (hlk : meth.locks = false) (hP : va_P D vwCl ws1 H) (hS : va_S A s.heap H locs) (ev : v = r0) (hdg : decode cc pc = .ok (.lreturn, 1)) : W p l e R s m args below meth c H locs 0 0 Q (F0 m pc ls [.long v]) := by
  subst hQ
  exact W.lret hx hb hr (fun t ht hW => ⟨⟨v, (), rfl, ev, by subst ht; exact hP⟩, hS.F ht⟩) hS.2.2 hdg hlk
theorem rw_v {cc : ByteArray} {A : Nat → Prop} {ws1 : va_W} (hQ : Q = MQ below (wQv D A ws1) args s 0 0 A) (hx : p.tables.exec = Jvm.exec) (hb : c.code = cc) (hr : meth.sig.returnType = none) (hlk : meth.locks = false) (hP : va_P D vwCl ws1 H) (hS : va_S A s.heap H locs) (hdg : decode cc pc = .ok (.return_, 1)) : W p l e R s m args below meth c H locs 0 0 Q (F0 m pc ls []) := by
  subst hQ
  exact W.vret hx hb hr (fun t ht hW => ⟨⟨(), rfl, trivial, by subst ht; exact hP⟩, hS.F ht⟩) hS.2.2 hdg hlk
end BS
/-- a pure method's body gives its contract -/
theorem pm_of {l : Launch} {y : MethodName} {rm : Room} {D : va_G} {tys : List (ClassId × FieldType)} {ws : va_W} {av : List Value} {Qc : Array Value → State → Outcome → State → Prop} {cc : ByteArray} {maxL : Nat} {ret : Option FieldType} (hy : plainName y.cls = true) (hlen : (lg_sl av).length ≤ maxL)
    (body : ∀ (p : Program) (e : Env) (s : State) (m : MethodId) (args : Array Value) (below : List Frame) (meth : Method) (c : Code) (Q : State → Prop) (ls : Array Slot), Q = MQ below Qc args s 0 0 pNo → p.tables.exec = Jvm.exec → c.code = cc → meth.sig.returnType = ret → meth.locks = false → c.maxLocals = maxL → s.vm.findClass y.cls = some m.cls → (∀ w ∈ lw_G, w.before args s = true) → va_P D vwCl ws s.heap → kK D tys s → va_S pNo s.heap s.heap [] → lv_has ls maxL (lv_args 0 av) → W p l e rm s m args below meth c s.heap [] 0 0 Q (F0 m 0 ls [])) : Met l y (Cond.code y cc maxL ret :: lw_G) rm (pPc D tys ws av) Qc 0 0 pNo := by
  refine Met.ofW (cc := cc) (maxL := maxL) (ret := ret) hy rfl ?_
  intro p e s m args below meth c s₁ B hml hv
  obtain ⟨rfl, hP, hK⟩ := hv
  rw [lg_entry_eq]
  exact body p e s m _ below meth c _ _ rfl B.exec B.bytes B.returns B.notSynchronized hml (findClass_of_methodNamed B.named) (fun w h => atoms_spec (ws := Cond.code y cc maxL ret :: lw_G) B.pre w (List.mem_cons_of_mem _ h)) hP hK va_S.rf (lv_entry av hlen)
theorem nm_of {l : Launch} {y : MethodName} {rm : Room} {av : List Value} {Qc : Array Value → State → Outcome → State → Prop} {cc : ByteArray} {maxL : Nat} {ret : Option FieldType} (hy : plainName y.cls = true) (hlen : (lg_sl av).length ≤ maxL)
    (body : ∀ (p : Program) (e : Env) (s : State) (m : MethodId) (args : Array Value) (below : List Frame) (meth : Method) (c : Code) (Q : State → Prop) (ls : Array Slot), Q = MQ below Qc args s 0 0 pNo → p.tables.exec = Jvm.exec → c.code = cc → meth.sig.returnType = ret → meth.locks = false → c.maxLocals = maxL → s.vm.findClass y.cls = some m.cls → (∀ w ∈ lw_G, w.before args s = true) → va_S pNo s.heap s.heap [] → lv_has ls maxL (lv_args 0 av) → W p l e rm s m args below meth c s.heap [] 0 0 Q (F0 m 0 ls [])) : Met l y (Cond.code y cc maxL ret :: lw_G) rm (nPc av) Qc 0 0 pNo := by
  refine Met.ofW (cc := cc) (maxL := maxL) (ret := ret) hy rfl ?_
  intro p e s m args below meth c s₁ B hml hv
  obtain ⟨rfl, -⟩ := hv
  rw [lg_entry_eq]
  exact body p e s m _ below meth c _ _ rfl B.exec B.bytes B.returns B.notSynchronized hml (findClass_of_methodNamed B.named) (fun w h => atoms_spec (ws := Cond.code y cc maxL ret :: lw_G) B.pre w (List.mem_cons_of_mem _ h)) va_S.rf (lv_entry av hlen)
theorem wm_of {l : Launch} {y : MethodName} {rm : Room} {D : va_G} {tys : List (ClassId × FieldType)} {ws : va_W} {av : List Value} {Qc : Array Value → State → Outcome → State → Prop} {cc : ByteArray} {maxL : Nat} {ret : Option FieldType} (hy : plainName y.cls = true) (hlen : (lg_sl av).length ≤ maxL)
    (body : ∀ (p : Program) (e : Env) (s : State) (m : MethodId) (args : Array Value) (below : List Frame) (meth : Method) (c : Code) (Q : State → Prop) (ls : Array Slot), Q = MQ below Qc args s 0 0 (wA ws) → p.tables.exec = Jvm.exec → c.code = cc → meth.sig.returnType = ret → meth.locks = false → c.maxLocals = maxL → s.vm.findClass y.cls = some m.cls → (∀ w ∈ lw_G, w.before args s = true) → va_P D vwCl ws s.heap → kK D tys s → va_D (wA ws) ws → va_S (wA ws) s.heap s.heap [] → lv_has ls maxL (lv_args 0 av) → W p l e rm s m args below meth c s.heap [] 0 0 Q (F0 m 0 ls [])) : Met l y (Cond.code y cc maxL ret :: lw_G) rm (wPc D tys ws av) Qc 0 0 (wA ws) := by
  refine Met.ofW (cc := cc) (maxL := maxL) (ret := ret) hy rfl ?_
  intro p e s m args below meth c s₁ B hml hv
  obtain ⟨rfl, hP, hK, hD⟩ := hv
  rw [lg_entry_eq]
  exact body p e s m _ below meth c _ _ rfl B.exec B.bytes B.returns B.notSynchronized hml (findClass_of_methodNamed B.named) (fun w h => atoms_spec (ws := Cond.code y cc maxL ret :: lw_G) B.pre w (List.mem_cons_of_mem _ h)) hP hK ⟨hD.1, fun k q h => ⟨k, q.2, h⟩⟩ va_S.rf (lv_entry av hlen)
/-- the class's world: OrderJudge, Points, xs, ys, QuickFilter, Few, Row, places, LineSet, p, q, r, kept -/
abbrev wC (a : Nat → Nat) (cI cJ : ClassId) (xs ys pl kp : Nat → Int32) (lp lq lr : Nat → Int64) (v0 v1 v2 v3 v4 v5 v6 v7 v8 v9 v10 : Int32) : va_W := [(a 0, .inr (9, [.ref (a 1), .ref (a 4), .ref (a 5), .ref (a 6), .ref (a 8)])), (a 1, .inr (6, [.ref (a 2), .ref (a 3), .int v0])), (a 2, .inl (cI, 60, .inl xs)), (a 3, .inl (cI, 60, .inl ys)), (a 4, .inr (7, [.ref (a 1), .int v1, .int v2, .int v3, .int v4])), (a 5, .inr (4, [.ref (a 1)])), (a 6, .inr (8, [.ref (a 1), .ref (a 7), .int v5])), (a 7, .inl (cI, 24, .inl pl)), (a 8, .inr (5, [.ref (a 1), .ref (a 9), .ref (a 10), .ref (a 11), .int v6, .ref (a 12), .int v7, .int v8, .int v9, .int v10])), (a 9, .inl (cJ, 12, .inr (.inl lp))), (a 10, .inl (cJ, 12, .inr (.inl lq))), (a 11, .inl (cJ, 12, .inr (.inl lr))), (a 12, .inl (cI, 12, .inl kp))]
/-- the reference's world: OrderJudgeModel, px, py, row, la, lb, lc -/
abbrev wM (a : Nat → Nat) (cI cJ : ClassId) (xs ys pl : Nat → Int32) (lp lq lr : Nat → Int64) (v0 v1 v2 v3 v4 v5 v6 v7 : Int32) : va_W := [(a 0, .inr (10, [.int v0, .int v1, .ref (a 1), .ref (a 2), .int v2, .ref (a 3), .int v3, .int v4, .int v5, .int v6, .int v7, .ref (a 4), .ref (a 5), .ref (a 6)])), (a 1, .inl (cI, 60, .inl xs)), (a 2, .inl (cI, 60, .inl ys)), (a 3, .inl (cI, 24, .inl pl)), (a 4, .inl (cJ, 12, .inr (.inl lp))), (a 5, .inl (cJ, 12, .inr (.inl lq))), (a 6, .inl (cJ, 12, .inr (.inl lr)))]
abbrev tIJ (cI cJ : ClassId) : List (ClassId × FieldType) := [(cI, .int), (cJ, .long)]
/-! small facts on ints -/
theorem ix_lt {i n : Int32} (h0 : 0 ≤ i) (h : ¬ n ≤ i) (hn : n ≤ 24) : vp_in i 24 := by
  rw [vp_in_iff]
  have h1 : (0 : Int32).toInt ≤ i.toInt := Int32.le_iff_toInt_le.mp h0
  have h2 : i.toInt < n.toInt := by
    have := mt Int32.le_iff_toInt_le.mpr h
    omega
  have h3 : n.toInt ≤ (24 : Int32).toInt := Int32.le_iff_toInt_le.mp hn
  have e0 : (0 : Int32).toInt = 0 := by decide
  have e24 : (24 : Int32).toInt = 24 := by decide
  omega

theorem lp_dec {i n : Int32} {k : Nat} (h : ¬ n ≤ i) (hf : (n.toInt - i.toInt).toNat < k + 1) : (n.toInt - (i + 1).toInt).toNat < k := by
  have h2 : i.toInt < n.toInt := by
    have := mt Int32.le_iff_toInt_le.mpr h
    omega
  have e1 : (i + 1).toInt = i.toInt + 1 := by
    have h3 := Int32.toInt_lt n
    have h4 := Int32.le_toInt i
    rw [Int32.toInt_add, show (1 : Int32).toInt = 1 by decide]
    exact Int.bmod_eq_of_le (by omega) (by omega)
  omega
theorem lp_pos {i n : Int32} (h0 : 0 ≤ i) (h : ¬ n ≤ i) : 0 ≤ i + 1 := by
  have h1 : (0 : Int32).toInt ≤ i.toInt := Int32.le_iff_toInt_le.mp h0
  have e0 : (0 : Int32).toInt = 0 := by decide
  have h2 : i.toInt < n.toInt := by
    have := mt Int32.le_iff_toInt_le.mpr h
    omega
  have e1 : (i + 1).toInt = i.toInt + 1 := by
    have h3 := Int32.toInt_lt n
    have h4 := Int32.le_toInt i
    rw [Int32.toInt_add, show (1 : Int32).toInt = 1 by decide]
    exact Int.bmod_eq_of_le (by omega) (by omega)
  rw [Int32.le_iff_toInt_le, e0, e1]
  omega
theorem lp_fuel {n : Int32} {i : Int32} (h0 : 0 ≤ i) (hn : n ≤ 24) : (n.toInt - i.toInt).toNat < 25 := by
  have h1 : (0 : Int32).toInt ≤ i.toInt := Int32.le_iff_toInt_le.mp h0
  have h3 : n.toInt ≤ (24 : Int32).toInt := Int32.le_iff_toInt_le.mp hn
  have e0 : (0 : Int32).toInt = 0 := by decide
  have e24 : (24 : Int32).toInt = 24 := by decide
  omega
theorem in0_24 : vp_in 0 24 := by rw [vp_in_iff]; decide
theorem in0_60 : vp_in 0 60 := by rw [vp_in_iff]; decide
theorem hv_at {pl : Nat → Int32} {n i : Int32} (hv : ∀ j : Nat, (j : Int) < n.toInt → vp_in (pl j) 60) (h0 : 0 ≤ i) (h : ¬ n ≤ i) : vp_in (pl (Int32.toNatClampNeg i)) 60 := by
  have h1 : (0 : Int32).toInt ≤ i.toInt := Int32.le_iff_toInt_le.mp h0
  have e0 : (0 : Int32).toInt = 0 := by decide
  have h2 : i.toInt < n.toInt := by
    have := mt Int32.le_iff_toInt_le.mpr h
    omega
  refine hv _ ?_
  have e1 : ((Int32.toNatClampNeg i : Nat) : Int) = i.toInt := by
    rw [Int32.toNatClampNeg]
    exact Int.toNat_of_nonneg (by omega)
  omega
theorem so_a {x y n : Int32} (he : 0 ≤ x) (hlt : ¬ n ≤ x) (hs : 0 ≤ y) (hs2 : ¬ n ≤ y) (hn : n ≤ 24) (c : ¬ n ≤ x + y) : 0 ≤ x + y ∧ ¬ n ≤ x + y := by
  refine ⟨?_, c⟩
  rw [Int32.le_iff_toInt_le] at *
  have e0 : (0 : Int32).toInt = 0 := by decide
  have e24 : (24 : Int32).toInt = 24 := by decide
  have e1 : (x + y).toInt = x.toInt + y.toInt := by
    rw [Int32.toInt_add]
    exact Int.bmod_eq_of_le (by omega) (by omega)
  omega
theorem so_b {x y n : Int32} (he : 0 ≤ x) (hlt : ¬ n ≤ x) (hs : 0 ≤ y) (hs2 : ¬ n ≤ y) (hn : n ≤ 24) (c : n ≤ x + y) : 0 ≤ x + y - n ∧ ¬ n ≤ x + y - n := by
  rw [Int32.le_iff_toInt_le] at *
  rw [Int32.le_iff_toInt_le]
  have e0 : (0 : Int32).toInt = 0 := by decide
  have e24 : (24 : Int32).toInt = 24 := by decide
  have e1 : (x + y).toInt = x.toInt + y.toInt := by
    rw [Int32.toInt_add]
    exact Int.bmod_eq_of_le (by omega) (by omega)
  have e2 : (x + y - n).toInt = x.toInt + y.toInt - n.toInt := by
    rw [Int32.toInt_sub, e1]
    exact Int.bmod_eq_of_le (by omega) (by omega)
  omega
theorem ix12 {i n : Int32} (h0 : 0 ≤ i) (h : ¬ n ≤ i) (hn : n ≤ 12) : vp_in i 12 := by
  rw [vp_in_iff]
  have h1 : (0 : Int32).toInt ≤ i.toInt := Int32.le_iff_toInt_le.mp h0
  have h2 : i.toInt < n.toInt := by
    have := mt Int32.le_iff_toInt_le.mpr h
    omega
  have h3 : n.toInt ≤ (12 : Int32).toInt := Int32.le_iff_toInt_le.mp hn
  have e0 : (0 : Int32).toInt = 0 := by decide
  have e12 : (12 : Int32).toInt = 12 := by decide
  omega
theorem ixl12 {i : Int32} (h0 : 0 ≤ i) (h : i < 12) : vp_in i 12 := ix12 h0 (Int32.not_le.mpr h) (Int32.le_refl 12)
theorem ixl60 {i : Int32} (h0 : 0 ≤ i) (h : i < 60) : vp_in i 60 := by
  rw [vp_in_iff]
  have h1 : (0 : Int32).toInt ≤ i.toInt := Int32.le_iff_toInt_le.mp h0
  have h2 : i.toInt < (60 : Int32).toInt := Int32.lt_iff_toInt_lt.mp h
  have e0 : (0 : Int32).toInt = 0 := by decide
  have e60 : (60 : Int32).toInt = 60 := by decide
  omega
theorem hk_at {kp : Nat → Int32} {n i : Int32} (hv : ∀ j : Nat, (j : Int) < n.toInt → vp_in (kp j) 12) (h0 : 0 ≤ i) (h : ¬ n ≤ i) : vp_in (kp (Int32.toNatClampNeg i)) 12 := by
  have h1 : (0 : Int32).toInt ≤ i.toInt := Int32.le_iff_toInt_le.mp h0
  have e0 : (0 : Int32).toInt = 0 := by decide
  have h2 : i.toInt < n.toInt := by
    have := mt Int32.le_iff_toInt_le.mpr h
    omega
  refine hv _ ?_
  have e1 : ((Int32.toNatClampNeg i : Nat) : Int) = i.toInt := by
    rw [Int32.toNatClampNeg]
    exact Int.toNat_of_nonneg (by omega)
  omega
theorem in_1 {i n : Int32} (h : ¬ n ≤ i) : (i + 1).toInt = i.toInt + 1 := by
  have h2 : i.toInt < n.toInt := by
    have := mt Int32.le_iff_toInt_le.mpr h
    omega
  have h3 := Int32.toInt_lt n
  have h4 := Int32.le_toInt i
  rw [Int32.toInt_add, show (1 : Int32).toInt = 1 by decide]
  exact Int.bmod_eq_of_le (by omega) (by omega)
theorem kd_z {kp : Nat → Int32} : ∀ j : Nat, (j : Int) < (0 : Int32).toInt → vp_in (kp j) 12 := fun j h => by
  have e0 : (0 : Int32).toInt = 0 := by decide
  omega
theorem kd_n {v i n : Int32} (g1 : v ≤ i) (c : ¬ n ≤ i) : ¬ n ≤ v := fun h => c (Int32.le_trans h g1)
theorem kd_0 {v i n : Int32} (g0 : 0 ≤ v) (g1 : v ≤ i) (c : ¬ n ≤ i) : 0 ≤ v + 1 := lp_pos g0 (kd_n g1 c)
theorem kd_1 {v i n : Int32} (g1 : v ≤ i) (c : ¬ n ≤ i) : v + 1 ≤ i + 1 := by
  rw [Int32.le_iff_toInt_le, in_1 c, in_1 (kd_n g1 c)]
  have := Int32.le_iff_toInt_le.mp g1
  omega
theorem kd_1' {v i n : Int32} (g1 : v ≤ i) (c : ¬ n ≤ i) : v ≤ i + 1 := by
  rw [Int32.le_iff_toInt_le, in_1 c]
  have := Int32.le_iff_toInt_le.mp g1
  omega
theorem kd_d {v i n : Int32} (g1 : v ≤ i) (c : ¬ n ≤ i) (hp : n ≤ 12) : v ≤ 12 := by
  have h1 := Int32.le_iff_toInt_le.mp g1
  have h2 := mt Int32.le_iff_toInt_le.mpr c
  have h3 := Int32.le_iff_toInt_le.mp hp
  rw [Int32.le_iff_toInt_le]
  omega
theorem kd_2 {kp : Nat → Int32} {v i n : Int32} (g0 : 0 ≤ v) (g1 : v ≤ i) (c : ¬ n ≤ i) (g2 : ∀ j : Nat, (j : Int) < v.toInt → vp_in (kp j) 12) (hI : vp_in i 12) : ∀ j : Nat, (j : Int) < (v + 1).toInt → vp_in (upd kp (Int32.toNatClampNeg v) i j) 12 := by
  intro j hj
  unfold upd
  split
  · exact hI
  · next hne =>
    refine g2 j ?_
    rw [in_1 (kd_n g1 c)] at hj
    have h1 : (0 : Int32).toInt ≤ v.toInt := Int32.le_iff_toInt_le.mp g0
    have e0 : (0 : Int32).toInt = 0 := by decide
    have e1 : ((Int32.toNatClampNeg v : Nat) : Int) = v.toInt := by
      rw [Int32.toNatClampNeg]
      exact Int.toNat_of_nonneg (by omega)
    omega
theorem sw_aux {x : Int32} {k : Int32} (h : ¬ x = k) : x.toInt ≠ k.toInt := fun e => h (Int32.toInt_inj.mp e)
theorem sw_2 {x : Int32} (h0 : ¬ x = 0) (h1 : ¬ x = 1) (h2 : ¬ x = 2) : x.toInt < 0 ∨ 2 < x.toInt := by
  have a0 := sw_aux h0
  have a1 := sw_aux h1
  have a2 := sw_aux h2
  rw [show (0 : Int32).toInt = 0 by decide] at a0
  rw [show (1 : Int32).toInt = 1 by decide] at a1
  rw [show (2 : Int32).toInt = 2 by decide] at a2
  omega
theorem sw_3 {x : Int32} (h0 : ¬ x = 0) (h1 : ¬ x = 1) (h2 : ¬ x = 2) (h3 : ¬ x = 3) : x.toInt < 0 ∨ 3 < x.toInt := by
  have a3 := sw_aux h3
  rw [show (3 : Int32).toInt = 3 by decide] at a3
  have := sw_2 h0 h1 h2
  omega
theorem sw_4 {x : Int32} (h0 : ¬ x = 0) (h1 : ¬ x = 1) (h2 : ¬ x = 2) (h3 : ¬ x = 3) (h4 : ¬ x = 4) : x.toInt < 0 ∨ 4 < x.toInt := by
  have a4 := sw_aux h4
  rw [show (4 : Int32).toInt = 4 by decide] at a4
  have := sw_3 h0 h1 h2 h3
  omega
