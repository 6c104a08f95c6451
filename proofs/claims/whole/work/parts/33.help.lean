/-! the law's helpers: a call that may throw, caught -/
abbrev wO (o : Nat) (cJ : ClassId) (fo : Nat → Int64) : va_W := [(o, .inl (cJ, 1, .inr (.inl fo)))]
def oF (k : Int32) (v : Int64) (fo : Nat → Int64) : Nat → Int64 := if k = 0 then vp_updL fo (Int32.toNatClampNeg 0) v else fo
section JN
variable {D : va_G} {A : Nat → Prop} {w0 w1 w1' w2 : va_W} {H H1 : Heap}
theorem va_P.left (h : va_P D vwCl (w1 ++ w2) H) : va_P D vwCl w1 H := fun k q hk => h k q (by rw [List.getElem?_append_left (List.getElem?_eq_some_iff.mp hk).1]; exact hk)
theorem va_P.right (h : va_P D vwCl (w1 ++ w2) H) : va_P D vwCl w2 H := fun k q hk => h (w1.length + k) q (by rw [List.getElem?_append_right (Nat.le_add_right _ _), Nat.add_sub_cancel_left]; exact hk)
theorem va_D.left (h : va_D A (w1 ++ w2)) : va_D A w1 := by
  have e : ∀ (k : Nat) (q : Nat × va_E), w1[k]? = some q → (w1 ++ w2)[k]? = some q := fun k q hk => by rw [List.getElem?_append_left (List.getElem?_eq_some_iff.mp hk).1]; exact hk
  exact ⟨fun i j p q hi hj => h.1 i j p q (e i p hi) (e j q hj), fun k q hk => h.2 k q (e k q hk)⟩
theorem va_D.right (h : va_D A (w1 ++ w2)) : va_D A w2 := by
  have e : ∀ (k : Nat) (q : Nat × va_E), w2[k]? = some q → (w1 ++ w2)[w1.length + k]? = some q := fun k q hk => by rw [List.getElem?_append_right (Nat.le_add_right _ _), Nat.add_sub_cancel_left]; exact hk
  exact ⟨fun i j p q hi hj e1 => Nat.add_left_cancel (h.1 _ _ p q (e i p hi) (e j q hj) e1), fun k q hk => h.2 _ q (e k q hk)⟩
theorem jn_r (hP : va_P D vwCl (w1 ++ w2) H) (hD : va_D A (w1 ++ w2)) (hk : ∀ q : Nat, q < H.size → ¬ wA w1 q → H1[q]? = H[q]?) : va_P D vwCl w2 H1 := by
  refine hP.right.kept (fun k q h => hk q.1 (hP.right k q h).lt (fun hw => ?_))
  obtain ⟨j, x, hj⟩ := hw
  have hl := (List.getElem?_eq_some_iff.mp hj).1
  have h1 : (w1 ++ w2)[j]? = some (q.1, x) := by rw [List.getElem?_append_left hl]; exact hj
  have h2 : (w1 ++ w2)[w1.length + k]? = some q := by rw [List.getElem?_append_right (Nat.le_add_right _ _), Nat.add_sub_cancel_left]; exact h
  have := hD.1 j (w1.length + k) _ _ h1 h2 rfl
  omega
theorem jn_l (hP : va_P D vwCl (w1 ++ w2) H) (hD : va_D A (w1 ++ w2)) (hk : ∀ q : Nat, q < H.size → ¬ wA w2 q → H1[q]? = H[q]?) : va_P D vwCl w1 H1 := by
  refine hP.left.kept (fun k q h => hk q.1 (hP.left k q h).lt (fun hw => ?_))
  obtain ⟨j, x, hj⟩ := hw
  have hl := (List.getElem?_eq_some_iff.mp h).1
  have h1 : (w1 ++ w2)[k]? = some q := by rw [List.getElem?_append_left hl]; exact h
  have h2 : (w1 ++ w2)[w1.length + j]? = some (q.1, x) := by rw [List.getElem?_append_right (Nat.le_add_right _ _), Nat.add_sub_cancel_left]; exact hj
  have := hD.1 k (w1.length + j) _ _ h1 h2 rfl
  omega
/-- the first block changes -/
theorem jn_1 (hP : va_P D vwCl (w1 ++ w2) H) (hD : va_D A (w1 ++ w2)) (hP1 : va_P D vwCl w1' H1) (hk : ∀ q : Nat, q < H.size → ¬ wA w1 q → H1[q]? = H[q]?) : va_P D vwCl (w1' ++ w2) H1 := hP1.app (jn_r hP hD hk)
/-- the middle block changes -/
theorem jn_2 (hP : va_P D vwCl (w0 ++ (w1 ++ w2)) H) (hD : va_D A (w0 ++ (w1 ++ w2))) (hP1 : va_P D vwCl w1' H1) (hk : ∀ q : Nat, q < H.size → ¬ wA w1 q → H1[q]? = H[q]?) : va_P D vwCl (w0 ++ (w1' ++ w2)) H1 := by
  refine (jn_l hP hD (fun q h1 h2 => hk q h1 (fun hw => h2 ?_))).app (jn_1 hP.right hD.right hP1 hk)
  obtain ⟨j, x, hj⟩ := hw
  exact ⟨j, x, by rw [List.getElem?_append_left (List.getElem?_eq_some_iff.mp hj).1]; exact hj⟩
/-- the last block changes -/
theorem jn_3 (hP : va_P D vwCl (w0 ++ w1) H) (hD : va_D A (w0 ++ w1)) (hP1 : va_P D vwCl w1' H1) (hk : ∀ q : Nat, q < H.size → ¬ wA w1 q → H1[q]? = H[q]?) : va_P D vwCl (w0 ++ w1') H1 := (jn_l hP hD hk).app hP1
end JN
theorem hm_of {l : Launch} {y : MethodName} {rm : Room} {D : va_G} {tys : List (ClassId × FieldType)} {sa : Nat → Nat} {ws : va_W} {av : List Value} {Qc : Array Value → State → Outcome → State → Prop} {cc : ByteArray} {maxL : Nat} {ret : Option FieldType} {hh : List (Nat × Nat × Nat × Nat)} (hy : plainName y.cls = true) (hlen : (lg_sl av).length ≤ maxL)
    (body : ∀ (p : Program) (e : Env) (s : State) (m : MethodId) (args : Array Value) (below : List Frame) (meth : Method) (c : Code) (Q : State → Prop) (ls : Array Slot), Q = MQ below Qc args s 1 8 (wA ws) → p.tables.exec = Jvm.exec → c.code = cc → meth.sig.returnType = ret → meth.locks = false → c.maxLocals = maxL → s.vm.findClass y.cls = some m.cls → (∀ w ∈ lw_H, w.before args s = true) → c.exceptionTable.toList = tableOf hh → va_P D vwCl ws s.heap → kK D tys s → va_D (wA ws) ws → kX (wA ws) sa s s.heap → va_S (wA ws) s.heap s.heap [] → lv_has ls maxL (lv_args 0 av) → W p l e rm s m args below meth c s.heap [] 0 0 Q (F0 m 0 ls [])) : Met l y (Cond.codeWith y cc maxL ret hh :: lw_H) rm (xPc D tys sa ws av) Qc 1 8 (wA ws) := by
  refine va_MetW (cc := cc) (maxL := maxL) (ret := ret) hy rfl ?_
  intro p e s m args below meth c s₁ B hml hv
  obtain ⟨rfl, hP, hK, hD, hX⟩ := hv
  rw [lg_entry_eq]
  have hw := atoms_spec (ws := Cond.codeWith y cc maxL ret hh :: lw_H) B.pre
  exact body p e s m _ below meth c _ _ rfl B.exec B.bytes B.returns B.notSynchronized hml (findClass_of_methodNamed B.named) (fun w h => hw w (List.mem_cons_of_mem _ h)) (vx_table (x := y) B (hw _ List.mem_cons_self)) hP hK ⟨hD.1, fun k q h => ⟨k, q.2, h⟩⟩ hX va_S.rf (lv_entry av hlen)
theorem rh_i {p : Program} {l : Launch} {e : Env} {R : Room} {s : State} {m : MethodId} {args : Array Value} {below : List Frame} {meth : Method} {c : Code} {H : Heap} {locs : List Loc} {Q : State → Prop} {pc : Nat} {ls : Array Slot} {A : Nat → Prop} {D : va_G} {ws1 : va_W} {cc : ByteArray} {v r0 : Int32} (hQ : Q = MQ below (wQi D A ws1 r0) args s 1 8 A) (hx : p.tables.exec = Jvm.exec) (hb : c.code = cc) (hr : meth.sig.returnType = some .int) (hlk : meth.locks = false) (hP : va_P D vwCl ws1 H) (hS : va_S A s.heap H locs) (ev : v = r0) (hdg : decode cc pc = .ok (.ireturn, 1)) : W p l e R s m args below meth c H locs 1 8 Q (F0 m pc ls [.int v]) := by
  subst hQ
  exact W.iret hx hb hr (fun t ht hW => ⟨⟨v, (), rfl, ev, by subst ht; exact hP⟩, hS.F ht⟩) hS.2.2 hdg hlk
theorem gH_G {ws : List Cond} (h : GoodIn lw_G ws) : GoodIn lw_H ws := fun w hw => ⟨List.mem_append_right _ (h w hw).1, (h w hw).2⟩
theorem gH_H : GoodIn lw_H lw_H := fun w h => ⟨h, good_of_word ((List.mem_append.mp h).elim (x_gd w) (gd_G w))⟩
theorem gH_c {w : Cond} {l : List Cond} (h : w ∈ lw_G) (hl : GoodIn lw_H l) : GoodIn lw_H (w :: l) := fun x hx => (List.mem_cons.mp hx).elim (fun e => by rw [e]; exact ⟨List.mem_append_right _ h, good_of_word (gd_G w h)⟩) (hl x)
theorem gH_V {own C : String} {idx : Nat} {y : MethodName} {l : List Cond} (h1 : Cond.methodLink own idx y ∈ lw_G) (h2 : Cond.instanceMethod y ∈ lw_G) (h3 : Cond.selects C y y ∈ lw_G) (h4 : Cond.initialized C ∈ lw_G) (hl : GoodIn lw_H l) : GoodIn lw_H (wsV own idx C y l) := gH_c h1 (gH_c h2 (gH_c h3 (gH_c h4 hl)))
theorem gH_S {own : String} {idx : Nat} {y : MethodName} {l : List Cond} (h1 : Cond.methodLink own idx y ∈ lw_G) (h2 : Cond.static y ∈ lw_G) (h4 : Cond.initialized y.cls ∈ lw_G) (hl : GoodIn lw_H l) : GoodIn lw_H (va_wsS own idx y l) := gH_c h1 (gH_c h2 (gH_c h4 hl))
theorem un_size {a : Nat → Nat} {cI cJ : ClassId} {xs : Nat → Int32} {ys : Nat → Int32} {pl : Nat → Int32} {kp : Nat → Int32} {lp : Nat → Int64} {lq : Nat → Int64} {lr : Nat → Int64} {v0 : Int32} {v1 : Int32} {v2 : Int32} {v3 : Int32} {v4 : Int32} {v5 : Int32} {v6 : Int32} {v7 : Int32} {v8 : Int32} {v9 : Int32} {v10 : Int32} {o : Nat} {fo : Nat → Int64} {p1 : Int32} {k : Int32} (hk : ¬ k = 0) (e1 : (f_X5_size pl v5 p1).1 = k) : ((wC a cI cJ xs ys ((f_X5_size pl v5 p1).2.2.1) kp lp lq lr v0 v1 v2 v3 v4 ((f_X5_size pl v5 p1).2.2.2) v6 v7 v8 v9 v10) ++ wO o cJ (oF (f_X5_size pl v5 p1).1 (Int32.toInt64 (f_X5_size pl v5 p1).2.1) fo)) = ((wC a cI cJ xs ys pl kp lp lq lr v0 v1 v2 v3 v4 v5 v6 v7 v8 v9 v10) ++ wO o cJ fo) := by
  have h0 : ¬ (f_X5_size pl v5 p1).1 = 0 := by rw [e1]; exact hk
  have h1 : oF (f_X5_size pl v5 p1).1 (Int32.toInt64 (f_X5_size pl v5 p1).2.1) fo = fo := if_neg h0
  rw [h1]
  have g_pl : (f_X5_size pl v5 p1).2.2.1 = pl := by
    revert h0
    unfold f_X5_size
    repeat' split
    all_goals first | (intro _; rfl) | (intro h; exact absurd rfl h)
  have g_v5 : (f_X5_size pl v5 p1).2.2.2 = v5 := by
    revert h0
    unfold f_X5_size
    repeat' split
    all_goals first | (intro _; rfl) | (intro h; exact absurd rfl h)
  rw [g_pl, g_v5]
theorem hs_L_size : yL_size.cls ≠ "java/lang/invoke/MethodHandle" ∧ yL_size.cls ≠ "java/lang/invoke/VarHandle" ∧ (parseMethodDescriptor yL_size.desc).map (fun d => d.parameters.length) = some 3 := by decide +kernel
theorem ne2_size {pl : Nat → Int32} {v5 : Int32} {p1 : Int32} : (f_X5_size pl v5 p1).1 ≠ 2 := by
  unfold f_X5_size
  repeat' split
  all_goals first | exact (by decide : (0 : Int32) ≠ 2) | exact (by decide : (1 : Int32) ≠ 2)
abbrev rm_L_size : Room := { frames := 7, cells := 1, slots := 8, locals := 103 }
set_option maxHeartbeats 8000000 in
set_option maxRecDepth 100000 in
theorem c_L_size (l : Launch) (dC : Nat → ClassId) (dI : Nat → Nat → Nat) (a : Nat → Nat) (cI cJ : ClassId) (xs : Nat → Int32) (ys : Nat → Int32) (pl : Nat → Int32) (kp : Nat → Int32) (lp : Nat → Int64) (lq : Nat → Int64) (lr : Nat → Int64) (v0 : Int32) (v1 : Int32) (v2 : Int32) (v3 : Int32) (v4 : Int32) (v5 : Int32) (v6 : Int32) (v7 : Int32) (v8 : Int32) (v9 : Int32) (v10 : Int32) (sa : Nat → Nat) (hlt : l.stackTraces = false) (o : Nat) (fo : Nat → Int64) (p1 : Int32) : Met l yL_size (Cond.codeWith yL_size cL_size 4 (some .int) [(0, 9, 12, 13)] :: lw_H) rm_L_size (xPc (dC, dI) (tIJ cI cJ) sa ((wC a cI cJ xs ys pl kp lp lq lr v0 v1 v2 v3 v4 v5 v6 v7 v8 v9 v10) ++ wO o cJ fo) [.ref (a 0), .int p1, .ref o]) (wQi (dC, dI) (wA ((wC a cI cJ xs ys pl kp lp lq lr v0 v1 v2 v3 v4 v5 v6 v7 v8 v9 v10) ++ wO o cJ fo)) ((wC a cI cJ xs ys ((f_X5_size pl v5 p1).2.2.1) kp lp lq lr v0 v1 v2 v3 v4 ((f_X5_size pl v5 p1).2.2.2) v6 v7 v8 v9 v10) ++ wO o cJ (oF (f_X5_size pl v5 p1).1 (Int32.toInt64 (f_X5_size pl v5 p1).2.1) fo)) (f_X5_size pl v5 p1).1) 1 8 (wA ((wC a cI cJ xs ys pl kp lp lq lr v0 v1 v2 v3 v4 v5 v6 v7 v8 v9 v10) ++ wO o cJ fo)) := by
  refine hm_of (by decide) (Nat.le_of_ble_eq_true rfl) ?_
  intro p e s m args below meth c Q ls hQ hx hb hr hlk hml hown htH htab hP hK hD hX hS hl
  have hown : s.vm.findClass RL = some m.cls := hown
  have hts : ∀ w ∈ lw_G, w.before args s = true := fun w h => htH w (List.mem_append_right _ h)
  have hl : lv_has ls 4 [(0, .ref (a 0)), (1, .int p1), (2, .ref o)] := hl
  generalize hAe : wA ((wC a cI cJ xs ys pl kp lp lq lr v0 v1 v2 v3 v4 v5 v6 v7 v8 v9 v10) ++ wO o cJ fo) = A at hQ hD hX hS
  refine lv_aload_n hx hb dL_size_0 rfl (lv_at hl 2 rfl) ?_
  refine lv_iconst (v := (0 : Int32)) hx hb dL_size_1 (by decide) ?_
  refine lv_aload_n hx hb dL_size_2 rfl (lv_at hl 0 rfl) ?_
  refine lv_iload_n hx hb dL_size_3 rfl (lv_at hl 1 rfl) ?_
  have hAs := wA.sub hD.left
  refine vx_calli (vx_runV (As := [.int p1]) (rest := [.int 0, .ref o]) ⟨hx, hb, hml, hown, htH⟩ (c_X5_size l dC dI a cI cJ xs ys pl kp lp lq lr v0 v1 v2 v3 v4 v5 v6 v7 v8 v9 v10 sa hlt p1 ) (cwV 1 htH (gH_V mG_6_2 mG_6_3 mG_6_4 mG_1_2 (gH_c mG_6_5 gH_H)) rfl rfl rfl hd_X5_size ⟨Nat.le_of_ble_eq_true rfl, Nat.le_of_ble_eq_true rfl⟩) (xPcV (ci := 9) (q0 := 0) hK hP.left hD.left hX hS rfl rfl) rfl rfl hl.1 rfl (lv_room (Nat.le_of_ble_eq_true rfl)) dL_size_4 ⟨Nat.le_of_ble_eq_true rfl, Nat.le_of_ble_eq_true rfl⟩) hS (fun q _ h => hAs q h) (fun q h => hAs q h) (fun q _ h => hAs q h) (fun E ce q9 u t H1 locs1 ht hvm hp hB hz1 hk1 hS1 hce hcv hcl => ?_) (fun r u t H1 locs1 ht hvm hw hB hz1 hk1 hS1 => ?_)
  · obtain ⟨hEk, hB⟩ := hB
    rw [ht] at hB
    have hP1 := jn_1 hP hD hB hk1
    rcases hEk with hc | hc
    · skip
      have e1 : (f_X5_size pl v5 p1).1 = 1 := hc.2
      have hce2 := hc.1
      subst hce2
      refine vx_catch (name := eN1) hown [] ⟨0, 9, 12, 13⟩ [] (by rw [htab]; rfl) (fun z hz => absurd hz List.not_mem_nil) (by decide) (by decide) (hts _ mG_6_1) (va_Nw.use rfl hX.2.2.2.2.2.2.2.2.2.2.1) hce hcv hcl ?_
      refine lv_astore_n (lv' := [(3, .ref q9), (0, .ref (a 0)), (1, .int p1), (2, .ref o)]) hx hb dL_size_12 rfl hl (by decide) rfl (fun ls hl => ?_)
      refine lv_iconst (v := (1 : Int32)) hx hb dL_size_13 (by decide) ?_
      exact rh_i hQ hx hb hr hlk (by rw [un_size (k := 1) (by decide) e1]; exact hP1) hS1 e1.symm dL_size_14
    · exact absurd hc.2 ne2_size
  · obtain ⟨hk0, hr0⟩ := hw
    rw [ht] at hB
    have hP1 := jn_1 hP hD hB hk1
    have hD1 := hD.addr (w1 := (wC a cI cJ xs ys ((f_X5_size pl v5 p1).2.2.1) kp lp lq lr v0 v1 v2 v3 v4 ((f_X5_size pl v5 p1).2.2.2) v6 v7 v8 v9 v10) ++ wO o cJ fo) rfl
    subst hr0
    refine lv_i2l hx hb dL_size_7 rfl ?_
    refine va_last hx hb hK.1 hP1 hD1 hS1 13 1 rfl rfl (by rw [vp_in_iff]; decide) dL_size_8 (fun H locs hP hD hS => ?_)
    refine lv_goto (tgt := 15) hx hb dL_size_9 (by decide) ?_
    refine lv_iconst (v := (0 : Int32)) hx hb dL_size_15 (by decide) ?_
    exact rh_i hQ hx hb hr hlk (by have hU : oF (f_X5_size pl v5 p1).1 (Int32.toInt64 (f_X5_size pl v5 p1).2.1) fo = vp_updL fo (Int32.toNatClampNeg 0) (Int32.toInt64 (f_X5_size pl v5 p1).2.1) := if_pos hk0; rw [hU]; exact hP) hS hk0.symm dL_size_16
theorem un_of {a : Nat → Nat} {cI cJ : ClassId} {xs : Nat → Int32} {ys : Nat → Int32} {pl : Nat → Int32} {kp : Nat → Int32} {lp : Nat → Int64} {lq : Nat → Int64} {lr : Nat → Int64} {v0 : Int32} {v1 : Int32} {v2 : Int32} {v3 : Int32} {v4 : Int32} {v5 : Int32} {v6 : Int32} {v7 : Int32} {v8 : Int32} {v9 : Int32} {v10 : Int32} {o : Nat} {fo : Nat → Int64} {p1 : Int32} {p2 : Int32} {k : Int32} (hk : ¬ k = 0) (e1 : (f_X5_of pl v0 v5 p1 p2).1 = k) : ((wC a cI cJ xs ys ((f_X5_of pl v0 v5 p1 p2).2.2) kp lp lq lr v0 v1 v2 v3 v4 v5 v6 v7 v8 v9 v10) ++ wO o cJ (oF (f_X5_of pl v0 v5 p1 p2).1 (Int32.toInt64 (f_X5_of pl v0 v5 p1 p2).2.1) fo)) = ((wC a cI cJ xs ys pl kp lp lq lr v0 v1 v2 v3 v4 v5 v6 v7 v8 v9 v10) ++ wO o cJ fo) := by
  have h0 : ¬ (f_X5_of pl v0 v5 p1 p2).1 = 0 := by rw [e1]; exact hk
  have h1 : oF (f_X5_of pl v0 v5 p1 p2).1 (Int32.toInt64 (f_X5_of pl v0 v5 p1 p2).2.1) fo = fo := if_neg h0
  rw [h1]
  have g_pl : (f_X5_of pl v0 v5 p1 p2).2.2 = pl := by
    revert h0
    unfold f_X5_of
    repeat' split
    all_goals first | (intro _; rfl) | (intro h; exact absurd rfl h)
  rw [g_pl]
theorem hs_L_of : yL_of.cls ≠ "java/lang/invoke/MethodHandle" ∧ yL_of.cls ≠ "java/lang/invoke/VarHandle" ∧ (parseMethodDescriptor yL_of.desc).map (fun d => d.parameters.length) = some 4 := by decide +kernel
theorem ne2_of {pl : Nat → Int32} {v0 v5 : Int32} {p1 : Int32} {p2 : Int32} : (f_X5_of pl v0 v5 p1 p2).1 ≠ 2 := by
  unfold f_X5_of
  repeat' split
  all_goals first | exact (by decide : (0 : Int32) ≠ 2) | exact (by decide : (1 : Int32) ≠ 2)
abbrev rm_L_of : Room := { frames := 8, cells := 1, slots := 8, locals := 117 }
set_option maxHeartbeats 8000000 in
set_option maxRecDepth 100000 in
theorem c_L_of (l : Launch) (dC : Nat → ClassId) (dI : Nat → Nat → Nat) (a : Nat → Nat) (cI cJ : ClassId) (xs : Nat → Int32) (ys : Nat → Int32) (pl : Nat → Int32) (kp : Nat → Int32) (lp : Nat → Int64) (lq : Nat → Int64) (lr : Nat → Int64) (v0 : Int32) (v1 : Int32) (v2 : Int32) (v3 : Int32) (v4 : Int32) (v5 : Int32) (v6 : Int32) (v7 : Int32) (v8 : Int32) (v9 : Int32) (v10 : Int32) (sa : Nat → Nat) (hlt : l.stackTraces = false) (o : Nat) (fo : Nat → Int64) (p1 : Int32) (p2 : Int32) (hh : v5 ≤ 24) : Met l yL_of (Cond.codeWith yL_of cL_of 5 (some .int) [(0, 10, 13, 19)] :: lw_H) rm_L_of (xPc (dC, dI) (tIJ cI cJ) sa ((wC a cI cJ xs ys pl kp lp lq lr v0 v1 v2 v3 v4 v5 v6 v7 v8 v9 v10) ++ wO o cJ fo) [.ref (a 0), .int p1, .int p2, .ref o]) (wQi (dC, dI) (wA ((wC a cI cJ xs ys pl kp lp lq lr v0 v1 v2 v3 v4 v5 v6 v7 v8 v9 v10) ++ wO o cJ fo)) ((wC a cI cJ xs ys ((f_X5_of pl v0 v5 p1 p2).2.2) kp lp lq lr v0 v1 v2 v3 v4 v5 v6 v7 v8 v9 v10) ++ wO o cJ (oF (f_X5_of pl v0 v5 p1 p2).1 (Int32.toInt64 (f_X5_of pl v0 v5 p1 p2).2.1) fo)) (f_X5_of pl v0 v5 p1 p2).1) 1 8 (wA ((wC a cI cJ xs ys pl kp lp lq lr v0 v1 v2 v3 v4 v5 v6 v7 v8 v9 v10) ++ wO o cJ fo)) := by
  refine hm_of (by decide) (Nat.le_of_ble_eq_true rfl) ?_
  intro p e s m args below meth c Q ls hQ hx hb hr hlk hml hown htH htab hP hK hD hX hS hl
  have hown : s.vm.findClass RL = some m.cls := hown
  have hts : ∀ w ∈ lw_G, w.before args s = true := fun w h => htH w (List.mem_append_right _ h)
  have hl : lv_has ls 5 [(0, .ref (a 0)), (1, .int p1), (2, .int p2), (3, .ref o)] := hl
  generalize hAe : wA ((wC a cI cJ xs ys pl kp lp lq lr v0 v1 v2 v3 v4 v5 v6 v7 v8 v9 v10) ++ wO o cJ fo) = A at hQ hD hX hS
  refine lv_aload_n hx hb dL_of_0 rfl (lv_at hl 3 rfl) ?_
  refine lv_iconst (v := (0 : Int32)) hx hb dL_of_1 (by decide) ?_
  refine lv_aload_n hx hb dL_of_2 rfl (lv_at hl 0 rfl) ?_
  refine lv_iload_n hx hb dL_of_3 rfl (lv_at hl 1 rfl) ?_
  refine lv_iload_n hx hb dL_of_4 rfl (lv_at hl 2 rfl) ?_
  have hAs := wA.sub hD.left
  refine vx_calli (vx_runV (As := [.int p1, .int p2]) (rest := [.int 0, .ref o]) ⟨hx, hb, hml, hown, htH⟩ (c_X5_of l dC dI a cI cJ xs ys pl kp lp lq lr v0 v1 v2 v3 v4 v5 v6 v7 v8 v9 v10 sa hlt p1 p2 hh) (cwV 2 htH (gH_V mG_7_6 mG_7_7 mG_7_8 mG_1_2 (gH_c mG_7_9 gH_H)) rfl rfl rfl hd_X5_of ⟨Nat.le_of_ble_eq_true rfl, Nat.le_of_ble_eq_true rfl⟩) (xPcV (ci := 9) (q0 := 0) hK hP.left hD.left hX hS rfl rfl) rfl rfl hl.1 rfl (lv_room (Nat.le_of_ble_eq_true rfl)) dL_of_5 ⟨Nat.le_of_ble_eq_true rfl, Nat.le_of_ble_eq_true rfl⟩) hS (fun q _ h => hAs q h) (fun q h => hAs q h) (fun q _ h => hAs q h) (fun E ce q9 u t H1 locs1 ht hvm hp hB hz1 hk1 hS1 hce hcv hcl => ?_) (fun r u t H1 locs1 ht hvm hw hB hz1 hk1 hS1 => ?_)
  · obtain ⟨hEk, hB⟩ := hB
    rw [ht] at hB
    have hP1 := jn_1 hP hD hB hk1
    rcases hEk with hc | hc
    · skip
      have e1 : (f_X5_of pl v0 v5 p1 p2).1 = 1 := hc.2
      have hce2 := hc.1
      subst hce2
      refine vx_catch (name := eA1) hown [] ⟨0, 10, 13, 19⟩ [] (by rw [htab]; rfl) (fun z hz => absurd hz List.not_mem_nil) (by decide) (by decide) (hts _ mG_7_5) (va_Nw.use rfl hX.2.2.2.2.2.2.2.2.2.2.2.1) hce hcv hcl ?_
      refine lv_astore (lv' := [(4, .ref q9), (0, .ref (a 0)), (1, .int p1), (2, .int p2), (3, .ref o)]) hx hb dL_of_13 hl (by decide) rfl (fun ls hl => ?_)
      refine lv_iconst (v := (1 : Int32)) hx hb dL_of_15 (by decide) ?_
      exact rh_i hQ hx hb hr hlk (by rw [un_of (k := 1) (by decide) e1]; exact hP1) hS1 e1.symm dL_of_16
    · exact absurd hc.2 ne2_of
  · obtain ⟨hk0, hr0⟩ := hw
    rw [ht] at hB
    have hP1 := jn_1 hP hD hB hk1
    have hD1 := hD.addr (w1 := (wC a cI cJ xs ys ((f_X5_of pl v0 v5 p1 p2).2.2) kp lp lq lr v0 v1 v2 v3 v4 v5 v6 v7 v8 v9 v10) ++ wO o cJ fo) rfl
    subst hr0
    refine lv_i2l hx hb dL_of_8 rfl ?_
    refine va_last hx hb hK.1 hP1 hD1 hS1 13 1 rfl rfl (by rw [vp_in_iff]; decide) dL_of_9 (fun H locs hP hD hS => ?_)
    refine lv_goto (tgt := 17) hx hb dL_of_10 (by decide) ?_
    refine lv_iconst (v := (0 : Int32)) hx hb dL_of_17 (by decide) ?_
    exact rh_i hQ hx hb hr hlk (by have hU : oF (f_X5_of pl v0 v5 p1 p2).1 (Int32.toInt64 (f_X5_of pl v0 v5 p1 p2).2.1) fo = vp_updL fo (Int32.toNatClampNeg 0) (Int32.toInt64 (f_X5_of pl v0 v5 p1 p2).2.1) := if_pos hk0; rw [hU]; exact hP) hS hk0.symm dL_of_18
theorem un_at {a : Nat → Nat} {cI cJ : ClassId} {xs : Nat → Int32} {ys : Nat → Int32} {pl : Nat → Int32} {kp : Nat → Int32} {lp : Nat → Int64} {lq : Nat → Int64} {lr : Nat → Int64} {v0 : Int32} {v1 : Int32} {v2 : Int32} {v3 : Int32} {v4 : Int32} {v5 : Int32} {v6 : Int32} {v7 : Int32} {v8 : Int32} {v9 : Int32} {v10 : Int32} {o : Nat} {fo : Nat → Int64} {p1 : Int32} {p2 : Int32} {k : Int32} (hk : ¬ k = 0) (e1 : (f_X5_at xs ys pl v0 v5 p1 p2).1 = k) : ((wC a cI cJ xs ys pl kp lp lq lr v0 v1 v2 v3 v4 v5 v6 v7 v8 v9 v10) ++ wO o cJ (oF (f_X5_at xs ys pl v0 v5 p1 p2).1 (Int32.toInt64 (f_X5_at xs ys pl v0 v5 p1 p2).2) fo)) = ((wC a cI cJ xs ys pl kp lp lq lr v0 v1 v2 v3 v4 v5 v6 v7 v8 v9 v10) ++ wO o cJ fo) := by
  have h0 : ¬ (f_X5_at xs ys pl v0 v5 p1 p2).1 = 0 := by rw [e1]; exact hk
  have h1 : oF (f_X5_at xs ys pl v0 v5 p1 p2).1 (Int32.toInt64 (f_X5_at xs ys pl v0 v5 p1 p2).2) fo = fo := if_neg h0
  rw [h1]
theorem hs_L_at : yL_at.cls ≠ "java/lang/invoke/MethodHandle" ∧ yL_at.cls ≠ "java/lang/invoke/VarHandle" ∧ (parseMethodDescriptor yL_at.desc).map (fun d => d.parameters.length) = some 4 := by decide +kernel
abbrev rm_L_at : Room := { frames := 11, cells := 1, slots := 8, locals := 10293 }
set_option maxHeartbeats 8000000 in
set_option maxRecDepth 100000 in
theorem c_L_at (l : Launch) (dC : Nat → ClassId) (dI : Nat → Nat → Nat) (a : Nat → Nat) (cI cJ : ClassId) (xs : Nat → Int32) (ys : Nat → Int32) (pl : Nat → Int32) (kp : Nat → Int32) (lp : Nat → Int64) (lq : Nat → Int64) (lr : Nat → Int64) (v0 : Int32) (v1 : Int32) (v2 : Int32) (v3 : Int32) (v4 : Int32) (v5 : Int32) (v6 : Int32) (v7 : Int32) (v8 : Int32) (v9 : Int32) (v10 : Int32) (sa : Nat → Nat) (hlt : l.stackTraces = false) (o : Nat) (fo : Nat → Int64) (p1 : Int32) (p2 : Int32) (hv0 : v0 ≤ 60) (hh : v5 ≤ 24) : Met l yL_at (Cond.codeWith yL_at cL_at 5 (some .int) [(0, 10, 13, 19), (0, 10, 17, 24)] :: lw_H) rm_L_at (xPc (dC, dI) (tIJ cI cJ) sa ((wC a cI cJ xs ys pl kp lp lq lr v0 v1 v2 v3 v4 v5 v6 v7 v8 v9 v10) ++ wO o cJ fo) [.ref (a 0), .int p1, .int p2, .ref o]) (wQi (dC, dI) (wA ((wC a cI cJ xs ys pl kp lp lq lr v0 v1 v2 v3 v4 v5 v6 v7 v8 v9 v10) ++ wO o cJ fo)) ((wC a cI cJ xs ys pl kp lp lq lr v0 v1 v2 v3 v4 v5 v6 v7 v8 v9 v10) ++ wO o cJ (oF (f_X5_at xs ys pl v0 v5 p1 p2).1 (Int32.toInt64 (f_X5_at xs ys pl v0 v5 p1 p2).2) fo)) (f_X5_at xs ys pl v0 v5 p1 p2).1) 1 8 (wA ((wC a cI cJ xs ys pl kp lp lq lr v0 v1 v2 v3 v4 v5 v6 v7 v8 v9 v10) ++ wO o cJ fo)) := by
  refine hm_of (by decide) (Nat.le_of_ble_eq_true rfl) ?_
  intro p e s m args below meth c Q ls hQ hx hb hr hlk hml hown htH htab hP hK hD hX hS hl
  have hown : s.vm.findClass RL = some m.cls := hown
  have hts : ∀ w ∈ lw_G, w.before args s = true := fun w h => htH w (List.mem_append_right _ h)
  have hl : lv_has ls 5 [(0, .ref (a 0)), (1, .int p1), (2, .int p2), (3, .ref o)] := hl
  generalize hAe : wA ((wC a cI cJ xs ys pl kp lp lq lr v0 v1 v2 v3 v4 v5 v6 v7 v8 v9 v10) ++ wO o cJ fo) = A at hQ hD hX hS
  refine lv_aload_n hx hb dL_at_0 rfl (lv_at hl 3 rfl) ?_
  refine lv_iconst (v := (0 : Int32)) hx hb dL_at_1 (by decide) ?_
  refine lv_aload_n hx hb dL_at_2 rfl (lv_at hl 0 rfl) ?_
  refine lv_iload_n hx hb dL_at_3 rfl (lv_at hl 1 rfl) ?_
  refine lv_iload_n hx hb dL_at_4 rfl (lv_at hl 2 rfl) ?_
  have hAs := wA.sub hD.left
  refine vx_calli (vx_runV (As := [.int p1, .int p2]) (rest := [.int 0, .ref o]) ⟨hx, hb, hml, hown, htH⟩ (c_X5_at l dC dI a cI cJ xs ys pl kp lp lq lr v0 v1 v2 v3 v4 v5 v6 v7 v8 v9 v10 sa hlt p1 p2 hv0 hh) (cwV 2 htH (gH_V mG_8_17 mG_8_18 mG_8_19 mG_1_2 (gH_c mG_8_20 gH_H)) rfl rfl rfl hd_X5_at ⟨Nat.le_of_ble_eq_true rfl, Nat.le_of_ble_eq_true rfl⟩) (xPcV (ci := 9) (q0 := 0) hK hP.left hD.left hX hS rfl rfl) rfl rfl hl.1 rfl (lv_room (Nat.le_of_ble_eq_true rfl)) dL_at_5 ⟨Nat.le_of_ble_eq_true rfl, Nat.le_of_ble_eq_true rfl⟩) hS (fun q _ h => hAs q h) (fun q h => hAs q h) (fun q _ h => hAs q h) (fun E ce q9 u t H1 locs1 ht hvm hp hB hz1 hk1 hS1 hce hcv hcl => ?_) (fun r u t H1 locs1 ht hvm hw hB hz1 hk1 hS1 => ?_)
  · obtain ⟨hEk, hB⟩ := hB
    rw [ht] at hB
    have hP1 := jn_1 hP hD hB hk1
    rcases hEk with hc | hc
    · skip
      have e1 : (f_X5_at xs ys pl v0 v5 p1 p2).1 = 1 := hc.2
      have hce2 := hc.1
      subst hce2
      refine vx_catch (name := eA1) hown [] ⟨0, 10, 13, 19⟩ [⟨0, 10, 17, 24⟩] (by rw [htab]; rfl) (fun z hz => absurd hz List.not_mem_nil) (by decide) (by decide) (hts _ mG_7_5) (va_Nw.use rfl hX.2.2.2.2.2.2.2.2.2.2.2.1) hce hcv hcl ?_
      refine lv_astore (lv' := [(4, .ref q9), (0, .ref (a 0)), (1, .int p1), (2, .int p2), (3, .ref o)]) hx hb dL_at_13 hl (by decide) rfl (fun ls hl => ?_)
      refine lv_iconst (v := (1 : Int32)) hx hb dL_at_15 (by decide) ?_
      exact rh_i hQ hx hb hr hlk (by rw [un_at (k := 1) (by decide) e1]; exact hP1) hS1 e1.symm dL_at_16
    · skip
      have e1 : (f_X5_at xs ys pl v0 v5 p1 p2).1 = 2 := hc.2
      have hce2 := hc.1
      subst hce2
      refine vx_catch (name := eP1) hown [⟨0, 10, 13, 19⟩] ⟨0, 10, 17, 24⟩ [] (by rw [htab]; rfl) (fun z hz => by rw [List.mem_singleton.mp hz]; exact Or.inr ⟨by decide, eA1, hts _ mG_7_5, hX.2.2.2.2.2.2.2.2.2.2.2.2.2.2⟩) (by decide) (by decide) (hts _ mG_8_16) (va_Nw.use rfl hX.2.2.2.2.2.2.2.2.2.2.2.2.2.1.1) hce hcv hcl ?_
      refine lv_astore (lv' := [(4, .ref q9), (0, .ref (a 0)), (1, .int p1), (2, .int p2), (3, .ref o)]) hx hb dL_at_17 hl (by decide) rfl (fun ls hl => ?_)
      refine lv_iconst (v := (2 : Int32)) hx hb dL_at_19 (by decide) ?_
      exact rh_i hQ hx hb hr hlk (by rw [un_at (k := 2) (by decide) e1]; exact hP1) hS1 e1.symm dL_at_20
  · obtain ⟨hk0, hr0⟩ := hw
    rw [ht] at hB
    have hP1 := jn_1 hP hD hB hk1
    have hD1 := hD.addr (w1 := (wC a cI cJ xs ys pl kp lp lq lr v0 v1 v2 v3 v4 v5 v6 v7 v8 v9 v10) ++ wO o cJ fo) rfl
    subst hr0
    refine lv_i2l hx hb dL_at_8 rfl ?_
    refine va_last hx hb hK.1 hP1 hD1 hS1 13 1 rfl rfl (by rw [vp_in_iff]; decide) dL_at_9 (fun H locs hP hD hS => ?_)
    refine lv_goto (tgt := 21) hx hb dL_at_10 (by decide) ?_
    refine lv_iconst (v := (0 : Int32)) hx hb dL_at_21 (by decide) ?_
    exact rh_i hQ hx hb hr hlk (by have hU : oF (f_X5_at xs ys pl v0 v5 p1 p2).1 (Int32.toInt64 (f_X5_at xs ys pl v0 v5 p1 p2).2) fo = vp_updL fo (Int32.toNatClampNeg 0) (Int32.toInt64 (f_X5_at xs ys pl v0 v5 p1 p2).2) := if_pos hk0; rw [hU]; exact hP) hS hk0.symm dL_at_22
theorem un_area {a : Nat → Nat} {cI cJ : ClassId} {xs : Nat → Int32} {ys : Nat → Int32} {pl : Nat → Int32} {kp : Nat → Int32} {lp : Nat → Int64} {lq : Nat → Int64} {lr : Nat → Int64} {v0 : Int32} {v1 : Int32} {v2 : Int32} {v3 : Int32} {v4 : Int32} {v5 : Int32} {v6 : Int32} {v7 : Int32} {v8 : Int32} {v9 : Int32} {v10 : Int32} {o : Nat} {fo : Nat → Int64} {p1 : Int32} {p2 : Int64} {k : Int32} (hk : ¬ k = 0) (e1 : (f_X5_area xs ys pl v5 p1 p2).1 = k) : ((wC a cI cJ xs ys pl kp lp lq lr v0 v1 v2 v3 v4 v5 v6 v7 v8 v9 v10) ++ wO o cJ (oF (f_X5_area xs ys pl v5 p1 p2).1 ((f_X5_area xs ys pl v5 p1 p2).2) fo)) = ((wC a cI cJ xs ys pl kp lp lq lr v0 v1 v2 v3 v4 v5 v6 v7 v8 v9 v10) ++ wO o cJ fo) := by
  have h0 : ¬ (f_X5_area xs ys pl v5 p1 p2).1 = 0 := by rw [e1]; exact hk
  have h1 : oF (f_X5_area xs ys pl v5 p1 p2).1 ((f_X5_area xs ys pl v5 p1 p2).2) fo = fo := if_neg h0
  rw [h1]
theorem hs_L_area : yL_area.cls ≠ "java/lang/invoke/MethodHandle" ∧ yL_area.cls ≠ "java/lang/invoke/VarHandle" ∧ (parseMethodDescriptor yL_area.desc).map (fun d => d.parameters.length) = some 4 := by decide +kernel
theorem ne2_area {xs ys pl : Nat → Int32} {v5 : Int32} {p1 : Int32} {p2 : Int64} : (f_X5_area xs ys pl v5 p1 p2).1 ≠ 2 := by
  unfold f_X5_area
  repeat' split
  all_goals first | exact (by decide : (0 : Int32) ≠ 2) | exact (by decide : (1 : Int32) ≠ 2)
abbrev rm_L_area : Room := { frames := 7, cells := 1, slots := 8, locals := 105 }
set_option maxHeartbeats 8000000 in
set_option maxRecDepth 100000 in
theorem c_L_area (l : Launch) (dC : Nat → ClassId) (dI : Nat → Nat → Nat) (a : Nat → Nat) (cI cJ : ClassId) (xs : Nat → Int32) (ys : Nat → Int32) (pl : Nat → Int32) (kp : Nat → Int32) (lp : Nat → Int64) (lq : Nat → Int64) (lr : Nat → Int64) (v0 : Int32) (v1 : Int32) (v2 : Int32) (v3 : Int32) (v4 : Int32) (v5 : Int32) (v6 : Int32) (v7 : Int32) (v8 : Int32) (v9 : Int32) (v10 : Int32) (sa : Nat → Nat) (hlt : l.stackTraces = false) (o : Nat) (fo : Nat → Int64) (p1 : Int32) (p2 : Int64) (hh : v5 ≤ 24) (hpl : ∀ j : Nat, pl j = -1 ∨ vp_in (pl j) 60) : Met l yL_area (Cond.codeWith yL_area cL_area 6 (some .int) [(0, 10, 13, 30)] :: lw_H) rm_L_area (xPc (dC, dI) (tIJ cI cJ) sa ((wC a cI cJ xs ys pl kp lp lq lr v0 v1 v2 v3 v4 v5 v6 v7 v8 v9 v10) ++ wO o cJ fo) [.ref (a 0), .int p1, .long p2, .ref o]) (wQi (dC, dI) (wA ((wC a cI cJ xs ys pl kp lp lq lr v0 v1 v2 v3 v4 v5 v6 v7 v8 v9 v10) ++ wO o cJ fo)) ((wC a cI cJ xs ys pl kp lp lq lr v0 v1 v2 v3 v4 v5 v6 v7 v8 v9 v10) ++ wO o cJ (oF (f_X5_area xs ys pl v5 p1 p2).1 ((f_X5_area xs ys pl v5 p1 p2).2) fo)) (f_X5_area xs ys pl v5 p1 p2).1) 1 8 (wA ((wC a cI cJ xs ys pl kp lp lq lr v0 v1 v2 v3 v4 v5 v6 v7 v8 v9 v10) ++ wO o cJ fo)) := by
  refine hm_of (by decide) (Nat.le_of_ble_eq_true rfl) ?_
  intro p e s m args below meth c Q ls hQ hx hb hr hlk hml hown htH htab hP hK hD hX hS hl
  have hown : s.vm.findClass RL = some m.cls := hown
  have hts : ∀ w ∈ lw_G, w.before args s = true := fun w h => htH w (List.mem_append_right _ h)
  have hl : lv_has ls 6 [(0, .ref (a 0)), (1, .int p1), (2, .long p2), (4, .ref o)] := hl
  generalize hAe : wA ((wC a cI cJ xs ys pl kp lp lq lr v0 v1 v2 v3 v4 v5 v6 v7 v8 v9 v10) ++ wO o cJ fo) = A at hQ hD hX hS
  refine lv_aload hx hb dL_area_0 (lv_at hl 3 rfl) ?_
  refine lv_iconst (v := (0 : Int32)) hx hb dL_area_2 (by decide) ?_
  refine lv_aload_n hx hb dL_area_3 rfl (lv_at hl 0 rfl) ?_
  refine lv_iload_n hx hb dL_area_4 rfl (lv_at hl 1 rfl) ?_
  refine lv_lload_n hx hb dL_area_5 rfl (lv_at hl 2 rfl) ?_
  have hAs := wA.sub hD.left
  refine vx_calll (vx_runV (As := [.int p1, .long p2]) (rest := [.int 0, .ref o]) ⟨hx, hb, hml, hown, htH⟩ (c_X5_area l dC dI a cI cJ xs ys pl kp lp lq lr v0 v1 v2 v3 v4 v5 v6 v7 v8 v9 v10 sa hlt p1 p2 hh hpl) (cwV 2 htH (gH_V mG_26_18 mG_26_19 mG_26_20 mG_1_2 (gH_c mG_26_21 gH_H)) rfl rfl rfl hd_X5_area ⟨Nat.le_of_ble_eq_true rfl, Nat.le_of_ble_eq_true rfl⟩) (xPcV (ci := 9) (q0 := 0) hK hP.left hD.left hX hS rfl rfl) rfl rfl hl.1 rfl (lv_room (Nat.le_of_ble_eq_true rfl)) dL_area_6 ⟨Nat.le_of_ble_eq_true rfl, Nat.le_of_ble_eq_true rfl⟩) hS (fun q _ h => hAs q h) (fun q h => hAs q h) (fun q _ h => hAs q h) (fun E ce q9 u t H1 locs1 ht hvm hp hB hz1 hk1 hS1 hce hcv hcl => ?_) (fun r u t H1 locs1 ht hvm hw hB hz1 hk1 hS1 => ?_)
  · obtain ⟨hEk, hB⟩ := hB
    rw [ht] at hB
    have hP1 := jn_1 hP hD hB hk1
    rcases hEk with hc | hc
    · skip
      have e1 : (f_X5_area xs ys pl v5 p1 p2).1 = 1 := hc.2
      have hce2 := hc.1
      subst hce2
      refine vx_catch (name := eR1) hown [] ⟨0, 10, 13, 30⟩ [] (by rw [htab]; rfl) (fun z hz => absurd hz List.not_mem_nil) (by decide) (by decide) (hts _ mG_26_17) (va_Nw.use rfl hX.2.2.2.2.2.2.2.2.2.2.2.2.1) hce hcv hcl ?_
      refine lv_astore (lv' := [(5, .ref q9), (0, .ref (a 0)), (1, .int p1), (2, .long p2), (4, .ref o)]) hx hb dL_area_13 hl (by decide) rfl (fun ls hl => ?_)
      refine lv_iconst (v := (1 : Int32)) hx hb dL_area_15 (by decide) ?_
      exact rh_i hQ hx hb hr hlk (by rw [un_area (k := 1) (by decide) e1]; exact hP1) hS1 e1.symm dL_area_16
    · exact absurd hc.2 ne2_area
  · obtain ⟨hk0, hr0⟩ := hw
    rw [ht] at hB
    have hP1 := jn_1 hP hD hB hk1
    have hD1 := hD.addr (w1 := (wC a cI cJ xs ys pl kp lp lq lr v0 v1 v2 v3 v4 v5 v6 v7 v8 v9 v10) ++ wO o cJ fo) rfl
    subst hr0
    refine va_last hx hb hK.1 hP1 hD1 hS1 13 1 rfl rfl (by rw [vp_in_iff]; decide) dL_area_9 (fun H locs hP hD hS => ?_)
    refine lv_goto (tgt := 17) hx hb dL_area_10 (by decide) ?_
    refine lv_iconst (v := (0 : Int32)) hx hb dL_area_17 (by decide) ?_
    exact rh_i hQ hx hb hr hlk (by have hU : oF (f_X5_area xs ys pl v5 p1 p2).1 ((f_X5_area xs ys pl v5 p1 p2).2) fo = vp_updL fo (Int32.toNatClampNeg 0) ((f_X5_area xs ys pl v5 p1 p2).2) := if_pos hk0; rw [hU]; exact hP) hS hk0.symm dL_area_18
